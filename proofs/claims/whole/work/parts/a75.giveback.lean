/-! a value is given back: guards on the way, for the class -/
section GIVEBACK
variable {X : Cx} {d e er : Nat} {κ0 κ κa κb κ' : Km} {σ0 σ σa σ1 σ' : Rm} {F0 b v p n x q g k m : Nat} {fs r : List Frm} {f f' : Frm} {y u val vo ca : Int32} {Q : Res → Km → Prop}
variable {bd i j nv s md i' j' s' md' t h0 ph c : Nat} {pl pl' : Int32} {vs vs' : Nat → Int32} {L L0 Es : List Ite} {O O' : List Int32}
/-- what lies ahead of the first guard -/
def pg : List Ite → List Ite
  | [] => []
  | x :: r => if x.1 = 0 then x :: pg r else []
theorem pg_noG : ∀ L : List Ite, noG (pg L) := by
  intro L
  induction L with
  | nil => exact fun x hx => absurd hx List.not_mem_nil
  | cons a r ih =>
    intro x hx
    unfold pg at hx
    by_cases c : a.1 = 0
    · rw [if_pos c] at hx
      rcases List.mem_cons.mp hx with e | h
      · rw [e]; exact c
      · exact ih x h
    · rw [if_neg c] at hx
      exact absurd hx List.not_mem_nil
theorem pg_id : ∀ L : List Ite, noG L → pg L = L := by
  intro L
  induction L with
  | nil => intro _; rfl
  | cons a r ih =>
    intro h
    unfold pg
    rw [if_pos (h a (List.mem_cons_self ..)), ih (fun x hx => h x (List.mem_cons_of_mem _ hx))]
theorem pg_app {it : Ite} (h : it.1 ≠ 0) : ∀ L : List Ite, pg (L ++ it :: Es) = pg L := by
  intro L
  induction L with
  | nil =>
    show pg (it :: Es) = []
    unfold pg
    rw [if_neg h]
  | cons a r ih =>
    show pg (a :: (r ++ it :: Es)) = pg (a :: r)
    unfold pg
    rw [ih]
theorem pg_sub : ∀ L : List Ite, ∀ x, x ∈ pg L → x ∈ L := by
  intro L
  induction L with
  | nil => intro x h; exact h
  | cons a r ih =>
    intro x hx
    unfold pg at hx
    by_cases c : a.1 = 0
    · rw [if_pos c] at hx
      rcases List.mem_cons.mp hx with e | h
      · rw [e]; exact List.mem_cons_self ..
      · exact List.mem_cons_of_mem _ (ih x h)
    · rw [if_neg c] at hx
      exact absurd hx List.not_mem_nil
/-- a guard whose finally doesn't come -/
def dead (σ0 : Rm) (x : Ite) : Prop := 2 ≤ x.2.2.2.1 ∨ aI σ0 27 x.2.1 = -9
theorem split_live : ∀ L : List Ite, (∃ L0 x Es, L = L0 ++ x :: Es ∧ x.1 ≠ 0 ∧ ¬ dead σ0 x ∧ ∀ y, y ∈ Es → y.1 ≠ 0 → dead σ0 y) ∨ ∀ y, y ∈ L → y.1 ≠ 0 → dead σ0 y := by
  intro L
  induction L with
  | nil => exact Or.inr (fun y hy => absurd hy List.not_mem_nil)
  | cons a r ih =>
    rcases ih with ⟨L0, x, Es, h1, h2, h3, h4⟩ | h
    · exact Or.inl ⟨a :: L0, x, Es, by rw [h1]; rfl, h2, h3, h4⟩
    · by_cases c : a.1 ≠ 0 ∧ ¬ dead σ0 a
      · exact Or.inl ⟨[], a, r, rfl, c.1, c.2, h⟩
      · refine Or.inr (fun y hy hn => ?_)
        rcases List.mem_cons.mp hy with e | hy
        · rw [e] at hn ⊢
          exact Classical.byContradiction (fun z => c ⟨hn, z⟩)
        · exact h y hy hn
/-- what a call's items say of the text -/
def ItT (κ0 : Km) (σ0 : Rm) (bd : Nat) (L : List Ite) : Prop := ∀ L0 t h0 ph u Es, L = L0 ++ (1, t, h0, ph, u) :: Es → t < 1000 ∧ ph ≤ 4 ∧ (ph < 2 → Hd κ0 σ0 (Good2 κ0 σ0 (fun _ => False)) bd (L0.map itm) t h0)
theorem FrX.itt (h : FrX κ0 σ0 F0 b (bd, i, j, pl, nv, vs, L, O, s, md)) : ItT κ0 σ0 bd L ∧ (∀ x, x ∈ L → x.1 = 0 ∨ x.1 = 1) ∧ L.length ≤ 24 := by
  refine ⟨fun L0 t h0 ph u Es e => ?_, fun x hx => ?_, h.2.2.2.2.1.1⟩
  · subst e
    obtain ⟨a1, a2, -, a4⟩ := h.hd
    exact ⟨a1, a2, a4⟩
  · rcases h.2.2.2.1 x hx with z | z
    · exact Or.inl z
    · exact Or.inr z.1
theorem ItT.pre (h : ItT κ0 σ0 bd (L0 ++ Es)) : ItT κ0 σ0 bd L0 := fun L1 t h1 ph u E1 e => h L1 t h1 ph u (E1 ++ Es) (by rw [e, List.append_assoc]; rfl)
/-- the innermost guard is dead: it is left -/
theorem giveBack_dead {uu : Int32} {cnt : Nat} (hk : VK κ v ((bd, i, j, pl, nv, vs, L0 ++ (1, t, h0, ph, uu) :: Es, [], s, md) :: r)) (he : noG Es) (hz : tsz 0 ((bd, i, j, pl, nv, vs, L0 ++ (1, t, h0, ph, uu) :: Es, [], s, md) :: r) ≤ 17000) (hd : 4 ≤ d) (cf : CF κ0 κ m) (hi : ItT κ0 σ0 bd (L0 ++ (1, t, h0, ph, uu) :: Es)) (hde : dead σ0 (1, t, h0, ph, uu)) (hc : cnt < 24)
    (q : ∀ κ', Vo v κ κ' → VK κ' v ((bd, i, j, pl, nv, vs, L0, [], s, md) :: r) → K X d MX6_giveBack 2 [(0, vR 79), (1, vR (1002 + 8 * v)), (2, vI y), (3, vI (nI (cnt + 1)))] [] κ' Q) : K X d MX6_giveBack 2 [(0, vR 79), (1, vR (1002 + 8 * v)), (2, vI y), (3, vI (nI cnt))] [] κ Q := by
  obtain ⟨cd, hm, e68, e69, e70⟩ := cf
  obtain ⟨i1, i2, i3⟩ := hi L0 t h0 ph uu Es rfl
  refine k_6_giveBack_2 _ _ _ ?_
  rw [litI 24, le_nI (by omega) (by omega)]
  refine ⟨fun z => absurd z (by omega), fun _ => ⟨hk.v, 0, by omega, ?_⟩⟩
  refine vk_isGuarded hk hz (fun c => absurd c notG) (fun _ => ⟨fun z => absurd z (by decide), fun _ => ⟨1, by omega, ?_⟩⟩)
  have shut : ∀ (x0 a0 : Int32), ¬ a0 = 43 → KC' X 0 MX1_act [vR 68, vI x0] κ (kRI fun y4 κ6 => y4 = a0 ∧ κ6 = κ) → K X d MX6_giveBack 37 [(0, vR 79), (1, vR (1002 + 8 * v)), (2, vI y), (3, vI (nI cnt))] [vI x0] κ Q := fun x0 a0 ha h => by
    refine k_6_giveBack_37 _ _ _ _ ⟨hk.v, 0, by omega, h.mono ?_⟩
    rintro r0 κ6 ⟨y4, rfl, rfl, rfl⟩
    refine ⟨_, rfl, fun z => absurd z ha, fun _ => ⟨1, by omega, vk_close (b' := bd) (j' := j) (s' := s) (md' := md) hk he (fun κ' vo vk => ?_)⟩⟩
    rw [nI_1]
    exact q κ' vo vk
  refine vk_isInGuarded hk he (by omega) (fun c => ⟨fun z => absurd z (by decide), fun _ => ⟨1, by omega, ?_⟩⟩) (fun _ => ⟨fun _ => shut (-9) 0 (by decide) (kc_actN ⟨rfl, rfl⟩), fun z => absurd rfl z⟩)
  refine vk_handlers hk he ⟨1, by omega, ?_⟩
  obtain ⟨cs, hs, hmem, hlen, hch⟩ := i3 c
  have h27 : aI σ0 27 t = -9 := hde.resolve_left (by
    show ¬ 2 ≤ ph
    omega)
  refine kc_handlerOf (κ0 := κ0) (σ0 := σ0) cd hm e68 e69 e70 ⟨by decide, by decide⟩ hlen hch (fun c hc v2 jc pre post a1 a2 a3 => absurd rfl a3.1) (fun hx a1 a2 a3 => ?_)
  rcases a3 with ⟨b1, b2, jf, b3, b4⟩ | ⟨b1, b2⟩
  · obtain ⟨-, -, -, l4, -⟩ := b4.loc
    have l4 : jf + 1 < 12000 := l4
    rw [h27] at b3
    exact absurd b3.symm (neg9 (by omega))
  · by_cases c3 : m ≤ hx
    · exact shut _ 0 (by decide) (kc_actO cd c3 a2 ⟨rfl, rfl⟩)
    · exact shut _ 44 (by decide) (kc_actC cd (by omega) ⟨by rw [e69]; exact b1.resolve_left c3, rfl⟩)
/-- all guards are dead -/
theorem giveBack_all : ∀ (n : Nat) (κ : Km) (L : List Ite) (cnt : Nat), L.length ≤ n → VK κ v ((bd, i, j, pl, nv, vs, L, [], s, md) :: r) → tsz 0 ((bd, i, j, pl, nv, vs, L, [], s, md) :: r) ≤ 17000 → 4 ≤ d → CF κ0 κ m → ItT κ0 σ0 bd L → (∀ x, x ∈ L → x.1 = 0 ∨ x.1 = 1) → (∀ y, y ∈ L → y.1 ≠ 0 → dead σ0 y) → cnt + L.length ≤ 24 → (∀ κ' cnt', Vo v κ κ' → VK κ' v ((bd, i, j, pl, nv, vs, pg L, [], s, md) :: r) → K X d MX6_giveBack 84 [(0, vR 79), (1, vR (1002 + 8 * v)), (2, vI y), (3, vI (nI cnt'))] [] κ' Q) → K X d MX6_giveBack 2 [(0, vR 79), (1, vR (1002 + 8 * v)), (2, vI y), (3, vI (nI cnt))] [] κ Q := by
  intro n
  induction n with
  | zero =>
    intro κ L cnt hn hk hz hd cf hi h01 hde hc q
    have e : L = [] := List.length_eq_zero_iff.mp (by omega)
    subst e
    refine k_6_giveBack_2 _ _ _ ?_
    rw [litI 24, le_nI (by omega) (by omega)]
    refine ⟨fun _ => q κ cnt Vo.refl hk, fun _ => ⟨hk.v, 0, by omega, ?_⟩⟩
    exact vk_isGuarded hk hz (fun _ => ⟨fun _ => q κ cnt Vo.refl hk, fun z => absurd rfl z⟩) (fun z => absurd (fun x hx => absurd hx List.not_mem_nil) z)
  | succ n ih =>
    intro κ L cnt hn hk hz hd cf hi h01 hde hc q
    rcases split_G L with hg | ⟨L0, it, Es, e1, e2, e3⟩
    · have eL := pg_id L hg
      refine k_6_giveBack_2 _ _ _ ?_
      rw [litI 24, le_nI (by omega) (by omega)]
      refine ⟨fun _ => q κ cnt Vo.refl (by rw [eL]; exact hk), fun _ => ⟨hk.v, 0, by omega, ?_⟩⟩
      exact vk_isGuarded hk hz (fun _ => ⟨fun _ => q κ cnt Vo.refl (by rw [eL]; exact hk), fun z => absurd rfl z⟩) (fun z => absurd hg z)
    · subst e1
      have hmem : it ∈ L0 ++ it :: Es := List.mem_append_right _ (List.mem_cons_self ..)
      have i1 := (h01 it hmem).resolve_left e2
      have id := hde it hmem e2
      obtain ⟨k1, t, h0, ph, uu⟩ := it
      have i1 : k1 = 1 := i1
      subst i1
      have hlen : (L0 ++ ((1, t, h0, ph, uu) : Ite) :: Es).length = L0.length + (Es.length + 1) := by rw [List.length_append]; rfl
      refine giveBack_dead hk e3 hz hd cf hi id (by omega) (fun κ1 vo vk => ?_)
      have hz1 : tsz 0 ((bd, i, j, pl, nv, vs, L0, [], s, md) :: r) ≤ 17000 := by
        have hz : tsz 0 r + (4 + nv + psz (L0 ++ (1, t, h0, ph, uu) :: Es) + 0) ≤ 17000 := hz
        rw [psz_last] at hz
        show tsz 0 r + (4 + nv + psz L0 + 0) ≤ 17000
        omega
      refine ih κ1 L0 (cnt + 1) (by omega) vk hz1 hd (cf.cg (fun g h1 h2 => ⟨(vo.h (h := g) (by omega) (by omega)).1, (vo.h (h := g) (by omega) (by omega)).2.2⟩)) hi.pre (fun x hx => h01 x (List.mem_append_left _ hx)) (fun y hy => hde y (List.mem_append_left _ hy)) (by omega) (fun κ' cnt' vo' vk' => q κ' cnt' (vo.trans vo') ?_)
      rw [pg_app (show ¬ (1 : Nat) = 0 by decide)]
      exact vk'
/-- a guard whose finally comes -/
theorem giveBack_fin {uu : Int32} {jf : Nat} {D : Km → Prop} : ∀ (n : Nat) (κ1 : Km) (Es : List Ite) (cnt : Nat), Es.length ≤ n → Vo v κ κ1 → VK κ1 v ((bd, i, j, pl, nv, vs, L0 ++ (1, t, h0, ph, uu) :: Es, [], s, md) :: r) → tsz 0 ((bd, i, j, pl, nv, vs, L0 ++ (1, t, h0, ph, uu) :: Es, [], s, md) :: r) ≤ 17000 → 4 ≤ d → CF κ0 κ1 m → ItT κ0 σ0 bd (L0 ++ (1, t, h0, ph, uu) :: Es) → (∀ x, x ∈ Es → x.1 = 0 ∨ x.1 = 1) → (∀ y, y ∈ Es → y.1 ≠ 0 → dead σ0 y) → ph < 2 → aI σ0 27 t = nI jf → jf < 12000 → cnt + Es.length < 24 → (∀ he κ', he + 1 < m → Good2 κ0 σ0 (fun _ => False) (bd, he + 1, jf, L0.map itm ++ [(1, t, h0, 2)], 0, 0) → Vo v (fiK κ v) κ' → VK κ' v ((bd, he + 1, jf, pl, nv, vs, L0 ++ [(1, t, h0, 4, y)], [], 0, 0) :: r) → D κ') → K X d MX6_giveBack 2 [(0, vR 79), (1, vR (1002 + 8 * v)), (2, vI y), (3, vI (nI cnt))] [] κ1 (kRV D) := by
  intro n
  induction n with
  | zero =>
    intro κ1 Es cnt hn vo1 hk hz hd cf hi h01 hde hph h27 hjf hc q
    have e : Es = [] := List.length_eq_zero_iff.mp (by omega)
    subst e
    obtain ⟨cd, hm, e68, e69, e70⟩ := id cf
    obtain ⟨i1, i2, i3⟩ := hi L0 t h0 ph uu [] rfl
    obtain ⟨cs, hs, hmem, hlen, hch⟩ := i3 hph
    have he : noG ([] : List Ite) := fun x hx => absurd hx List.not_mem_nil
    refine k_6_giveBack_2 _ _ _ ?_
    rw [litI 24, le_nI (by omega) (by omega)]
    refine ⟨fun z => absurd z (by omega), fun _ => ⟨hk.v, 0, by omega, ?_⟩⟩
    refine vk_isGuarded hk hz (fun c => absurd c notG) (fun _ => ⟨fun z => absurd z (by decide), fun _ => ⟨1, by omega, ?_⟩⟩)
    refine vk_isInGuarded hk he (by omega) (fun c => ⟨fun z => absurd z (by decide), fun _ => ⟨1, by omega, ?_⟩⟩) (fun c => absurd c (by omega))
    refine vk_handlers hk he ⟨1, by omega, ?_⟩
    refine kc_handlerOf (κ0 := κ0) (σ0 := σ0) cd hm e68 e69 e70 ⟨by decide, by decide⟩ hlen hch (fun c hc v2 jc pre post a1 a2 a3 => absurd rfl a3.1) (fun hx a1 a2 a3 => ?_)
    rcases a3 with ⟨b1, b2, jf', b3, b4⟩ | ⟨b1, b2⟩
    · obtain ⟨-, -, -, l4, -⟩ := b4.loc
      have l4 : jf' + 1 < 12000 := l4
      rw [h27] at b3
      have ej := (nI_eq (a := jf) (b := jf') (by omega) (by omega)).mp b3
      subst ej
      refine k_6_giveBack_37 _ _ _ _ ⟨hk.v, 0, by omega, kc_actC cd (by omega) ?_⟩
      rw [e69, b2]
      refine ⟨fun _ => ?_, fun z => absurd rfl z⟩
      rintro κ9 rfl
      have hk2 : VK (fiK κ1 v) v ((bd, i, j, pl, nv, vs, L0 ++ [(1, t, h0, ph, uu)], [], s, md) :: r) := hk.fin
      refine ⟨1, by omega, ?_⟩
      rw [litI 1, nI_add]
      exact vk_turn (b' := bd) (i' := hx + 1) (j' := jf) (s' := 0) (md' := 0) (t' := t) (ph' := 4) (x' := y) hk2 he (fun κ2 vo2 vk2 => ⟨rfl, q hx κ2 b1 b4 ((Vo.fin vo1).trans vo2) vk2⟩)
    · rw [h27] at b2
      exact absurd b2 (neg9 (by omega))
  | succ n ih =>
    intro κ1 Es cnt hn vo1 hk hz hd cf hi h01 hde hph h27 hjf hc q
    rcases split_G Es with hg | ⟨E0, it, E1, e1, e2, e3⟩
    · obtain ⟨cd, hm, e68, e69, e70⟩ := id cf
      obtain ⟨i1, i2, i3⟩ := hi L0 t h0 ph uu Es rfl
      obtain ⟨cs, hs, hmem, hlen, hch⟩ := i3 hph
      refine k_6_giveBack_2 _ _ _ ?_
      rw [litI 24, le_nI (by omega) (by omega)]
      refine ⟨fun z => absurd z (by omega), fun _ => ⟨hk.v, 0, by omega, ?_⟩⟩
      refine vk_isGuarded hk hz (fun c => absurd c notG) (fun _ => ⟨fun z => absurd z (by decide), fun _ => ⟨1, by omega, ?_⟩⟩)
      refine vk_isInGuarded hk hg (by omega) (fun c => ⟨fun z => absurd z (by decide), fun _ => ⟨1, by omega, ?_⟩⟩) (fun c => absurd c (by omega))
      refine vk_handlers hk hg ⟨1, by omega, ?_⟩
      refine kc_handlerOf (κ0 := κ0) (σ0 := σ0) cd hm e68 e69 e70 ⟨by decide, by decide⟩ hlen hch (fun c hc v2 jc pre post a1 a2 a3 => absurd rfl a3.1) (fun hx a1 a2 a3 => ?_)
      rcases a3 with ⟨b1, b2, jf', b3, b4⟩ | ⟨b1, b2⟩
      · obtain ⟨-, -, -, l4, -⟩ := b4.loc
        have l4 : jf' + 1 < 12000 := l4
        rw [h27] at b3
        have ej := (nI_eq (a := jf) (b := jf') (by omega) (by omega)).mp b3
        subst ej
        refine k_6_giveBack_37 _ _ _ _ ⟨hk.v, 0, by omega, kc_actC cd (by omega) ?_⟩
        rw [e69, b2]
        refine ⟨fun _ => ?_, fun z => absurd rfl z⟩
        rintro κ9 rfl
        have hk2 : VK (fiK κ1 v) v ((bd, i, j, pl, nv, vs, L0 ++ (1, t, h0, ph, uu) :: Es, [], s, md) :: r) := hk.fin
        refine ⟨1, by omega, ?_⟩
        rw [litI 1, nI_add]
        exact vk_turn (b' := bd) (i' := hx + 1) (j' := jf) (s' := 0) (md' := 0) (t' := t) (ph' := 4) (x' := y) hk2 hg (fun κ2 vo2 vk2 => ⟨rfl, q hx κ2 b1 b4 ((Vo.fin vo1).trans vo2) vk2⟩)
      · rw [h27] at b2
        exact absurd b2 (neg9 (by omega))
    · subst e1
      have hmem : it ∈ E0 ++ it :: E1 := List.mem_append_right _ (List.mem_cons_self ..)
      have i1 := (h01 it hmem).resolve_left e2
      have id := hde it hmem e2
      obtain ⟨k1, t1, h1, ph1, u1⟩ := it
      have i1 : k1 = 1 := i1
      subst i1
      have hlen : (E0 ++ ((1, t1, h1, ph1, u1) : Ite) :: E1).length = E0.length + (E1.length + 1) := by rw [List.length_append]; rfl
      have eq1 : L0 ++ ((1, t, h0, ph, uu) : Ite) :: (E0 ++ (1, t1, h1, ph1, u1) :: E1) = (L0 ++ (1, t, h0, ph, uu) :: E0) ++ (1, t1, h1, ph1, u1) :: E1 := by rw [List.append_assoc]; rfl
      rw [eq1] at hk hz hi
      refine giveBack_dead hk e3 hz hd cf hi id (by omega) (fun κ2 vo vk => ?_)
      have hz1 : tsz 0 ((bd, i, j, pl, nv, vs, L0 ++ (1, t, h0, ph, uu) :: E0, [], s, md) :: r) ≤ 17000 := by
        have hz : tsz 0 r + (4 + nv + psz ((L0 ++ (1, t, h0, ph, uu) :: E0) ++ (1, t1, h1, ph1, u1) :: E1) + 0) ≤ 17000 := hz
        rw [psz_last] at hz
        show tsz 0 r + (4 + nv + psz (L0 ++ (1, t, h0, ph, uu) :: E0) + 0) ≤ 17000
        omega
      exact ih κ2 E0 (cnt + 1) (by omega) (vo1.trans vo) vk hz1 hd (cf.cg (fun g h1 h2 => ⟨(vo.h (h := g) (by omega) (by omega)).1, (vo.h (h := g) (by omega) (by omega)).2.2⟩)) hi.pre (fun x hx => h01 x (List.mem_append_left _ hx)) (fun y hy => hde y (List.mem_append_left _ hy)) hph h27 hjf (by omega) q
end GIVEBACK
