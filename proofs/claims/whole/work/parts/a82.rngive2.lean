/-! A VALUE IS GIVEN BACK: a finally on the way, the caller, the end of the voice -/
section RNGIVE2
variable {X : Cx} {d e ec : Nat} {κ0 κ κa κb κ1 κ' : Km} {σ0 σ σa σ1 σ9 σ' : Rm} {b V al S T sp z LT HT F0 v p n x q k how cl : Nat} {st st1 : Nat → Nat} {fr fr1 : Nat → List Frm} {pt : Nat → Nat} {fs r rr : List Frm} {ch cr : List Nat} {w wc : Nat → Nat} {f f' f1 f1' : Frm} {y u : Int32} {C : Km → Prop} {D : Rm → Prop} {F : Km → Prop}
variable {bd i j nv s md i' j' s' md' t h0 ph c j2 : Nat} {pl pl' : Int32} {vs vs' : Nat → Int32} {L L0 Lc M : List Ite} {O O' Oc : List Int32}
theorem gws_le : gws L ≤ gws (L ++ M) := by rw [gws_app]; exact Nat.le_add_right _ _
theorem kpl_le {g : Nat} : kpl g L ≤ kpl g (L ++ M) := by rw [kpl_app]; exact Nat.le_add_right _ _
theorem rn_give (h : Rn κ0 σ0 κ σ b V al S LT HT sp F0 st fr pt ch w v (bd, i, j, pl, nv, vs, L ++ M, Oc, s, md) r) (all : AllOK X d (e + 1) κ0 σ0 b (pot V S st fr)) {kk i2 : Nat} (hkk : 1 ≤ kk ∧ kk ≤ 100) (hi2 : i2 ≤ 9500) (hx : x + pot V S st fr ≤ 199000000) (hd : 9 ≤ d) (hj2 : j2 < 12001)
    (clg : ∀ Q : Res → Km → Prop, (∀ κs, Vo v κ κs → VK κs v ((bd, i2, j2, pl, nv, vs, L, [], 0, 0) :: r) → KC' X 6 MX6_giveBack [vR 79, vR (1002 + 8 * v), vI y] κs (kRV fun κ' => K X d MX6_run 2 [(0, vR 79), (1, vI (nI (x + kk)))] [] κ' Q)) → K X d MX6_run 2 [(0, vR 79), (1, vI (nI x))] [] κ Q)
    (rfg : ∀ P : Rm → Prop, (∀ σs, Ro (pt v) σ σs → VRx σs v (pt v) ((bd, i2, j2, pl, nv, vs, L, [], 0, 0) :: r) → AC X 92 3 MX13_gives [vR 92, vI (nI v), vI y] σs (aRV P)) → ∃ σ1, P σ1 ∧ ∀ Q' : Res → Rm → Prop, A X 92 (e + 1) MX13_goes 0 [(0, vR 92)] [] σ1 Q' → A X 92 (e + 1) MX13_goes 0 [(0, vR 92)] [] σ Q') : RunOK X d (e + 1) κ0 σ0 κ σ b x (HT + 2 * pot V S st fr) := by
  obtain ⟨n1, n2, n3, n4, n5, n6, n7, n8, n9, vr⟩ := h.num
  obtain ⟨-, -, -, -, -, -, c12, c13, c14⟩ := h.cls
  obtain ⟨f88, fF, fl, sta⟩ := h.f88
  obtain ⟨a, c, m⟩ := h.bn (x := 0)
  obtain ⟨v1, v2, v3, v4, v5, v6, v7, v8, ⟨cl, cl1, cl2, cl3⟩⟩ := a.2.2.1 v c14.1 c14.2
  obtain ⟨mm, cf⟩ := a.cf
  have hm9 := cf.2.1
  have b4 := h.2.1.2.2.2.1
  have hne : fr v ≠ [] := by rw [b4]; exact List.cons_ne_nil _ _
  have d3 := h.2.2.2.1.2.2
  have hB0 : HT < 2000000000 := by have := h.2.2.2.2.1.2.2; omega
  obtain ⟨gg, p1, p2⟩ := a.hp
  have hal := a.al1 c14 (by rw [h.2.1.2.2.1]; omega)
  obtain ⟨itt0, i01, hlen⟩ := (n9.frx sta).itt
  have itt : ItT κ0 σ0 bd L := itt0.pre
  have hlenL : L.length ≤ 24 := by rw [List.length_append] at hlen; omega
  have h01 : ∀ x, x ∈ L → x.1 = 0 ∨ x.1 = 1 := fun x hx => i01 x (List.mem_append_left _ hx)
  have hit : ∀ x, x ∈ L → ItO F0 x := fun x hx => n9.2.2.2.1 x (List.mem_append_left _ hx)
  have h27 : aI σ 27 = aI σ0 27 := c13 27 (by omega) (by omega)
  have hz : ∀ κs, VK κs v ((bd, i2, j2, pl, nv, vs, L, [], 0, 0) :: r) → tsz 0 ((bd, i2, j2, pl, nv, vs, L, [], 0, 0) :: r) ≤ 16000 := fun κs _ => by
    rw [psz_app] at n2
    show tsz 0 r + (4 + nv + psz L + 0) ≤ 16000
    omega
  have cfo : ∀ κs, Vo v κ κs → CF κ0 κs mm := fun κs vo => cf.cg (fun g h1 h2 => ⟨(vo.h (h := g) (by omega) (by omega)).1, (vo.h (h := g) (by omega) (by omega)).2.2⟩)
  -- the reference's beginning
  have gbeg : ∀ (P : Rm → Prop) (σs : Rm), Ro (pt v) σ σs → VRx σs v (pt v) ((bd, i2, j2, pl, nv, vs, L, [], 0, 0) :: r) → A X 92 3 MX13_gives 14 [(0, vR 92), (1, vI (nI v)), (2, vI y), (3, vI (nI (pt v))), (4, vI (nI (60 * pt v + r.length)))] [] σs (aRV P) → AC X 92 3 MX13_gives [vR 92, vI (nI v), vI y] σs (aRV P) := fun P σs ro vx hA => by
    refine AC_of_A rfl (Nat.le_of_ble_eq_true rfl) rfl (a_gives_0 _ _ ?_)
    rw [vpn (by omega), cl_nI (by omega), vx.2.1]
    exact ⟨by omega, 0, by omega, ac_call vx hA⟩
  rcases split_live (σ0 := σ0) L with ⟨L0, it, Es, e1, e2, e3, e4⟩ | hde
  · -- a finally comes
    subst e1
    have i1 := (h01 it (List.mem_append_right _ (List.mem_cons_self ..))).resolve_left e2
    obtain ⟨k1, t, h0, ph, uu⟩ := it
    have i1 : k1 = 1 := i1
    subst i1
    have hph : ph < 2 := by
      by_cases z : ph < 2
      · exact z
      · exact absurd (Or.inl (show 2 ≤ ph by omega)) e3
    have hnd : aI σ0 27 t ≠ -9 := fun z => e3 (Or.inr z)
    -- where it begins
    obtain ⟨t1, t2, t3⟩ := itt L0 t h0 ph uu Es rfl
    obtain ⟨cs, -, -, -, hch⟩ := t3 hph
    have hfin : ∀ (cs : List Nat) (g : Nat), Chn κ0 σ0 (Good2 κ0 σ0 (fun _ => False)) bd (L0.map itm) t h0 cs g → ∃ jf, aI σ0 27 t = nI jf ∧ jf < 12000 := by
      intro cs
      induction cs with
      | nil =>
        intro g hg
        rcases hg with ⟨-, jf, g1, g2⟩ | ⟨-, g1, -⟩
        · have l4 : jf + 1 < 12000 := g2.loc.2.2.2.1
          exact ⟨jf, g1, by omega⟩
        · exact absurd g1 hnd
      | cons c cs ih =>
        rintro g ⟨-, -, -, -, -, h', -, -, g9⟩
        exact ih h' g9
    obtain ⟨jf, hj1, hj2'⟩ := hfin cs h0 hch
    have hlE : Es.length < 24 := by
      rw [List.length_append] at hlenL
      have : ((1, t, h0, ph, uu) :: Es).length = Es.length + 1 := rfl
      omega
    have hE01 : ∀ x, x ∈ Es → x.1 = 0 ∨ x.1 = 1 := fun x hx => h01 x (List.mem_append_right _ (List.mem_cons_of_mem _ hx))
    refine rn_stepk (C := fun κ' => ∃ he, he + 1 < mm ∧ Good2 κ0 σ0 (fun _ => False) (bd, he + 1, jf, L0.map itm ++ [(1, t, h0, 2)], 0, 0) ∧ Vo v (fiK κ v) κ' ∧ VK κ' v ((bd, he + 1, jf, pl, nv, vs, L0 ++ [(1, t, h0, 4, y)], [], 0, 0) :: r)) (D := fun σ' => Ro (pt v) (fiR σ v) σ' ∧ VR σ' v (pt v) ((bd, 0, jf, pl, nv, vs, L0 ++ [(1, t, h0, 4, y)], [], 0, 0) :: r)) kk all hx hkk.1 (rfg _ (fun σs ro vx => gbeg _ σs ro vx (gives_fin (p := pt v) (i' := 0) (s' := 0) (md' := 0) (by omega) h27 Es.length σs Es (Nat.le_refl _) ro vx (by omega) itt hE01 e4 hph hj1 hj2' (by omega) (fun σ' ro' vr' => ⟨ro', vr'⟩))))
      (fun Q hQ => clg Q (fun κs vo vk => KC_of_K rfl (Nat.le_of_ble_eq_true rfl) rfl (k_6_giveBack_0 _ _ (giveBack_fin (κ := κ) (κ0 := κ0) (σ0 := σ0) (m := mm) (D := fun κ' => K X d MX6_run 2 [(0, vR 79), (1, vI (nI (x + kk)))] [] κ' Q) Es.length κs Es 0 (Nat.le_refl _) vo vk (by have := hz κs vk; omega) (by omega) (cfo κs vo) itt hE01 e4 hph hj1 hj2' (by omega) (fun he κ' g1 g2 g3 g4 => hQ κ' ⟨he, g1, g2, g3, g4⟩))))) ?_
    rintro κ' σ' ⟨he, g1, g2, ko, vk⟩ ⟨ro, v2'⟩
    have fo : FrO κ0 σ0 F0 b (bd, he + 1, jf, pl, nv, vs, L0 ++ [(1, t, h0, 4, y)], [], 0, 0) := by
      refine ⟨n9.1, n9.2.1, by show 0 ≤ 1; omega, fun x hx => ?_, Or.inl ⟨rfl, ?_⟩⟩
      · rcases List.mem_append.mp hx with hx | hx
        · exact hit x (List.mem_append_left _ hx)
        · rw [List.mem_singleton.mp hx]
          exact Or.inr ⟨rfl, (show 4 ≤ 4 by omega), fun z => by
            have z : (4 : Nat) = 1 ∨ (4 : Nat) = 3 := z
            omega⟩
      · show Good2 κ0 σ0 (fun _ => False) (bd, he + 1, jf, (L0 ++ [(1, t, h0, 4, y)]).map itm, 0, 0)
        rw [List.map_append]
        exact g2
    have hg2 : gws (L0 ++ [(1, t, h0, 4, y)]) = gws L0 + (100 + 0) := by rw [gws_last]; rfl
    have hgw : 10200 ≤ gwt (1, t, h0, ph, uu) := by
      unfold gwt
      rw [if_neg (show ¬ (1 : Nat) = 0 by decide)]
      by_cases c : ph = 0
      · rw [if_pos (show (1, t, h0, ph, uu).2.2.2.1 = 0 from c)]
        omega
      · rw [if_neg (show ¬ (1, t, h0, ph, uu).2.2.2.1 = 0 from c), if_pos (show ph = 1 by omega)]
        omega
    obtain ⟨h2, hp⟩ := h.fin.locS (f' := (bd, he + 1, jf, pl, nv, vs, L0 ++ [(1, t, h0, 4, y)], [], 0, 0)) (rr := r) ko ro vk (v2'.gho (by omega)) ⟨rfl, fo, d3⟩ (by rw [arm_cons, arm_cons]; show 0 + arm r ≤ s + arm r; omega) (by
      rw [fws_cons, fws_cons, fwt_e, fwt_e, hg2, gws_app, gws_last]
      omega) (fun g _ => by
      rw [kps_cons, kps_cons]
      show kpl g (L0 ++ [(1, t, h0, 4, y)]) + kps g r ≤ kpl g ((L0 ++ (1, t, h0, ph, uu) :: Es) ++ M) + kps g r
      rw [kpl_last, kpl_app (L0 ++ (1, t, h0, ph, uu) :: Es) M, kpl_last]
      have e : kp1 g (1, t, h0, 4, y) = 0 := if_neg (fun z => by
        have z2 : (4 : Nat) = 3 := z.2.1
        omega)
      have e2 : kpl g ([] : List Ite) = 0 := rfl
      omega) (fun f0 it hf hi i1 i2 => by
      rcases List.mem_cons.mp hf with e | hf
      · rw [e] at hi
        have hi : it ∈ L0 ++ [(1, t, h0, 4, y)] := hi
        rcases List.mem_append.mp hi with hi | hi
        · exact ⟨_, List.mem_cons_self .., List.mem_append_left _ (List.mem_append_left _ hi)⟩
        · rw [List.mem_singleton.mp hi] at i2
          have i2 : (4 : Nat) = 1 := i2
          omega
      · exact ⟨f0, List.mem_cons_of_mem _ hf, hi⟩)
    rw [fws_cons, fws_cons, fwt_e, fwt_e, hg2, gws_app, gws_last] at hp
    exact ⟨_, _, _, _, _, _, _, _, _, _, _, _, _, _, _, h2, by omega, by omega⟩
  · -- none comes
    have hgb : ∀ (Q' : Res → Km → Prop) (κs : Km), Vo v κ κs → VK κs v ((bd, i2, j2, pl, nv, vs, L, [], 0, 0) :: r) → (∀ κ1 cnt, Vo v κs κ1 → VK κ1 v ((bd, i2, j2, pl, nv, vs, pg L, [], 0, 0) :: r) → K X 6 MX6_giveBack 84 [(0, vR 79), (1, vR (1002 + 8 * v)), (2, vI y), (3, vI (nI cnt))] [] κ1 Q') → KC' X 6 MX6_giveBack [vR 79, vR (1002 + 8 * v), vI y] κs Q' := fun Q' κs vo vk q => KC_of_K rfl (Nat.le_of_ble_eq_true rfl) rfl (k_6_giveBack_0 _ _ (giveBack_all (κ0 := κ0) (σ0 := σ0) (m := mm) L.length κs L 0 (Nat.le_refl _) vk (by have := hz κs vk; omega) (by omega) (cfo κs vo) itt h01 hde (by omega) q))
    cases r with
    | cons f1 r1 =>
      obtain ⟨b1, i1, j1, p1', n1', w1, L1, O1, s1', m1⟩ := f1
      obtain ⟨e1, e2⟩ := d3 _ (List.mem_cons_self ..)
      have e1 : m1 = 1 := e1
      subst e1
      have vr1 := vr.2.2.2.1.2
      obtain ⟨gd1, hs1, hO1⟩ : Good2 κ0 σ0 (fun _ => False) (b1, i1, j1, L1.map itm, O1.length + 1, 1) ∧ s1' = 1 ∧ O1.length < 150 := by
        rcases e2.2.2.2.2 with ⟨z, _⟩ | ⟨_, hs1, _, gd⟩ | ⟨z, _⟩ | ⟨z, _⟩
        · exact absurd z (show ¬ (1 : Nat) = 0 by decide)
        · obtain ⟨-, -, -, -, -, l6, -⟩ := gd.loc
          have l6 : O1.length + 1 ≤ 150 := l6
          exact ⟨gd, hs1, by omega⟩
        · exact absurd z (show ¬ (1 : Nat) = 2 by decide)
        · exact absurd z (show ¬ (1 : Nat) = 3 by decide)
      subst hs1
      have hI1 : i1 < 20000 := vr1.1.2.2.2.2.1
      refine rn_stepk (C := fun κ' => Vo v κ κ' ∧ VK κ' v ((b1, i1, j1, p1', n1', w1, L1, O1 ++ [y], 1, 0) :: r1)) (D := fun σ' => Ro (pt v) σ σ' ∧ VR σ' v (pt v) ((b1, i1, j1, p1', n1', w1, L1, O1 ++ [y], 1, 0) :: r1)) kk all hx hkk.1 (rfg _ (fun σs ro vx => gbeg _ σs ro vx (gives_all (p := pt v) h27 L.length σs L (Nat.le_refl _) ro vx (by omega) itt h01 hde (fun σ' ro' vx' => gives_ret (s2 := 1) (m2 := 0) (by omega) vx' (pg_noG L) hO1 hI1 (fun σ3 ro3 vr3 => ⟨ro'.trans ro3, vr3⟩)))))
        (fun Q hQ => clg Q (fun κs vo vk => hgb _ κs vo vk (fun κ1 cnt vo1 vk1 => ?_))) ?_
      · refine k_6_giveBack_84 _ _ _ ⟨vk1.v, 1, by omega, ?_⟩
        refine vk_leave vk1 (pg_noG L) (by
          have n7 : r1.length + 1 + 1 ≤ 60 := n7
          omega) (fun κ2 vo2 vk2 => ⟨fun z => absurd z (by decide), fun _ => ⟨3, by omega, ?_⟩⟩)
        have hz2 : tsz 0 ((b1, i1, j1, p1', n1', w1, L1, O1, 1, 1) :: r1) ≤ 16000 := by
          have := hz κs vk
          have e : tsz 0 ((bd, i2, j2, pl, nv, vs, L, [], 0, 0) :: (b1, i1, j1, p1', n1', w1, L1, O1, 1, 1) :: r1) = tsz 0 ((b1, i1, j1, p1', n1', w1, L1, O1, 1, 1) :: r1) + (4 + nv + psz L + 0) := rfl
          omega
        exact vk_push (b' := b1) (j' := j1) (s' := 1) (md' := 0) vk2 (by omega) (fun κ3 vo3 vk3 => k_6_giveBack_124 _ _ _ ⟨rfl, hQ κ3 ⟨((vo.trans vo1).trans vo2).trans vo3, vk3⟩⟩)
      · rintro κ' σ' ⟨ko, vk⟩ ⟨ro, v2'⟩
        have fo : FrO κ0 σ0 F0 b (b1, i1, j1, p1', n1', w1, L1, O1 ++ [y], 1, 0) := ⟨e2.1, e2.2.1, by show 1 ≤ 1; omega, e2.2.2.2.1, Or.inl ⟨rfl, by
          show Good2 κ0 σ0 (fun _ => False) (b1, i1, j1, L1.map itm, (O1 ++ [y]).length, 1)
          rw [List.length_append]
          exact gd1⟩⟩
        obtain ⟨h2, hp⟩ := h.locS (f' := (b1, i1, j1, p1', n1', w1, L1, O1 ++ [y], 1, 0)) (rr := r1) ko ro vk v2' ⟨rfl, fo, fun h0 hh => d3 h0 (List.mem_cons_of_mem _ hh)⟩ (by rw [arm_cons (r := (b1, i1, j1, p1', n1', w1, L1, O1, 1, 1) :: r1), arm_cons, arm_cons]; show 1 + arm r1 ≤ s + (1 + arm r1); omega) (by
          rw [fws_cons (r := (b1, i1, j1, p1', n1', w1, L1, O1, 1, 1) :: r1), fws_cons, fws_cons, fwt_e, fwt_e, fwt_e]
          omega) (fun g _ => by
          rw [kps_cons (r := (b1, i1, j1, p1', n1', w1, L1, O1, 1, 1) :: r1), kps_cons, kps_cons]
          show kpl g L1 + kps g r1 ≤ kpl g (L ++ M) + (kpl g L1 + kps g r1)
          omega) (fun f0 it hf hi i1 i2 => by
          rcases List.mem_cons.mp hf with e | hf
          · rw [e] at hi
            exact ⟨_, List.mem_cons_of_mem _ (List.mem_cons_self ..), hi⟩
          · exact ⟨f0, List.mem_cons_of_mem _ (List.mem_cons_of_mem _ hf), hi⟩)
        rw [fws_cons (r := (b1, i1, j1, p1', n1', w1, L1, O1, 1, 1) :: r1), fws_cons, fws_cons, fwt_e, fwt_e, fwt_e] at hp
        exact ⟨_, _, _, _, _, _, _, _, _, _, _, _, _, _, _, h2, by omega, by omega⟩
    | nil =>
      obtain ⟨cr, hcr⟩ := c.head c14.1
      subst hcr
      have hres := c.res
      have hV60 : V ≤ 60 := a.2.1.2.2.2.2.2.2.2.1
      have hs46 : 4 ≤ (if cl = 0 then 4 else 6) ∧ (if cl = 0 then 4 else 6) ≤ 6 := by split <;> omega
      have es6 : (if cl = 0 then (4 : Int32) else 6) = nI (if cl = 0 then 4 else 6) := by split <;> rfl
      refine rn_back (how := 1) (cl := cl) (ec := 2) (y := y) (Cg := fun κg => ∃ κ1, Vo v κ κ1 ∧ VK κ1 v [(bd, i2, j2, pl, nv, vs, pg L, [], 0, 0)] ∧ κg = enK κ1 v sp (nI (if cl = 0 then 4 else 6))) (Dg := fun σg => ∃ σ1 σ9, Ro (pt v) σ σ1 ∧ VRx σ1 v (pt v) [(bd, i2, j2, pl, nv, vs, pg L, [], 0, 0)] ∧ Ro (pt v) σ1 σ9 ∧ σg = enR σ9 v al (nI (if cl = 0 then 4 else 6))) h all (kk := kk) hkk hx (by omega) (by omega) (by omega) cl1 (fun Q hQ => clg Q (fun κs vo vk => hgb _ κs vo vk (fun κ1 cnt vo1 vk1 => ?_))) (fun P hP => rfg P (fun σs ro vx => gbeg _ σs ro vx (gives_all (p := pt v) h27 L.length σs L (Nat.le_refl _) ro vx (by omega) itt h01 hde (fun σ1 ro1 vx1 => ?_)))) ?_ ?_
      · refine k_6_giveBack_84 _ _ _ ⟨vk1.v, 1, by omega, ?_⟩
        refine vk_leave0 vk1 ⟨fun _ => ?_, fun z => absurd rfl z⟩
        have vo2 := vo.trans vo1
        have fin : ∀ t2 : Int32, t2 = nI (if cl = 0 then 4 else 6) → K X 6 MX6_giveBack 114 [(0, vR 79), (1, vR (1002 + 8 * v)), (2, vI y), (3, vI (nI cnt))] [vI t2, vR (1002 + 8 * v), vR 79] κ1 (kRV fun κ' => K X d MX6_run 2 [(0, vR 79), (1, vI (nI (x + kk)))] [] κ' Q) := fun t2 ht => by
          subst ht
          refine k_6_giveBack_114 _ _ _ _ _ ⟨vk1.v, 2, by omega, kc_endV a c14 vo2 vk1 hne ⟨5, by omega, ?_⟩⟩
          refine (hQ _ ⟨κ1, vo2, vk1, rfl⟩).mono ?_
          rintro r0 κ4 ⟨rfl, hk4⟩
          exact ⟨rfl, k_6_giveBack_124 _ _ _ ⟨rfl, hk4⟩⟩
        rw [vo2.2.2 11 (by decide) (by decide) (by decide) (by decide) (by decide), cl2, litI 0, eq_nI (by omega) (by omega)]
        exact ⟨fun c0 => fin 4 (by rw [if_pos c0]; rfl), fun c0 => fin 6 (by rw [if_neg c0]; rfl)⟩
      · refine gives_end (cl := cl) (rs := cr.headD 0) (al := al) (by omega) vx1 (pg_noG L) (by rw [show sI σ1 48 = sI σ 48 from congrFun (ro1.s (by decide)) 0]; exact a.2.1.2.1.2) hal (by rw [ro1.s (by decide)]; exact cl3) cl1 (by rw [ro1.s (by decide)]; exact hres.1) (by have := hres.2.2.1; omega) (p2.fr (ro1.s (by decide)) (ro1.s (by decide)) (ro1.s (by decide))) hB0 (fun σ9 σ2 ro9 hR => ⟨2, by omega, ?_⟩)
        rw [es6] at hR
        exact hP (enR σ9 v al (nI (if cl = 0 then 4 else 6))) σ2 ⟨σ1, σ9, ro1, vx1, ro9, rfl⟩ hR
      · rintro σg ⟨σ1, σ9, ro1, vx1, ro9, rfl⟩
        have ro19 := ro1.trans ro9
        have es : ∀ k, k ≠ 48 → k ≠ 49 → k ≠ 58 → k ≠ 59 → (k < 60 ∨ 74 < k) → aI (enR σ9 v al (nI (if cl = 0 then 4 else 6))) k = aI σ k := fun k k1 k2 k3 k4 k5 => by rw [enR_k k1 k2 k3 k4, ro19.s k5]
        refine ⟨fun n hn h1 h2 hv => ?_, es 56 (by decide) (by decide) (by decide) (by decide) (by decide), fun k h1 h2 => by rw [es k (by omega) (by omega) (by omega) (by omega) (by omega), c13 k h1 h2]⟩
        have hf : fr n ≠ [] := fun hf => by
          rw [hf] at hv
          rcases a.2.2.2.2.2.2 n h1 h2 with ⟨-, -, z, -⟩ | ⟨z, -⟩
          · have := hv.2.1
            rw [z] at this
            exact absurd this.symm (neg9 (by have := hv.1.1; omega))
          · exact absurd hf z
        have hp : pt n ≠ pt v := a.2.2.2.1.2.2.2.2.1 n v h1 h2 c14.1 c14.2 hn hf hne
        have h2' := hv.ro hp ro19
        refine h2'.fr (enR_58 hn) ⟨by rw [enR_k (by decide) (by decide) (by decide) (by decide)], by rw [enR_k (by decide) (by decide) (by decide) (by decide)], by rw [enR_k (by decide) (by decide) (by decide) (by decide)]⟩ ⟨fun k i h1 h2 _ => by rw [enR_k (by omega) (by omega) (by omega) (by omega)], fun i _ => by rw [enR_k (by decide) (by decide) (by decide) (by decide)], fun i _ => by rw [enR_k (by decide) (by decide) (by decide) (by decide)], fun k i h1 h2 _ => by rw [enR_k (by omega) (by omega) (by omega) (by omega)], fun i _ => by rw [enR_k (by decide) (by decide) (by decide) (by decide)]⟩
      · rintro κg σg ⟨κ1, ko, vk, rfl⟩ ⟨σ1, σ9, ro1, vx1, ro9, rfl⟩
        obtain ⟨hb, hp⟩ := h.leaves4 (f' := (bd, i2, j2, pl, nv, vs, pg L, [], 0, 0)) (s := if cl = 0 then 4 else 6) n1 (by show i2 ≤ 9500; omega) ko ro1 vk vx1 ro9 hs46 cl2 cl1
        exact ⟨_, _, _, _, w, hb, fun n hn => un_ne hn, by omega⟩
end RNGIVE2
