/-! a value is given back: guards on the way, for the reference -/
section GIVES
variable {X : Cx} {d e er : Nat} {κ0 κ κ1 κ' : Km} {σ0 σ σ1 σ' : Rm} {F0 b v p n x q g k m V al S T sp z LT HT : Nat} {st : Nat → Nat} {fr : Nat → List Frm} {pt : Nat → Nat} {fs r : List Frm} {f f' : Frm} {y u val vo ca : Int32} {Q : Res → Rm → Prop} {D : Rm → Prop}
variable {bd i j nv s md i' j' s' md' t h0 ph c : Nat} {pl pl' : Int32} {vs vs' : Nat → Int32} {L L0 Es : List Ite} {O O' : List Int32}
/-- the innermost guard is left -/
theorem gives_dead {uu : Int32} (hk : VRx σ v p ((bd, i, j, pl, nv, vs, L0 ++ (1, t, h0, ph, uu) :: Es, [], s, md) :: r)) (he : noG Es) (ht : t < 1000) (hi : i < 20000) (hde : 2 ≤ ph ∨ aI σ 27 t = -9)
    (q : ∀ σ', Ro p σ σ' → VRx σ' v p ((bd, i, j, pl, nv, vs, L0, [], s, md) :: r) → A X 92 d MX13_gives 14 [(0, vR 92), (1, vI (nI v)), (2, vI y), (3, vI (nI p)), (4, vI (nI (60 * p + r.length)))] [] σ' Q) : A X 92 d MX13_gives 14 [(0, vR 92), (1, vI (nI v)), (2, vI y), (3, vI (nI p)), (4, vI (nI (60 * p + r.length)))] [] σ Q := by
  obtain ⟨⟨b1, b2, b3, b4⟩, -⟩ := id hk
  have b4 : r.length + 1 ≤ 60 := b4
  have hbd := hk.bd.1
  have hbd : gcs r + gcn (L0 ++ (1, t, h0, ph, uu) :: Es) ≤ 1440 := hbd
  rw [gcn_last he] at hbd
  obtain ⟨g1, g2, g3, g4, -, g6, g7, g8⟩ := hk.gd he
  obtain ⟨dv, dr⟩ := hk.drop (i' := i) (s' := s) (md' := md) he hi
  have drop : ∀ x5, A X 92 d MX13_gives 82 [(0, vR 92), (1, vI (nI v)), (2, vI y), (3, vI (nI p)), (4, vI (nI (60 * p + r.length))), (5, vI x5)] [] σ Q := fun x5 => by
    refine a_gives_82 _ _ _ _ _ ?_
    rw [vpn (by omega), cl_nI (by omega), g1, litI 1, nI_sb (by omega), show gcs r + gcn L0 + 1 - 1 = gcs r + gcn L0 by omega]
    refine ⟨b1, b1, ?_⟩
    rintro s3 rfl
    exact q _ dr dv
  refine a_gives_14 _ _ _ _ ?_
  rw [vpn (by omega), vpn (by omega), cl_nI (by omega), cl_nI (by omega), g1, g2, le_nI (by omega) (by omega), litI 1500, pk_mul, nI_add, litI 1, nI_sb (by omega), show 1500 * p + (gcs r + gcn L0 + 1) - 1 = 1500 * p + (gcs r + gcn L0) by omega, vpn (a := 1500 * p + (gcs r + gcn L0)) (by omega), cl_nI (show 1500 * p + (gcs r + gcn L0) < 2147483648 by omega), g3, g4, litI 2, le_nI (by omega) (by omega), vpn (a := t) (by omega), cl_nI (show t < 2147483648 by omega)]
  refine ⟨b1, by omega, fun z => absurd z (by omega), fun _ => ⟨b1, by omega, fun _ => drop _, fun z => ⟨by omega, ht, fun _ => drop _, fun z2 => ?_⟩⟩⟩
  rcases hde with z3 | z3
  · omega
  · rw [z3] at z2
    exact absurd (by decide) z2
theorem gives_all (h27 : aI σ 27 = aI σ0 27) : ∀ (n : Nat) (σ1 : Rm) (L : List Ite), L.length ≤ n → Ro p σ σ1 → VRx σ1 v p ((bd, i, j, pl, nv, vs, L, [], s, md) :: r) → i < 20000 → ItT κ0 σ0 bd L → (∀ x, x ∈ L → x.1 = 0 ∨ x.1 = 1) → (∀ y, y ∈ L → y.1 ≠ 0 → dead σ0 y) → (∀ σ', Ro p σ σ' → VRx σ' v p ((bd, i, j, pl, nv, vs, pg L, [], s, md) :: r) → A X 92 d MX13_gives 14 [(0, vR 92), (1, vI (nI v)), (2, vI y), (3, vI (nI p)), (4, vI (nI (60 * p + r.length)))] [] σ' Q) → A X 92 d MX13_gives 14 [(0, vR 92), (1, vI (nI v)), (2, vI y), (3, vI (nI p)), (4, vI (nI (60 * p + r.length)))] [] σ1 Q := by
  intro n
  induction n with
  | zero =>
    intro σ1 L hn ro hk hi hit h01 hde q
    have e : L = [] := List.length_eq_zero_iff.mp (by omega)
    subst e
    exact q σ1 ro hk
  | succ n ih =>
    intro σ1 L hn ro hk hi hit h01 hde q
    rcases split_G L with hg | ⟨L0, it, Es, e1, e2, e3⟩
    · exact q σ1 ro (by rw [pg_id L hg]; exact hk)
    · subst e1
      have hmem : it ∈ L0 ++ it :: Es := List.mem_append_right _ (List.mem_cons_self ..)
      have i1 := (h01 it hmem).resolve_left e2
      have id := hde it hmem e2
      obtain ⟨k1, t, h0, ph, uu⟩ := it
      have i1 : k1 = 1 := i1
      subst i1
      have hlen : (L0 ++ ((1, t, h0, ph, uu) : Ite) :: Es).length = L0.length + (Es.length + 1) := by rw [List.length_append]; rfl
      refine gives_dead hk e3 (hit L0 t h0 ph uu Es rfl).1 hi (by rw [ro.s (by decide), h27]; exact id) (fun σ2 ro2 vk => ?_)
      refine ih σ2 L0 (by omega) (ro.trans ro2) vk hi hit.pre (fun x hx => h01 x (List.mem_append_left _ hx)) (fun y hy => hde y (List.mem_append_left _ hy)) (fun σ' ro' vk' => q σ' ro' ?_)
      rw [pg_app (show ¬ (1 : Nat) = 0 by decide)]
      exact vk'
theorem gives_fin {uu : Int32} {jf : Nat} (hd : 2 ≤ d) (h27 : aI σ 27 = aI σ0 27) : ∀ (n : Nat) (σ1 : Rm) (Es : List Ite), Es.length ≤ n → Ro p σ σ1 → VRx σ1 v p ((bd, i, j, pl, nv, vs, L0 ++ (1, t, h0, ph, uu) :: Es, [], s, md) :: r) → i < 20000 → ItT κ0 σ0 bd (L0 ++ (1, t, h0, ph, uu) :: Es) → (∀ x, x ∈ Es → x.1 = 0 ∨ x.1 = 1) → (∀ y, y ∈ Es → y.1 ≠ 0 → dead σ0 y) → ph < 2 → aI σ0 27 t = nI jf → jf < 12000 → i' < 20000 → (∀ σ', Ro p (fiR σ v) σ' → VR σ' v p ((bd, i', jf, pl, nv, vs, L0 ++ [(1, t, h0, 4, y)], [], s', md') :: r) → D σ') → A X 92 d MX13_gives 14 [(0, vR 92), (1, vI (nI v)), (2, vI y), (3, vI (nI p)), (4, vI (nI (60 * p + r.length)))] [] σ1 (aRV D) := by
  intro n
  have fin : ∀ (σ1 : Rm) (Es : List Ite), noG Es → Ro p σ σ1 → VRx σ1 v p ((bd, i, j, pl, nv, vs, L0 ++ (1, t, h0, ph, uu) :: Es, [], s, md) :: r) → ItT κ0 σ0 bd (L0 ++ (1, t, h0, ph, uu) :: Es) → ph < 2 → aI σ0 27 t = nI jf → jf < 12000 → i' < 20000 → (∀ σ', Ro p (fiR σ v) σ' → VR σ' v p ((bd, i', jf, pl, nv, vs, L0 ++ [(1, t, h0, 4, y)], [], s', md') :: r) → D σ') → A X 92 d MX13_gives 14 [(0, vR 92), (1, vI (nI v)), (2, vI y), (3, vI (nI p)), (4, vI (nI (60 * p + r.length)))] [] σ1 (aRV D) := fun σ1 Es he ro hk hit hph hj1 hj2 hi' q => by
    have ht := (hit L0 t h0 ph uu Es rfl).1
    obtain ⟨⟨b1, b2, b3, b4⟩, -⟩ := id hk
    have b4 : r.length + 1 ≤ 60 := b4
    have hbd := hk.bd.1
    have hbd : gcs r + gcn (L0 ++ (1, t, h0, ph, uu) :: Es) ≤ 1440 := hbd
    rw [gcn_last he] at hbd
    obtain ⟨g1, g2, g3, g4, -, g6, g7, g8⟩ := hk.gd he
    have f27 : aI σ1 27 t = nI jf := by rw [ro.s (by decide), h27]; exact hj1
    refine a_gives_14 _ _ _ _ ?_
    rw [vpn (by omega), vpn (by omega), cl_nI (by omega), cl_nI (by omega), g1, g2, le_nI (by omega) (by omega), litI 1500, pk_mul, nI_add, litI 1, nI_sb (by omega), show 1500 * p + (gcs r + gcn L0 + 1) - 1 = 1500 * p + (gcs r + gcn L0) by omega, vpn (a := 1500 * p + (gcs r + gcn L0)) (by omega), cl_nI (show 1500 * p + (gcs r + gcn L0) < 2147483648 by omega), g3, g4, litI 2, le_nI (by omega) (by omega), vpn (a := t) (by omega), cl_nI (show t < 2147483648 by omega), f27, n0_lt (by omega)]
    refine ⟨b1, by omega, fun z => absurd z (by omega), fun _ => ⟨b1, by omega, fun z => absurd z (by omega), fun z => ⟨by omega, ht, fun z => z.elim, fun _ => ⟨1, by omega, ?_⟩⟩⟩⟩
    exact ac_finishes (kd := 2) (x' := y) (t' := h0) (i' := i') (s' := s') (md' := md') (b' := bd) hk he ht f27 hj2 hi' (by omega) ⟨fun c => absurd c (by omega), fun _ => rfl⟩ (fun σ' ro' vr => ⟨rfl, q σ' ((Ro.fin (v := v) ro).trans ro') vr⟩) rfl
  induction n with
  | zero =>
    intro σ1 Es hn ro hk hi hit h01 hde hph hj1 hj2 hi' q
    have e : Es = [] := List.length_eq_zero_iff.mp (by omega)
    subst e
    exact fin σ1 [] (fun x hx => absurd hx List.not_mem_nil) ro hk hit hph hj1 hj2 hi' q
  | succ n ih =>
    intro σ1 Es hn ro hk hi hit h01 hde hph hj1 hj2 hi' q
    rcases split_G Es with hg | ⟨E0, it, E1, e1, e2, e3⟩
    · exact fin σ1 Es hg ro hk hit hph hj1 hj2 hi' q
    · subst e1
      have hmem : it ∈ E0 ++ it :: E1 := List.mem_append_right _ (List.mem_cons_self ..)
      have i1 := (h01 it hmem).resolve_left e2
      have id := hde it hmem e2
      obtain ⟨k1, t1, h1, ph1, u1⟩ := it
      have i1 : k1 = 1 := i1
      subst i1
      have hlen : (E0 ++ ((1, t1, h1, ph1, u1) : Ite) :: E1).length = E0.length + (E1.length + 1) := by rw [List.length_append]; rfl
      have eq1 : L0 ++ ((1, t, h0, ph, uu) : Ite) :: (E0 ++ (1, t1, h1, ph1, u1) :: E1) = (L0 ++ (1, t, h0, ph, uu) :: E0) ++ (1, t1, h1, ph1, u1) :: E1 := by rw [List.append_assoc]; rfl
      rw [eq1] at hk hit
      refine gives_dead hk e3 (hit _ t1 h1 ph1 u1 E1 rfl).1 hi (by rw [ro.s (by decide), h27]; exact id) (fun σ2 ro2 vk => ?_)
      exact ih σ2 E0 (by omega) (ro.trans ro2) vk hi hit.pre (fun x hx => h01 x (List.mem_append_left _ hx)) (fun y hy => hde y (List.mem_append_left _ hy)) hph hj1 hj2 hi' q
/-- no guard: out of the call, to its caller -/
theorem gives_ret {b1' i1 j1 n1 s1 m1 i2 s2 m2 : Nat} {p1 : Int32} {w1 : Nat → Int32} {L1 : List Ite} {O1 : List Int32} (hd : 1 ≤ d) (hk : VRx σ v p ((bd, i, j, pl, nv, vs, L, [], s, md) :: (b1', i1, j1, p1, n1, w1, L1, O1, s1, m1) :: r)) (hg : noG L) (ho : O1.length < 150) (hi : i2 < 20000) (q : ∀ σ', Ro p σ σ' → VR σ' v p ((b1', i2, j1, p1, n1, w1, L1, O1 ++ [y], s2, m2) :: r) → D σ') : A X 92 d MX13_gives 14 [(0, vR 92), (1, vI (nI v)), (2, vI y), (3, vI (nI p)), (4, vI (nI (60 * p + ((b1', i1, j1, p1, n1, w1, L1, O1, s1, m1) :: r).length)))] [] σ (aRV D) := by
  obtain ⟨⟨b1, b2, b3, b4⟩, -, ⟨e60, e68⟩, -, hf⟩ := id hk
  have b4 : r.length + 1 + 1 ≤ 60 := b4
  have el : ((b1', i1, j1, p1, n1, w1, L1, O1, s1, m1) :: r).length = r.length + 1 := rfl
  have e64 : aI σ 64 (60 * p + (r.length + 1)) = nI (gcs ((b1', i1, j1, p1, n1, w1, L1, O1, s1, m1) :: r)) := hf.2.1.2.2.2.1
  have e65 : aI σ 65 (60 * p + (r.length + 1)) = nI (ocs ((b1', i1, j1, p1, n1, w1, L1, O1, s1, m1) :: r)) := hf.2.1.2.2.2.2
  have e68 : aI σ 68 p = nI (gcs ((b1', i1, j1, p1, n1, w1, L1, O1, s1, m1) :: r) + gcn L) := e68
  rw [gcn_noG L hg] at e68
  have e60 : aI σ 60 p = nI (r.length + 1 + 1) := e60
  obtain ⟨lv, lr⟩ := hk.leave hg
  refine a_gives_14 _ _ _ _ ?_
  rw [el, vpn (by omega), vpn (by omega), cl_nI (by omega), cl_nI (by omega), e64, e65, e68]
  refine ⟨b1, by omega, fun _ => ⟨by omega, b1, ?_⟩, fun z => absurd (Int32.le_refl _) z⟩
  rintro s6 rfl
  refine ⟨b1, b1, ?_⟩
  rintro s9 rfl
  have e60' : aI (wI σ 73 p (nI (ocs ((b1', i1, j1, p1, n1, w1, L1, O1, s1, m1) :: r)))) 60 p = nI (r.length + 1 + 1) := by rw [aI_ne (by decide)]; exact e60
  rw [e60', litI 1, nI_sb (by omega), show r.length + 1 + 1 - 1 = r.length + 1 by omega, aI_eq, nI_le0 (by omega)]
  refine ⟨b1, fun z => by omega, fun _ => ⟨0, hd, ?_⟩⟩
  have rr : Ro p σ (wI (wI σ 73 p (nI (ocs ((b1', i1, j1, p1, n1, w1, L1, O1, s1, m1) :: r)))) 60 p (nI (r.length + 1))) := (Ro.w (by omega) (by omega) (by show 1 * p ≤ p; omega) (by show p < 1 * (p + 1); omega)).trans (Ro.w (by omega) (by omega) (by show 1 * p ≤ p; omega) (by show p < 1 * (p + 1); omega))
  have vx : VR (wI (wI σ 73 p (nI (ocs ((b1', i1, j1, p1, n1, w1, L1, O1, s1, m1) :: r)))) 60 p (nI (r.length + 1))) v p ((b1', i1, j1, p1, n1, w1, L1, O1, s1, m1) :: r) := by
    obtain ⟨x1, x2, ⟨x3, x4⟩, x5⟩ := lv
    refine ⟨x1, by rw [aI_ne (by decide), aI_ne (by decide)]; rw [aI_ne (by decide)] at x2; exact x2, ⟨by rw [aI_eq]; rfl, by rw [aI_ne (by decide), aI_ne (by decide)]; rw [aI_ne (by decide)] at x4; exact x4, by rw [aI_ne (by decide), aI_eq]⟩, x5.cg _ ⟨fun k i h1 h2 _ => ?_, fun i _ => ?_, fun i _ => ?_, fun k i h1 h2 _ => ?_, fun i _ => ?_⟩⟩
    · rw [aI_ne (by omega), aI_ne (by omega), aI_ne (by omega)]
    · rw [aI_ne (by decide), aI_ne (by decide), aI_ne (by decide)]
    · rw [aI_ne (by decide), aI_ne (by decide), aI_ne (by decide)]
    · rw [aI_ne (by omega), aI_ne (by omega), aI_ne (by omega)]
    · rw [aI_ne (by decide), aI_ne (by decide), aI_ne (by decide)]
  exact ac_push (i' := i2) (s' := s2) (md' := m2) vx ho hi (fun σ' ro vr => ⟨rfl, q σ' (rr.trans ro) vr⟩)
/-- no guard in the only call: the voice ends -/
theorem gives_end {cl rs : Nat} {gg : Nat → Int32} (hd : 1 ≤ d) (hk : VRx σ v p [(bd, i, j, pl, nv, vs, L, [], s, md)]) (hg : noG L) (h48 : sI σ 48 = nI al) (hA : 1 ≤ al) (h57 : aI σ 57 v = nI cl) (hcl : cl ≤ 1) (h54 : aI σ 54 v = nI rs) (hrs : rs ≤ 60) (pr : PRr σ 83 84 85 HT gg) (hT : HT < 2000000000)
    (q : ∀ σ9 σ2, Ro p σ σ9 → HdR (enR σ9 v al (if cl = 0 then 4 else 6)) σ2 HT (nI v) (nI rs) → ∃ ec, ec + 1 ≤ d ∧ AC X 92 ec MX13_comes [vR 92, vI (nI rs), vI y, vI 1, vI (nI cl)] σ2 (aRV D)) : A X 92 d MX13_gives 14 [(0, vR 92), (1, vI (nI v)), (2, vI y), (3, vI (nI p)), (4, vI (nI (60 * p + ([] : List Frm).length)))] [] σ (aRV D) := by
  obtain ⟨⟨b1, b2, b3, b4⟩, h58, ⟨e60, e68⟩, -, hf⟩ := id hk
  have e64 : aI σ 64 (60 * p + 0) = nI 0 := hf.2.1.2.2.2.1
  have e65 : aI σ 65 (60 * p + 0) = nI 0 := hf.2.1.2.2.2.2
  have e68 : aI σ 68 p = nI (0 + gcn L) := e68
  rw [gcn_noG L hg] at e68
  have e60 : aI σ 60 p = nI (0 + 1) := e60
  have el : ([] : List Frm).length = 0 := rfl
  refine a_gives_14 _ _ _ _ ?_
  rw [el, vpn (by omega), vpn (by omega), cl_nI (by omega), cl_nI (by omega), e64, e65, e68]
  refine ⟨b1, by omega, fun _ => ⟨by omega, b1, ?_⟩, fun z => absurd (Int32.le_refl _) z⟩
  rintro s6 rfl
  refine ⟨b1, b1, ?_⟩
  rintro s9 rfl
  have rr : Ro p σ (wI (wI σ 73 p (nI 0)) 60 p (nI 0)) := (Ro.w (by omega) (by omega) (by show 1 * p ≤ p; omega) (by show p < 1 * (p + 1); omega)).trans (Ro.w (by omega) (by omega) (by show 1 * p ≤ p; omega) (by show p < 1 * (p + 1); omega))
  have e57' : aI (wI (wI σ 73 p (nI 0)) 60 p (nI 0)) 57 v = nI cl := by rw [rr.s (by decide)]; exact h57
  have fin : ∀ t2 : Int32, t2 = (if cl = 0 then 4 else 6) → A X 92 d MX13_gives 155 [(0, vR 92), (1, vI (nI v)), (2, vI y), (3, vI (nI p)), (4, vI (nI (60 * p + 0))), (5, vI (nI cl))] [vI t2, vI (nI v), vR 92] (wI (wI σ 73 p (nI 0)) 60 p (nI 0)) (aRV D) := fun t2 ht => by
    subst ht
    have h58' : aI (wI (wI σ 73 p (nI 0)) 60 p (nI 0)) 58 v = nI p := by rw [rr.s (by decide)]; exact h58
    have eB := enR_B (σ := wI (wI σ 73 p (nI 0)) 60 p (nI 0)) (n := v) (al := al) (y := if cl = 0 then 4 else 6) h58' b1
    refine a_gives_155 _ _ _ _ _ _ _ ⟨0, hd, ac_over b3 b1 h58' (by rw [show sI (wI (wI σ 73 p (nI 0)) 60 p (nI 0)) 48 = sI σ 48 from congrFun (rr.s (by decide)) 0]; exact h48) hA ?_⟩
    rw [← eB]
    have eE : ∀ k, k ≠ 48 → k ≠ 49 → k ≠ 58 → k ≠ 59 → (k < 60 ∨ 74 < k) → aI (enR (wI (wI σ 73 p (nI 0)) 60 p (nI 0)) v al (if cl = 0 then 4 else 6)) k = aI σ k := fun k k1 k2 k3 k4 k5 => by rw [enR_k k1 k2 k3 k4, rr.s k5]
    rw [vpn (by omega), cl_nI (by omega), eE 54 (by decide) (by decide) (by decide) (by decide) (by decide), h54]
    refine ⟨by omega, 0, hd, ac_hand (pr.fr (eE 83 (by decide) (by decide) (by decide) (by decide) (by decide)) (eE 84 (by decide) (by decide) (by decide) (by decide) (by decide)) (eE 85 (by decide) (by decide) (by decide) (by decide) (by decide))) hT (fun σ2 hd2 => ?_)⟩
    rw [(hd2.1 54 (by decide)).1, eE 54 (by decide) (by decide) (by decide) (by decide) (by decide), h54]
    obtain ⟨ec, hec, hc⟩ := q _ σ2 rr hd2
    refine ⟨by omega, ec, hec, hc.mono ?_⟩
    rintro r0 s0 ⟨rfl, h⟩
    exact ⟨rfl, rfl, h⟩
  have e60' : aI (wI σ 73 p (nI 0)) 60 p = nI (0 + 1) := by rw [aI_ne (by decide)]; exact e60
  rw [e60', litI 1, nI_sb (by omega), show 0 + 1 - 1 = 0 by omega, aI_eq, vpn (a := v) (by omega), cl_nI (show v < 2147483648 by omega), e57', litI 0, eq_nI (by omega) (by omega)]
  refine ⟨b1, fun _ => ⟨by omega, fun c => fin 4 (by rw [if_pos c]), fun c => fin 6 (by rw [if_neg c])⟩, fun z => absurd (Int32.le_refl _) z⟩
end GIVES
