/-! RETURN, the end of a body, END_FINALLY of a finally that was come to with something -/
section RETURNS
variable {X : Cx} {d e ec : Nat} {κ0 κ κa κb κ1 κ' : Km} {σ0 σ σa σ1 σ9 σ' : Rm} {b V al S T sp z LT HT F0 v p n x q k how cl g : Nat} {st st1 : Nat → Nat} {fr fr1 : Nat → List Frm} {pt : Nat → Nat} {fs r rr : List Frm} {ch cr : List Nat} {w wc : Nat → Nat} {f f' f1 f1' : Frm} {y u : Int32} {C : Km → Prop} {D : Rm → Prop} {P : Rm → Prop}
variable {bd i j nv s md i' j' s' md' t h0 ph c j2 jb : Nat} {pl pl' : Int32} {vs vs' : Nat → Int32} {L L0 Lc M : List Ite} {O O' Oc : List Int32}
theorem VR.act1 (h : VR σ n p ((bd, i, j, pl, nv, vs, L, O, s, md) :: r)) (hi : i' < 20000) (hj : j' < 12001) : VR (wI σ 62 (60 * p + r.length) (nI j')) n p ((bd, i', j', pl, nv, vs, L, O, s', md') :: r) ∧ Ro p σ (wI σ 62 (60 * p + r.length) (nI j')) :=
  ⟨(h.vx.act1 hi hj).1.vr (by rw [aI_ne (by decide)]; exact h.2.2.1.2.2), (h.vx.act1 (s' := s') (md' := md') hi hj).2⟩
/-- the reference: RETURN -/
theorem on_return (hd : 5 ≤ d) (h77 : sI σ 77 = nI v) (hk : VR σ v p ((bd, i, j, pl, nv, vs, L, [] ++ [y], s, md) :: r)) (hj : j < 12000) (h13 : aI σ 13 j = 26) (hi : i' < 20000) (q : ∀ σs, Ro p σ σs → VRx σs v p ((bd, i', j + 1, pl, nv, vs, L, [], s', md') :: r) → AC X 92 3 MX13_gives [vR 92, vI (nI v), vI y] σs (aRV P)) : A X 92 d MX13_goesOn 0 [(0, vR 92)] [] σ (aRV P) := by
  have hh := hk
  obtain ⟨⟨h1, h2, h3, h4⟩, -⟩ := hh
  have h4 : r.length + 1 ≤ 60 := h4
  obtain ⟨va, ra⟩ := hk.act1 (i' := i') (j' := j + 1) (s' := s) (md' := md) hi (by omega)
  refine on_ctl (op := 26) (dc := 4) (by omega) h77 hk.vx hj h13 (by omega) ?_
  refine AC_of_A rfl (Nat.le_of_ble_eq_true rfl) rfl (a_controls_0 _ _ _ _ _ ?_)
  rw [vpn (a := v) (by omega)]
  refine ⟨by omega, fun z => absurd z (by decide), fun z => absurd z (by decide), fun z => absurd z (by decide), fun z => absurd z (by decide), fun z => absurd z (by decide), fun _ => ⟨0, by omega, ?_⟩, fun z => absurd z (by decide), fun z => absurd z (by decide), fun z => absurd z (by decide), fun z => absurd z (by decide), fun z => absurd z (by decide), fun z => absurd (by decide) z⟩
  refine ac_pop (i' := i') (s' := s') (md' := md') va hi (fun σ2 r2 v2 => ⟨3, by omega, (q σ2 (ra.trans r2) v2.vx).mono ?_⟩)
  rintro r0 s0 ⟨rfl, hp⟩
  exact ⟨rfl, a_controls_449 _ _ _ _ _ _ ⟨rfl, rfl, hp⟩⟩
theorem pg_return (hk : VK κ v ((bd, i, j, pl, nv, vs, L, [] ++ [y], s, md) :: r)) {z0 : Int32} (q : ∀ κs, Vo v κ κs → VK κs v ((bd, i, j', pl, nv, vs, L, [], s', md') :: r) → KC' X 6 MX6_giveBack [vR 79, vR (1002 + 8 * v), vI y] κs (kRV C)) : KC' X 7 MX6_passGuards [vR 79, vR (1002 + 8 * v), vI (nI 46), vI z0] κ (kRV C) := by
  refine KC_of_K rfl (Nat.le_of_ble_eq_true rfl) rfl (k_6_passGuards_0 _ _ _ ⟨fun z => absurd z (by decide), fun z => absurd z (by decide), fun z => absurd z (by decide), fun z => absurd z (by decide), fun _ => ⟨hk.v, 0, by omega, ?_⟩, fun z => absurd (by decide) z⟩)
  refine vk_pop (b' := bd) (j' := j') (s' := s') (md' := md') hk (fun κa vo vk => ⟨6, by omega, (q κa vo vk).mono ?_⟩)
  rintro r0 κ2 ⟨rfl, hC⟩
  exact ⟨rfl, k_6_passGuards_130 _ _ _ ⟨rfl, hC⟩⟩
theorem lc_return (h : Rn κ0 σ0 κ σ b V al S LT HT sp F0 st fr pt ch w v (bd, i, j, pl, nv, vs, L, [] ++ [y], s, md) r) (all : AllOK X d (e + 1) κ0 σ0 b (pot V S st fr)) (hx : x + pot V S st fr ≤ 199000000) (hd : 9 ≤ d) (he : 5 ≤ e) (e69 : kI κ0 69 i = 46) (e13 : aI σ0 13 j = 26) (hj : j + 1 < 12000) : RunOK X d (e + 1) κ0 σ0 κ σ b x (HT + 2 * pot V S st fr) := by
  obtain ⟨n1, n2, n3, n4, n5, n6, n7, n8, n9, vr⟩ := h.num
  obtain ⟨-, -, -, -, -, -, c12, c13, c14⟩ := h.cls
  have h' : Rn κ0 σ0 κ σ b V al S LT HT sp F0 st fr pt ch w v (bd, i, j, pl, nv, vs, L ++ [], [] ++ [y], s, md) r := by rw [List.append_nil]; exact h
  refine rn_give (y := y) (kk := 1) (i2 := i + 1) (j2 := j + 1) h' all (by omega) (by omega) hx hd (by omega) (fun Q hQ => ?_) (fun P hP => ?_)
  · refine h.pgc (a := 46) (C := fun κ' => K X d MX6_run 2 [(0, vR 79), (1, vI (nI (x + 1)))] [] κ' Q) hx (by omega) (by decide) e69 (fun κ1 vo1 vk1 => ⟨7, by omega, ?_⟩) Q (fun _ hq => hq)
    exact pg_return (j' := j + 1) (s' := 0) (md' := 0) vk1 (fun κs vo vk => hQ κs (vo1.trans vo) vk)
  · exact ref_ex c12 (by omega) ((on_return (P := P) (i' := i + 1) (s' := 0) (md' := 0) he c12 vr (by omega) (by rw [c13 13 (by omega) (by omega)]; exact e13) (by omega) (fun σs ro vx => hP σs ro vx)).mono (fun r0 s0 h => h))
theorem lc_endbody (h : Rn κ0 σ0 κ σ b V al S LT HT sp F0 st fr pt ch w v (bd, i, j, pl, nv, vs, [], [], s, md) r) (all : AllOK X d (e + 1) κ0 σ0 b (pot V S st fr)) (hx : x + pot V S st fr ≤ 199000000) (hd : 9 ≤ d) (he : 5 ≤ e) (e69 : kI κ0 69 i = 1) (e70 : kI κ0 70 i = 0) (f69 : kI κ0 69 (i + 1) = 46) (hi1 : nI (i + 1) < kI κ0 68 2) (e13 : aI σ0 13 j = 1) (e14 : aI σ0 14 j = 0) (f13 : aI σ0 13 (j + 1) = 26) (hj : j + 1 < 12000) : RunOK X d (e + 1) κ0 σ0 κ σ b x (HT + 2 * pot V S st fr) := by
  obtain ⟨n1, n2, n3, n4, n5, n6, n7, n8, n9, vr⟩ := h.num
  obtain ⟨-, -, -, -, ⟨m, -, -, c9, c68⟩, -, c12, c13, c14⟩ := h.cls
  have hI : i + 1 < m := by
    rw [c68, lt_nI (by omega) (by omega)] at hi1
    exact hi1
  have b4 := h.2.1.2.2.2.1
  have hne : fr v ≠ [] := by rw [b4]; exact List.cons_ne_nil _ _
  have n2 : tsz 0 r + (4 + nv + 0 + 0) ≤ 15720 := n2
  have h' : Rn κ0 σ0 κ σ b V al S LT HT sp F0 st fr pt ch w v (bd, i, j, pl, nv, vs, [] ++ [], [], s, md) r := h
  refine rn_give (y := 0) (kk := 2) (i2 := i + 2) (j2 := j + 2) h' all (by omega) (by omega) hx hd (by omega) (fun Q hQ => ?_) (fun P hP => ?_)
  · refine h.1.1.act (a := 1) (C := fun κ' => Vo v κ κ' ∧ VK κ' v ((bd, i + 1, j + 1, pl, nv, vs, [], [] ++ [0], 0, 0) :: r)) h.2.1.2.2.2.2 c14 h.2.2.1.1 (by rw [c68, lt_nI (by omega) (by omega)]; omega) (by omega) (by omega) (by omega) (by decide) e69 (fun κ1 vo1 vk1 => ⟨4, by omega, ?_⟩) Q (fun κ3 hc3 => ?_)
    · rw [e70]
      exact wk_const vk1 (by show tsz 0 r + (4 + nv + 0 + 0) ≤ 16000; omega) (fun κ' vo vk => ⟨rfl, vo1.trans vo, vk⟩)
    · obtain ⟨vo3, vk3⟩ := hc3
      have rm := h.1.1.vo (fs := (bd, i + 1, j + 1, pl, nv, vs, [], [] ++ [0], 0, 0) :: r) c14 vo3 (Ro.refl (p := pt v)) hne (List.cons_ne_nil _ _)
      refine rm.pgact (a := 46) (C := fun κ' => K X d MX6_run 2 [(0, vR 79), (1, vI (nI (x + 2)))] [] κ' Q) (by rw [(vo3.h (h := 79) (by omega) (by omega)).1]; exact h.2.1.2.2.2.2) c14 vk3 hi1 (by omega) (by omega) (by omega) (by decide) f69 (fun κ4 vo4 vk4 => ⟨7, by omega, ?_⟩) Q (fun _ hq => hq)
      exact pg_return (j' := j + 2) (s' := 0) (md' := 0) vk4 (fun κs vo vk => hQ κs ((vo3.trans vo4).trans vo) vk)
  · obtain ⟨σa, ⟨ra, va⟩, adv1⟩ := ref_ex (X := X) (e := e) (Pp := fun σ' => Ro (pt v) σ σ' ∧ VR σ' v (pt v) ((bd, i + 1, j + 1, pl, nv, vs, [], [] ++ [0], 0, 0) :: r)) c12 (by omega) (on_num (i' := i + 1) (s' := 0) (md' := 0) (by omega) c12 vr hj (by rw [c13 13 (by omega) (by omega)]; exact e13) (by rw [c13 14 (by omega) (by omega)]; exact e14) (by show 0 < 150; omega) (by omega) (fun σ' ro vr' => ⟨rfl, ro, vr'⟩))
    have f77 : sI σa 77 = nI v := (congrFun (ra.s (by decide)) 0).trans c12
    obtain ⟨σ1, hp, adv2⟩ := ref_ex (X := X) (e := e) (Pp := P) f77 (by omega) ((on_return (P := P) (i' := i + 2) (s' := 0) (md' := 0) he f77 va hj (by rw [ra.s (by decide), c13 13 (by omega) (by omega)]; exact f13) (by omega) (fun σs ro vx => hP σs (ra.trans ro) vx)).mono (fun r0 s0 h => h))
    exact ⟨σ1, hp, fun Q' hq => adv1 Q' (adv2 Q' hq)⟩
/-- END_FINALLY: what was to be given back goes on -/
theorem lc_end4 (h : Rn κ0 σ0 κ σ b V al S LT HT sp F0 st fr pt ch w v (bd, i, j, pl, nv, vs, L0 ++ [(1, t, h0, 4, u)], [], s, md) r) (all : AllOK X d (e + 2) κ0 σ0 b (pot V S st fr)) (hx : x + pot V S st fr ≤ 199000000) (hd : 10 ≤ d) (he : 5 ≤ e) (hj : j + 1 < 12000) (e69 : kI κ0 69 i = 45) (e13 : aI σ0 13 j = 30) (e14 : aI σ0 14 j = nI t) (ht : t < 1000) (e28 : aI σ0 28 t = nI jb) (g : Good2 κ0 σ0 (fun _ => False) (bd, i + 1, jb, L0.map itm, 0, 0)) : RunOK X d (e + 2) κ0 σ0 κ σ b x (HT + 2 * pot V S st fr) := by
  obtain ⟨n1, n2, n3, n4, n5, n6, n7, n8, n9, vr⟩ := h.num
  obtain ⟨-, -, -, -, -, -, c12, c13, c14⟩ := h.cls
  have l4 : jb + 1 < 12000 := g.loc.2.2.2.1
  refine rn_give (y := u) (kk := 1) (i2 := i + 1) (j2 := jb) h all (by omega) (by omega) hx (by omega) (by omega) (fun Q hQ => ?_) (fun P hP => ?_)
  · refine h.pgc (a := 45) (C := fun κ' => K X d MX6_run 2 [(0, vR 79), (1, vI (nI (x + 1)))] [] κ' Q) hx (by omega) (by decide) e69 (fun κ1 vo1 vk1 => ⟨8, by omega, ?_⟩) Q (fun _ hq => hq)
    refine KC_of_K rfl (Nat.le_of_ble_eq_true rfl) rfl (k_6_passGuards_0 _ _ _ ⟨fun z => absurd z (by decide), fun z => absurd z (by decide), fun z => absurd z (by decide), fun _ => ⟨vk1.v, 7, by omega, ?_⟩, fun z => absurd z (by decide), fun z => absurd (by decide) z⟩)
    refine kc_endFinally (j' := jb) (s' := 0) (md' := 0) vk1 (by omega) (by omega) (fun c => absurd c (by omega)) (fun c => absurd c (by omega)) (fun _ κ' vo vk => ⟨6, by omega, (hQ κ' (vo1.trans vo) vk).mono ?_⟩)
    rintro r0 κ2 ⟨rfl, hC⟩
    exact ⟨rfl, k_6_passGuards_130 _ _ _ ⟨rfl, hC⟩⟩
  · refine ref_ex c12 (by omega) ((on_end (Q := aRV P) (i' := i + 1) (s' := 0) (md' := 0) (by omega) c12 vr (by omega) hj (by rw [c13 13 (by omega) (by omega)]; exact e13) (by rw [c13 14 (by omega) (by omega)]; exact e14) ht (by rw [c13 28 (by omega) (by omega)]; exact e28) (by omega) (by omega) (fun c => absurd c (by omega)) (fun c => absurd c (by omega)) (fun _ σ' ro vr' => ⟨3, by omega, (hP σ' ro vr'.vx).mono ?_⟩)).mono (fun r0 s0 h => h))
    rintro r0 s0 ⟨rfl, hp⟩
    exact ⟨rfl, rfl, hp⟩
end RETURNS
