/-! the reference: acts that work on operands and variables alone (by gen_a35.py) -/
section ONACT
variable {X : Cx} {d : Nat} {σ : Rm} {b i j nv s md i' s' md' v w p n j2 : Nat} {x : Int32} {pl : Int32} {vs : Nat → Int32} {L : List Ite} {O : List Int32} {r : List Frm}
theorem VR.var (h : VR σ n p ((b, i, j, pl, nv, vs, L, O, s, md) :: r)) (hi : i' < 20000) (hw : w < nv) : VR (wI σ 66 (40 * (60 * p + r.length) + w) x) n p ((b, i', j, pl, nv, ud vs w x, L, O, s', md') :: r) ∧ Ro p σ (wI σ 66 (40 * (60 * p + r.length) + w) x) :=
  ⟨(h.vx.var hi hw).1.vr (by rw [aI_ne (by decide)]; exact h.2.2.1.2.2), (h.vx.var (s' := s') (md' := md') hi hw).2⟩
theorem on_num {Q : Res → Rm → Prop} (hd : 2 ≤ d) (h77 : sI σ 77 = nI v) (hk : VR σ v p ((b, i, j, pl, nv, vs, L, O, s, md) :: r)) (hj : j + 1 < 12000) (h13 : aI σ 13 j = 1) (h14 : aI σ 14 j = x) (ho : O.length < 150) (hi : i' < 20000) (q : ∀ σ', Ro p σ σ' → VR σ' v p ((b, i', j + 1, pl, nv, vs, L, O ++ [x], s', md') :: r) → Q (.inl none) σ') : A X 92 d MX13_goesOn 0 [(0, vR 92)] [] σ Q := by
  have hh := hk
  obtain ⟨⟨h1, h2, h3, h4⟩, h5, h6, h7, h8⟩ := hh
  have h4 : r.length + 1 ≤ 60 := h4
  obtain ⟨va, ra⟩ := hk.act (i' := i') (j' := j + 1) (s' := s) (md' := md) hi hj
  refine on_act (op := 1) (by omega) h77 hk.vx (by omega) h13 (by omega) ?_
  refine a_goesOn_124 _ _ _ _ _ _ ⟨fun z => absurd z (by decide), fun _ => ?_, fun z => absurd z (by decide), fun z => absurd z (by decide), fun z => absurd z (by decide), fun z => absurd z (by decide), fun z => absurd z (by decide), fun z => absurd z (by decide), fun z => absurd z (by decide), fun z => absurd z (by decide), fun z => absurd z (by decide), fun z => absurd z (by decide), fun z => absurd z (by decide), fun z => absurd z (by decide), fun z => absurd (by decide) z⟩
  rw [h14]
  exact ⟨0, by omega, ac_push (s' := s') (md' := md') va ho hi (fun σ3 r3 v3 => a_goesOn_499 _ _ _ _ _ _ (q σ3 (ra.trans r3) v3))⟩
theorem on_var {Q : Res → Rm → Prop} (hd : 2 ≤ d) (h77 : sI σ 77 = nI v) (hk : VR σ v p ((b, i, j, pl, nv, vs, L, O, s, md) :: r)) (hj : j + 1 < 12000) (h13 : aI σ 13 j = 2) (h14 : aI σ 14 j = nI w) (hw : w < nv) (ho : O.length < 150) (hi : i' < 20000) (q : ∀ σ', Ro p σ σ' → VR σ' v p ((b, i', j + 1, pl, nv, vs, L, O ++ [vs w], s', md') :: r) → Q (.inl none) σ') : A X 92 d MX13_goesOn 0 [(0, vR 92)] [] σ Q := by
  have hh := hk
  obtain ⟨⟨h1, h2, h3, h4⟩, h5, h6, h7, h8⟩ := hh
  have h4 : r.length + 1 ≤ 60 := h4
  obtain ⟨va, ra⟩ := hk.act (i' := i') (j' := j + 1) (s' := s) (md' := md) hi hj
  refine on_act (op := 2) (by omega) h77 hk.vx (by omega) h13 (by omega) ?_
  refine a_goesOn_124 _ _ _ _ _ _ ⟨fun z => absurd z (by decide), fun z => absurd z (by decide), fun _ => ?_, fun z => absurd z (by decide), fun z => absurd z (by decide), fun z => absurd z (by decide), fun z => absurd z (by decide), fun z => absurd z (by decide), fun z => absurd z (by decide), fun z => absurd z (by decide), fun z => absurd z (by decide), fun z => absurd z (by decide), fun z => absurd z (by decide), fun z => absurd z (by decide), fun z => absurd (by decide) z⟩
  have hnv : nv ≤ 12 := h8.1.1
  rw [h14, litI 40, pk_mul, nI_add, vpn (by omega), cl_nI (by omega)]
  have e := va.2.2.2.2.2.2.1 w hw
  have e : aI (wI σ 62 (60 * p + r.length) (nI (j + 1))) 66 (40 * (60 * p + r.length) + w) = vs w := e
  rw [e]
  exact ⟨by omega, 0, by omega, ac_push (s' := s') (md' := md') va ho hi (fun σ3 r3 v3 => a_goesOn_499 _ _ _ _ _ _ (q σ3 (ra.trans r3) v3))⟩
theorem on_set {Q : Res → Rm → Prop} (hd : 2 ≤ d) (h77 : sI σ 77 = nI v) (hk : VR σ v p ((b, i, j, pl, nv, vs, L, O ++ [x], s, md) :: r)) (hj : j + 1 < 12000) (h13 : aI σ 13 j = 3) (h14 : aI σ 14 j = nI w) (hw : w < nv) (hi : i' < 20000) (q : ∀ σ', Ro p σ σ' → VR σ' v p ((b, i', j + 1, pl, nv, (ud vs w x), L, O, s', md') :: r) → Q (.inl none) σ') : A X 92 d MX13_goesOn 0 [(0, vR 92)] [] σ Q := by
  have hh := hk
  obtain ⟨⟨h1, h2, h3, h4⟩, h5, h6, h7, h8⟩ := hh
  have h4 : r.length + 1 ≤ 60 := h4
  obtain ⟨va, ra⟩ := hk.act (i' := i') (j' := j + 1) (s' := s) (md' := md) hi hj
  refine on_act (op := 3) (by omega) h77 hk.vx (by omega) h13 (by omega) ?_
  refine a_goesOn_124 _ _ _ _ _ _ ⟨fun z => absurd z (by decide), fun z => absurd z (by decide), fun z => absurd z (by decide), fun _ => ?_, fun z => absurd z (by decide), fun z => absurd z (by decide), fun z => absurd z (by decide), fun z => absurd z (by decide), fun z => absurd z (by decide), fun z => absurd z (by decide), fun z => absurd z (by decide), fun z => absurd z (by decide), fun z => absurd z (by decide), fun z => absurd z (by decide), fun z => absurd (by decide) z⟩
  have hnv : nv ≤ 12 := h8.1.1
  rw [h14, litI 40, pk_mul, nI_add, vpn (by omega), cl_nI (by omega)]
  refine ⟨0, by omega, ac_pop (s' := s) (md' := md) va hi (fun σ3 r3 v3 => ⟨by omega, ?_⟩)⟩
  rintro s34 rfl
  obtain ⟨v4, r4⟩ := v3.var (i' := i') (s' := s') (md' := md') (x := x) hi hw
  exact a_goesOn_499 _ _ _ _ _ _ (q _ ((ra.trans r3).trans r4) v4)
theorem on_neg {Q : Res → Rm → Prop} (hd : 2 ≤ d) (h77 : sI σ 77 = nI v) (hk : VR σ v p ((b, i, j, pl, nv, vs, L, O ++ [x], s, md) :: r)) (hj : j + 1 < 12000) (h13 : aI σ 13 j = 11) (hi : i' < 20000) (q : ∀ σ', Ro p σ σ' → VR σ' v p ((b, i', j + 1, pl, nv, vs, L, O ++ [-x], s', md') :: r) → Q (.inl none) σ') : A X 92 d MX13_goesOn 0 [(0, vR 92)] [] σ Q := by
  have hh := hk
  obtain ⟨⟨h1, h2, h3, h4⟩, h5, h6, h7, h8⟩ := hh
  have h4 : r.length + 1 ≤ 60 := h4
  obtain ⟨va, ra⟩ := hk.act (i' := i') (j' := j + 1) (s' := s) (md' := md) hi hj
  refine on_act (op := 11) (by omega) h77 hk.vx (by omega) h13 (by omega) ?_
  refine a_goesOn_124 _ _ _ _ _ _ ⟨fun z => absurd z (by decide), fun z => absurd z (by decide), fun z => absurd z (by decide), fun z => absurd z (by decide), fun _ => ?_, fun z => absurd z (by decide), fun z => absurd z (by decide), fun z => absurd z (by decide), fun z => absurd z (by decide), fun z => absurd z (by decide), fun z => absurd z (by decide), fun z => absurd z (by decide), fun z => absurd z (by decide), fun z => absurd z (by decide), fun z => absurd (by decide) z⟩
  have ho := h8.1.2.2.1
  have ho : (O ++ [x]).length ≤ 150 := ho
  rw [List.length_append] at ho
  have ho : O.length + 1 ≤ 150 := ho
  refine ⟨0, by omega, ac_pop (s' := s) (md' := md) va hi (fun σ3 r3 v3 => ⟨0, by omega, ?_⟩)⟩
  exact ac_push (s' := s') (md' := md') v3 (by omega) hi (fun σ4 r4 v4 => a_goesOn_499 _ _ _ _ _ _ (q σ4 ((ra.trans r3).trans r4) v4))
theorem on_not {Q : Res → Rm → Prop} (hd : 2 ≤ d) (h77 : sI σ 77 = nI v) (hk : VR σ v p ((b, i, j, pl, nv, vs, L, O ++ [x], s, md) :: r)) (hj : j + 1 < 12000) (h13 : aI σ 13 j = 12) (hi : i' < 20000) (q : ∀ σ', Ro p σ σ' → VR σ' v p ((b, i', j + 1, pl, nv, vs, L, O ++ [if x = 0 then 1 else 0], s', md') :: r) → Q (.inl none) σ') : A X 92 d MX13_goesOn 0 [(0, vR 92)] [] σ Q := by
  have hh := hk
  obtain ⟨⟨h1, h2, h3, h4⟩, h5, h6, h7, h8⟩ := hh
  have h4 : r.length + 1 ≤ 60 := h4
  obtain ⟨va, ra⟩ := hk.act (i' := i') (j' := j + 1) (s' := s) (md' := md) hi hj
  refine on_act (op := 12) (by omega) h77 hk.vx (by omega) h13 (by omega) ?_
  refine a_goesOn_124 _ _ _ _ _ _ ⟨fun z => absurd z (by decide), fun z => absurd z (by decide), fun z => absurd z (by decide), fun z => absurd z (by decide), fun z => absurd z (by decide), fun _ => ?_, fun z => absurd z (by decide), fun z => absurd z (by decide), fun z => absurd z (by decide), fun z => absurd z (by decide), fun z => absurd z (by decide), fun z => absurd z (by decide), fun z => absurd z (by decide), fun z => absurd z (by decide), fun z => absurd (by decide) z⟩
  have ho := h8.1.2.2.1
  have ho : (O ++ [x]).length ≤ 150 := ho
  rw [List.length_append] at ho
  have ho : O.length + 1 ≤ 150 := ho
  refine ⟨0, by omega, ac_pop (s' := s) (md' := md) va hi (fun σ3 r3 v3 => ⟨fun z => ?_, fun z => ?_⟩)⟩
  · exact a_goesOn_322 _ _ _ _ _ _ _ _ ⟨0, by omega, ac_push (s' := s') (md' := md') v3 (by omega) hi (fun σ4 r4 v4 => a_goesOn_499 _ _ _ _ _ _ (q σ4 ((ra.trans r3).trans r4) (by rw [if_pos z]; exact v4)))⟩
  · exact a_goesOn_322 _ _ _ _ _ _ _ _ ⟨0, by omega, ac_push (s' := s') (md' := md') v3 (by omega) hi (fun σ4 r4 v4 => a_goesOn_499 _ _ _ _ _ _ (q σ4 ((ra.trans r3).trans r4) (by rw [if_neg z]; exact v4)))⟩
theorem on_me {Q : Res → Rm → Prop} (hd : 2 ≤ d) (h77 : sI σ 77 = nI v) (hk : VR σ v p ((b, i, j, pl, nv, vs, L, O, s, md) :: r)) (hj : j + 1 < 12000) (h13 : aI σ 13 j = 13) (ho : O.length < 150) (hi : i' < 20000) (q : ∀ σ', Ro p σ σ' → VR σ' v p ((b, i', j + 1, pl, nv, vs, L, O ++ [nI v], s', md') :: r) → Q (.inl none) σ') : A X 92 d MX13_goesOn 0 [(0, vR 92)] [] σ Q := by
  have hh := hk
  obtain ⟨⟨h1, h2, h3, h4⟩, h5, h6, h7, h8⟩ := hh
  have h4 : r.length + 1 ≤ 60 := h4
  obtain ⟨va, ra⟩ := hk.act (i' := i') (j' := j + 1) (s' := s) (md' := md) hi hj
  refine on_act (op := 13) (by omega) h77 hk.vx (by omega) h13 (by omega) ?_
  refine a_goesOn_124 _ _ _ _ _ _ ⟨fun z => absurd z (by decide), fun z => absurd z (by decide), fun z => absurd z (by decide), fun z => absurd z (by decide), fun z => absurd z (by decide), fun z => absurd z (by decide), fun _ => ?_, fun z => absurd z (by decide), fun z => absurd z (by decide), fun z => absurd z (by decide), fun z => absurd z (by decide), fun z => absurd z (by decide), fun z => absurd z (by decide), fun z => absurd z (by decide), fun z => absurd (by decide) z⟩
  exact ⟨0, by omega, ac_push (s' := s') (md' := md') va ho hi (fun σ3 r3 v3 => a_goesOn_499 _ _ _ _ _ _ (q σ3 (ra.trans r3) v3))⟩
theorem on_pop {Q : Res → Rm → Prop} (hd : 2 ≤ d) (h77 : sI σ 77 = nI v) (hk : VR σ v p ((b, i, j, pl, nv, vs, L, O ++ [x], s, md) :: r)) (hj : j + 1 < 12000) (h13 : aI σ 13 j = 22) (hi : i' < 20000) (q : ∀ σ', Ro p σ σ' → VR σ' v p ((b, i', j + 1, pl, nv, vs, L, O, s', md') :: r) → Q (.inl none) σ') : A X 92 d MX13_goesOn 0 [(0, vR 92)] [] σ Q := by
  have hh := hk
  obtain ⟨⟨h1, h2, h3, h4⟩, h5, h6, h7, h8⟩ := hh
  have h4 : r.length + 1 ≤ 60 := h4
  obtain ⟨va, ra⟩ := hk.act (i' := i') (j' := j + 1) (s' := s) (md' := md) hi hj
  refine on_act (op := 22) (by omega) h77 hk.vx (by omega) h13 (by omega) ?_
  refine a_goesOn_124 _ _ _ _ _ _ ⟨fun z => absurd z (by decide), fun z => absurd z (by decide), fun z => absurd z (by decide), fun z => absurd z (by decide), fun z => absurd z (by decide), fun z => absurd z (by decide), fun z => absurd z (by decide), fun z => absurd z (by decide), fun z => absurd z (by decide), fun z => absurd z (by decide), fun z => absurd z (by decide), fun z => absurd z (by decide), fun z => absurd z (by decide), fun z => absurd z (by decide), fun _ => ⟨1, hd, AC_of_A rfl (Nat.le_of_ble_eq_true rfl) rfl (a_controls_0 _ _ _ _ _ ?_)⟩⟩
  rw [vpn (a := v) (by omega)]
  refine ⟨by omega, ⟨fun z => absurd z (by decide), fun _ => ?_, fun z => absurd z (by decide), fun z => absurd z (by decide), fun z => absurd z (by decide), fun z => absurd z (by decide), fun z => absurd z (by decide), fun z => absurd z (by decide), fun z => absurd z (by decide), fun z => absurd z (by decide), fun z => absurd z (by decide), fun z => absurd (by decide) z⟩⟩
  refine ⟨0, by omega, ac_pop (s' := s') (md' := md') va hi (fun σ3 r3 v3 => ?_)⟩
  exact a_controls_449 _ _ _ _ _ _ ⟨rfl, a_goesOn_499 _ _ _ _ _ _ (q σ3 (ra.trans r3) v3)⟩
theorem on_jump {Q : Res → Rm → Prop} (hd : 2 ≤ d) (h77 : sI σ 77 = nI v) (hk : VR σ v p ((b, i, j, pl, nv, vs, L, O, s, md) :: r)) (hj : j + 1 < 12000) (h13 : aI σ 13 j = 23) (h14 : aI σ 14 j = nI j2) (hj2 : j2 < 12000) (hi : i' < 20000) (q : ∀ σ', Ro p σ σ' → VR σ' v p ((b, i', j2, pl, nv, vs, L, O, s', md') :: r) → Q (.inl none) σ') : A X 92 d MX13_goesOn 0 [(0, vR 92)] [] σ Q := by
  have hh := hk
  obtain ⟨⟨h1, h2, h3, h4⟩, h5, h6, h7, h8⟩ := hh
  have h4 : r.length + 1 ≤ 60 := h4
  obtain ⟨va, ra⟩ := hk.act (i' := i') (j' := j + 1) (s' := s) (md' := md) hi hj
  refine on_act (op := 23) (by omega) h77 hk.vx (by omega) h13 (by omega) ?_
  refine a_goesOn_124 _ _ _ _ _ _ ⟨fun z => absurd z (by decide), fun z => absurd z (by decide), fun z => absurd z (by decide), fun z => absurd z (by decide), fun z => absurd z (by decide), fun z => absurd z (by decide), fun z => absurd z (by decide), fun z => absurd z (by decide), fun z => absurd z (by decide), fun z => absurd z (by decide), fun z => absurd z (by decide), fun z => absurd z (by decide), fun z => absurd z (by decide), fun z => absurd z (by decide), fun _ => ⟨1, hd, AC_of_A rfl (Nat.le_of_ble_eq_true rfl) rfl (a_controls_0 _ _ _ _ _ ?_)⟩⟩
  rw [vpn (a := v) (by omega)]
  refine ⟨by omega, ⟨fun z => absurd z (by decide), fun z => absurd z (by decide), fun _ => ?_, fun z => absurd z (by decide), fun z => absurd z (by decide), fun z => absurd z (by decide), fun z => absurd z (by decide), fun z => absurd z (by decide), fun z => absurd z (by decide), fun z => absurd z (by decide), fun z => absurd z (by decide), fun z => absurd (by decide) z⟩⟩
  rw [h14, vpn (by omega), cl_nI (by omega)]
  refine ⟨by omega, ?_⟩
  rintro s29 rfl
  obtain ⟨v4, r4⟩ := va.act (i' := i') (j' := j2) (s' := s') (md' := md') hi hj2
  exact a_controls_449 _ _ _ _ _ _ ⟨rfl, a_goesOn_499 _ _ _ _ _ _ (q _ (ra.trans r4) v4)⟩
theorem on_unless {Q : Res → Rm → Prop} (hd : 2 ≤ d) (h77 : sI σ 77 = nI v) (hk : VR σ v p ((b, i, j, pl, nv, vs, L, O ++ [x], s, md) :: r)) (hj : j + 1 < 12000) (h13 : aI σ 13 j = 24) (h14 : aI σ 14 j = nI j2) (hj2 : j2 < 12000) (hi : i' < 20000) (q : ∀ σ', Ro p σ σ' → VR σ' v p ((b, i', (if x = 0 then j2 else j + 1), pl, nv, vs, L, O, s', md') :: r) → Q (.inl none) σ') : A X 92 d MX13_goesOn 0 [(0, vR 92)] [] σ Q := by
  have hh := hk
  obtain ⟨⟨h1, h2, h3, h4⟩, h5, h6, h7, h8⟩ := hh
  have h4 : r.length + 1 ≤ 60 := h4
  obtain ⟨va, ra⟩ := hk.act (i' := i') (j' := j + 1) (s' := s) (md' := md) hi hj
  refine on_act (op := 24) (by omega) h77 hk.vx (by omega) h13 (by omega) ?_
  refine a_goesOn_124 _ _ _ _ _ _ ⟨fun z => absurd z (by decide), fun z => absurd z (by decide), fun z => absurd z (by decide), fun z => absurd z (by decide), fun z => absurd z (by decide), fun z => absurd z (by decide), fun z => absurd z (by decide), fun z => absurd z (by decide), fun z => absurd z (by decide), fun z => absurd z (by decide), fun z => absurd z (by decide), fun z => absurd z (by decide), fun z => absurd z (by decide), fun z => absurd z (by decide), fun _ => ⟨1, hd, AC_of_A rfl (Nat.le_of_ble_eq_true rfl) rfl (a_controls_0 _ _ _ _ _ ?_)⟩⟩
  rw [vpn (a := v) (by omega)]
  refine ⟨by omega, ⟨fun z => absurd z (by decide), fun z => absurd z (by decide), fun z => absurd z (by decide), fun _ => ?_, fun z => absurd z (by decide), fun z => absurd z (by decide), fun z => absurd z (by decide), fun z => absurd z (by decide), fun z => absurd z (by decide), fun z => absurd z (by decide), fun z => absurd z (by decide), fun z => absurd (by decide) z⟩⟩
  rw [h14]
  refine ⟨0, by omega, ac_pop (s' := s) (md' := md) va hi (fun σ3 r3 v3 => ⟨fun z => ?_, fun z => ?_⟩)⟩
  · refine a_controls_126 _ _ _ _ _ _ _ _ ?_
    rw [vpn (by omega), cl_nI (by omega)]
    refine ⟨by omega, ?_⟩
    rintro s2 rfl
    obtain ⟨v4, r4⟩ := v3.act (i' := i') (j' := j2) (s' := s') (md' := md') hi hj2
    exact a_controls_449 _ _ _ _ _ _ ⟨rfl, a_goesOn_499 _ _ _ _ _ _ (q _ ((ra.trans r3).trans r4) (by rw [if_pos z]; exact v4))⟩
  · rw [vpn (by omega), cl_nI (by omega)]
    refine ⟨by omega, a_controls_126 _ _ _ _ _ _ _ _ ?_⟩
    have e62 : aI σ3 62 (60 * p + r.length) = nI (j + 1) := v3.2.2.2.2.2.1.2.1
    rw [vpn (by omega), cl_nI (by omega), e62]
    refine ⟨by omega, ?_⟩
    rintro s2 rfl
    obtain ⟨v4, r4⟩ := v3.act (i' := i') (j' := j + 1) (s' := s') (md' := md') hi hj
    exact a_controls_449 _ _ _ _ _ _ ⟨rfl, a_goesOn_499 _ _ _ _ _ _ (q _ ((ra.trans r3).trans r4) (by rw [if_neg z]; exact v4))⟩
end ONACT
