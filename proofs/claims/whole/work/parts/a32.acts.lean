/-! one act of both machines -/
section ACTS
variable {X : Cx} {d : Nat} {κ : Km} {σ : Rm} {v V x m p : Nat} {b i j nv s md : Nat} {pl : Int32} {vs : Nat → Int32} {L : List Ite} {O : List Int32} {r : List Frm}
/-- the class: one act -/
theorem run_act {Q : Res → Km → Prop} (hd : 1 ≤ d) (hx : x < 200000000) (h10 : kI κ 79 10 = nI V) (hV : V ≤ 60) (hkV : V ≤ kV κ) (h13 : kI κ 79 13 = nI v) (hv : 1 ≤ v ∧ v ≤ V) (h17 : kI κ 79 17 = 0) (h14 : kI κ 79 14 = 0) (h9 : kI κ (1002 + 8 * v) 9 = nI i) (cd : CdW κ m) (hi : i < m)
    (q : (kI κ 69 i < 20 → ∃ e, e + 1 ≤ d ∧ KC' X e MX10_work [vR (1002 + 8 * v), vI (kI κ 69 i), vI (kI κ 70 i)] (cI κ (1002 + 8 * v) 9 (nI (i + 1))) (kRI fun y κ' => (y = 0 → ∃ e2, e2 + 1 ≤ d ∧ KC' X e2 MX6_raise [vR 79, vR (1002 + 8 * v), vI 11] κ' (kRV fun κ'' => K X d MX6_run 2 [(0, vR 79), (1, vI (nI (x + 1)))] [] κ'' Q)) ∧ (¬ y = 0 → K X d MX6_run 2 [(0, vR 79), (1, vI (nI (x + 1)))] [] κ' Q))) ∧
      (¬ kI κ 69 i < 20 → kI κ 69 i < 40 → ∃ e, e + 1 ≤ d ∧ KC' X e MX6_playPart [vR 79, vR (1002 + 8 * v), vI (kI κ 69 i), vI (kI κ 70 i)] (cI κ (1002 + 8 * v) 9 (nI (i + 1))) (kRV fun κ' => K X d MX6_run 2 [(0, vR 79), (1, vI (nI (x + 1)))] [] κ' Q)) ∧
      (¬ kI κ 69 i < 40 → ∃ e, e + 1 ≤ d ∧ KC' X e MX6_passGuards [vR 79, vR (1002 + 8 * v), vI (kI κ 69 i), vI (kI κ 70 i)] (cI κ (1002 + 8 * v) 9 (nI (i + 1))) (kRV fun κ' => K X d MX6_run 2 [(0, vR 79), (1, vI (nI (x + 1)))] [] κ' Q))) : K X d MX6_run 2 [(0, vR 79), (1, vI (nI x))] [] κ Q := by
  obtain ⟨q1, q2, q3⟩ := q
  have hH : isH κ (1002 + 8 * v) 10 := isH_voice hv.1 (by omega)
  have nx : ∀ κ', K X d MX6_run 2 [(0, vR 79), (1, vI (nI (x + 1)))] [] κ' Q → K X d MX6_run 152 [(0, vR 79), (1, vI (nI x)), (2, vR (1002 + 8 * v))] [] κ' Q := fun κ' h => k_6_run_152 _ _ (by rw [nI_1]; exact h)
  refine k_6_run_2 _ ?_
  rw [h13, litI 200000000, le_nI (by omega) (by omega)]
  refine ⟨fun z => absurd z (by omega), fun _ => ⟨fun z => absurd z (nI_ne0 (by omega) (by omega)), fun _ => ⟨0, hd, kc_vfind h10 hV hkV (fun n n1 n2 e => ?_) (fun z => ?_)⟩⟩⟩
  · have e : v = n := by rw [eq_nI (by omega) (by omega)] at e; exact e
    subst e
    rw [h17, h14, h9]
    refine ⟨Or.inr hH.1, fun z => absurd z (by omega), fun _ => ⟨fun _ => ⟨fun _ => ⟨hH, 0, hd, kc_actC cd hi ⟨0, hd, ?_⟩⟩, fun z => absurd rfl z⟩, fun z => absurd rfl z⟩⟩
    rw [h9]
    refine kc_argC cd hi ?_
    rw [h9, nI_1]
    rintro κ27 rfl
    refine ⟨fun c => ⟨fun c2 => ?_, fun c2 => ?_⟩, fun c => ?_⟩
    · obtain ⟨e, he, hc⟩ := q1 c2
      refine ⟨e, he, hc.mono ?_⟩
      rintro r κ' ⟨y, rfl, h1, h2⟩
      refine ⟨y, rfl, fun z => ?_, fun z => nx _ (h2 z)⟩
      obtain ⟨e2, he2, hc2⟩ := h1 z
      refine ⟨e2, he2, hc2.mono ?_⟩
      rintro r2 κ2 ⟨rfl, h3⟩
      exact ⟨rfl, nx _ h3⟩
    · obtain ⟨e, he, hc⟩ := q2 c2 c
      refine ⟨e, he, hc.mono ?_⟩
      rintro r2 κ2 ⟨rfl, h3⟩
      exact ⟨rfl, nx _ h3⟩
    · obtain ⟨e, he, hc⟩ := q3 c
      refine ⟨e, he, hc.mono ?_⟩
      rintro r2 κ2 ⟨rfl, h3⟩
      exact ⟨rfl, nx _ h3⟩
  · rw [litI 1, lt_nI (by omega) (by omega), lt_nI (by omega) (by omega)] at z
    omega
/-- the reference: one act -/
theorem goes_act {Q : Res → Rm → Prop} (h77 : sI σ 77 = nI v) (hv : 1 ≤ v ∧ v ≤ 60) (q : ∃ e, e + 1 ≤ d ∧ AC X 92 e MX13_goesOn [vR 92] σ (aRV fun s => A X 92 d MX13_goes 0 [(0, vR 92)] [] s Q)) : A X 92 d MX13_goes 0 [(0, vR 92)] [] σ Q := by
  refine a_goes_0 ?_
  rw [h77, nI_le0 (by omega)]
  exact ⟨fun z => absurd z (by omega), fun _ => q⟩
theorem on_act {Q : Res → Rm → Prop} {op : Nat} (hd : 1 ≤ d) (h77 : sI σ 77 = nI v) (hk : VRx σ v p ((b, i, j, pl, nv, vs, L, O, s, md) :: r)) (hj : j < 12000) (h13 : aI σ 13 j = nI op) (ho : op < 4 ∨ (10 < op ∧ op < 40))
    (q : A X 92 d MX13_goesOn 124 [(0, vR 92), (1, vI (nI v)), (2, vI (nI (60 * p + r.length))), (3, vI (nI j)), (4, vI (aI σ 14 j)), (5, vI (aI σ 15 j)), (6, vI (nI op))] [] (wI σ 62 (60 * p + r.length) (nI (j + 1))) Q) : A X 92 d MX13_goesOn 0 [(0, vR 92)] [] σ Q := by
  have hh := hk
  obtain ⟨⟨h1, h2, h3, h4⟩, h5, h6, h7, h8⟩ := hh
  have h4 : r.length + 1 ≤ 60 := h4
  have e62 : aI σ 62 (60 * p + r.length) = nI j := h8.2.1.2.1
  refine a_goesOn_0 ⟨0, hd, ?_⟩
  rw [h77]
  refine ac_call hk ?_
  rw [vpn (by omega), cl_nI (by omega), e62, vpn (by omega), cl_nI (by omega), nI_1]
  refine ⟨by omega, hj, hj, by omega, by omega, ?_⟩
  rintro s11 rfl
  rw [aI_ne (by decide), h13, litI 4, litI 10, lt_nI (by omega) (by omega), lt_nI (by omega) (by omega)]
  refine ⟨hj, fun _ => q, fun c => ⟨fun _ => q, fun c2 => absurd ho (by omega)⟩⟩
end ACTS
