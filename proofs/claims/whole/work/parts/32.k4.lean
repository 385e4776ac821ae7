theorem k_6_reset_0 {X : Cx} {d : Nat} {κ : Km} {Q : Res → Km → Prop}  (h : ∃ e1 : Nat, e1 + 1 ≤ d ∧ KC' X e1 MX6_failAll [vR 79] κ (kRV fun  κ4 => ∃ e6 : Nat, e6 + 1 ≤ d ∧ KC' X e6 MX4_clear [vR 80] κ4 (kRV fun  κ9 => ∃ e11 : Nat, e11 + 1 ≤ d ∧ KC' X e11 MX4_clear [vR 82] κ9 (kRV fun  κ14 => ∃ e16 : Nat, e16 + 1 ≤ d ∧ KC' X e16 MX2_clear [vR 84] κ14 (kRV fun  κ19 => ∀ κ21 : Km, κ21 = cI κ19 79 9 0 → ∀ κ22 : Km, κ22 = cI κ21 79 10 0 → ∀ κ23 : Km, κ23 = cI κ22 79 11 0 → ∀ κ24 : Km, κ24 = cI κ23 79 12 0 → ∀ κ25 : Km, κ25 = cI κ24 79 13 0 → ∀ κ26 : Km, κ26 = cI κ25 79 14 0 → ∀ κ27 : Km, κ27 = cI κ26 79 15 1 → ∀ κ28 : Km, κ28 = cI κ27 79 16 0 → ∀ κ29 : Km, κ29 = cI κ28 79 17 0 → Q (.inl none) κ29))))) : K X d MX6_reset 0 [(0, vR 79)] [] κ Q := by
  refine K_p (pc2 := 1) (lv2 := [(0, vR 79)]) (st2 := [vR 79]) (fun ad S Q _ k => V_aload_n (pc2 := 1) (dk D_X6_reset 0 rfl) rfl (V_lg 0 rfl) rfl k) ?_
  obtain ⟨e1, he2, hc3⟩ := h
  refine K_call (as := [vR 79]) (st := []) (pc2 := 4) (okL.all _ ⟨(Or.inr ⟨Or.inl ⟨by decide, by decide⟩, by decide⟩), trivial⟩) (okS.all _ trivial) (fun ad S Q Qc hC hc k => V_callV (as := []) (st := []) (M' := MX6_failAll) (ci := 6) (pc2 := 4) (dk D_X6_reset 1 rfl) ml_6_57 mv_X6_failAll rfl rfl (by decide) rfl (Nat.le_of_ble_eq_true rfl) rfl he2 (hC.k' (fixH 79 6 (by decide) rfl)) hc k) hc3 (kRV.k fun  κ4 h mo5 => ?_)
  refine K_p (pc2 := 5) (lv2 := [(0, vR 79)]) (st2 := [vR 79]) (fun ad S Q _ k => V_aload_n (pc2 := 5) (dk D_X6_reset 2 rfl) rfl (V_lg 0 rfl) rfl k) ?_
  refine K_getF kc6 (h' := 80) (pc2 := 8) 0 (by decide) (dk D_X6_reset 3 rfl) fl_6_12 (by decide) (fun _ _ => rfl) rfl (fixH 79 6 (by decide) rfl) (by decide) ?_
  obtain ⟨e6, he7, hc8⟩ := h
  refine K_call (as := [vR 80]) (st := []) (pc2 := 11) (okL.all _ ⟨(Or.inr ⟨Or.inl ⟨by decide, by decide⟩, by decide⟩), trivial⟩) (okS.all _ trivial) (fun ad S Q Qc hC hc k => V_callV (as := []) (st := []) (M' := MX4_clear) (ci := 4) (pc2 := 11) (dk D_X6_reset 4 rfl) ml_6_60 mv_X4_clear rfl rfl (by decide) rfl (Nat.le_of_ble_eq_true rfl) rfl he7 (hC.k' (fixH 80 4 (by decide) rfl)) hc k) hc8 (kRV.k fun  κ9 h mo10 => ?_)
  refine K_p (pc2 := 12) (lv2 := [(0, vR 79)]) (st2 := [vR 79]) (fun ad S Q _ k => V_aload_n (pc2 := 12) (dk D_X6_reset 5 rfl) rfl (V_lg 0 rfl) rfl k) ?_
  refine K_getF kc6 (h' := 82) (pc2 := 15) 1 (by decide) (dk D_X6_reset 6 rfl) fl_6_18 (by decide) (fun _ _ => rfl) rfl (fixH 79 6 (by decide) rfl) (by decide) ?_
  obtain ⟨e11, he12, hc13⟩ := h
  refine K_call (as := [vR 82]) (st := []) (pc2 := 18) (okL.all _ ⟨(Or.inr ⟨Or.inl ⟨by decide, by decide⟩, by decide⟩), trivial⟩) (okS.all _ trivial) (fun ad S Q Qc hC hc k => V_callV (as := []) (st := []) (M' := MX4_clear) (ci := 4) (pc2 := 18) (dk D_X6_reset 7 rfl) ml_6_60 mv_X4_clear rfl rfl (by decide) rfl (Nat.le_of_ble_eq_true rfl) rfl he12 (hC.k' (fixH 82 4 (by decide) rfl)) hc k) hc13 (kRV.k fun  κ14 h mo15 => ?_)
  refine K_p (pc2 := 19) (lv2 := [(0, vR 79)]) (st2 := [vR 79]) (fun ad S Q _ k => V_aload_n (pc2 := 19) (dk D_X6_reset 8 rfl) rfl (V_lg 0 rfl) rfl k) ?_
  refine K_getF kc6 (h' := 84) (pc2 := 22) 2 (by decide) (dk D_X6_reset 9 rfl) fl_6_24 (by decide) (fun _ _ => rfl) rfl (fixH 79 6 (by decide) rfl) (by decide) ?_
  obtain ⟨e16, he17, hc18⟩ := h
  refine K_call (as := [vR 84]) (st := []) (pc2 := 25) (okL.all _ ⟨(Or.inr ⟨Or.inl ⟨by decide, by decide⟩, by decide⟩), trivial⟩) (okS.all _ trivial) (fun ad S Q Qc hC hc k => V_callV (as := []) (st := []) (M' := MX2_clear) (ci := 2) (pc2 := 25) (dk D_X6_reset 10 rfl) ml_6_54 mv_X2_clear rfl rfl (by decide) rfl (Nat.le_of_ble_eq_true rfl) rfl he17 (hC.k' (fixH 84 2 (by decide) rfl)) hc k) hc18 (kRV.k fun  κ19 h mo20 => ?_)
  refine K_p (pc2 := 26) (lv2 := [(0, vR 79)]) (st2 := [vR 79]) (fun ad S Q _ k => V_aload_n (pc2 := 26) (dk D_X6_reset 11 rfl) rfl (V_lg 0 rfl) rfl k) ?_
  refine K_p (pc2 := 27) (lv2 := [(0, vR 79)]) (st2 := [vI _, vR 79]) (fun ad S Q _ k => V_iconst (x := 0) (pc2 := 27) (dk D_X6_reset 12 rfl) (by decide) rfl k) ?_
  refine K_putI kc6 (pc2 := 30) 9 (dk D_X6_reset 13 rfl) fl_6_61 (by decide) (Or.inl rfl) rfl rfl (fixH 79 6 (by decide) rfl) (by decide) ?_
  have h := h _ rfl
  refine K_p (pc2 := 31) (lv2 := [(0, vR 79)]) (st2 := [vR 79]) (fun ad S Q _ k => V_aload_n (pc2 := 31) (dk D_X6_reset 14 rfl) rfl (V_lg 0 rfl) rfl k) ?_
  refine K_p (pc2 := 32) (lv2 := [(0, vR 79)]) (st2 := [vI _, vR 79]) (fun ad S Q _ k => V_iconst (x := 0) (pc2 := 32) (dk D_X6_reset 15 rfl) (by decide) rfl k) ?_
  refine K_putI kc6 (pc2 := 35) 10 (dk D_X6_reset 16 rfl) fl_6_65 (by decide) (Or.inl rfl) rfl rfl (fixH 79 6 (by decide) rfl) (by decide) ?_
  have h := h _ rfl
  refine K_p (pc2 := 36) (lv2 := [(0, vR 79)]) (st2 := [vR 79]) (fun ad S Q _ k => V_aload_n (pc2 := 36) (dk D_X6_reset 17 rfl) rfl (V_lg 0 rfl) rfl k) ?_
  refine K_p (pc2 := 37) (lv2 := [(0, vR 79)]) (st2 := [vI _, vR 79]) (fun ad S Q _ k => V_iconst (x := 0) (pc2 := 37) (dk D_X6_reset 18 rfl) (by decide) rfl k) ?_
  refine K_putI kc6 (pc2 := 40) 11 (dk D_X6_reset 19 rfl) fl_6_68 (by decide) (Or.inl rfl) rfl rfl (fixH 79 6 (by decide) rfl) (by decide) ?_
  have h := h _ rfl
  refine K_p (pc2 := 41) (lv2 := [(0, vR 79)]) (st2 := [vR 79]) (fun ad S Q _ k => V_aload_n (pc2 := 41) (dk D_X6_reset 20 rfl) rfl (V_lg 0 rfl) rfl k) ?_
  refine K_p (pc2 := 42) (lv2 := [(0, vR 79)]) (st2 := [vI _, vR 79]) (fun ad S Q _ k => V_iconst (x := 0) (pc2 := 42) (dk D_X6_reset 21 rfl) (by decide) rfl k) ?_
  refine K_putI kc6 (pc2 := 45) 12 (dk D_X6_reset 22 rfl) fl_6_71 (by decide) (Or.inl rfl) rfl rfl (fixH 79 6 (by decide) rfl) (by decide) ?_
  have h := h _ rfl
  refine K_p (pc2 := 46) (lv2 := [(0, vR 79)]) (st2 := [vR 79]) (fun ad S Q _ k => V_aload_n (pc2 := 46) (dk D_X6_reset 23 rfl) rfl (V_lg 0 rfl) rfl k) ?_
  refine K_p (pc2 := 47) (lv2 := [(0, vR 79)]) (st2 := [vI _, vR 79]) (fun ad S Q _ k => V_iconst (x := 0) (pc2 := 47) (dk D_X6_reset 24 rfl) (by decide) rfl k) ?_
  refine K_putI kc6 (pc2 := 50) 13 (dk D_X6_reset 25 rfl) fl_6_74 (by decide) (Or.inl rfl) rfl rfl (fixH 79 6 (by decide) rfl) (by decide) ?_
  have h := h _ rfl
  refine K_p (pc2 := 51) (lv2 := [(0, vR 79)]) (st2 := [vR 79]) (fun ad S Q _ k => V_aload_n (pc2 := 51) (dk D_X6_reset 26 rfl) rfl (V_lg 0 rfl) rfl k) ?_
  refine K_p (pc2 := 52) (lv2 := [(0, vR 79)]) (st2 := [vI _, vR 79]) (fun ad S Q _ k => V_iconst (x := 0) (pc2 := 52) (dk D_X6_reset 27 rfl) (by decide) rfl k) ?_
  refine K_putI kc6 (pc2 := 55) 14 (dk D_X6_reset 28 rfl) fl_6_77 (by decide) (Or.inl rfl) rfl rfl (fixH 79 6 (by decide) rfl) (by decide) ?_
  have h := h _ rfl
  refine K_p (pc2 := 56) (lv2 := [(0, vR 79)]) (st2 := [vR 79]) (fun ad S Q _ k => V_aload_n (pc2 := 56) (dk D_X6_reset 29 rfl) rfl (V_lg 0 rfl) rfl k) ?_
  refine K_p (pc2 := 57) (lv2 := [(0, vR 79)]) (st2 := [vI _, vR 79]) (fun ad S Q _ k => V_iconst (x := 1) (pc2 := 57) (dk D_X6_reset 30 rfl) (by decide) rfl k) ?_
  refine K_putI kc6 (pc2 := 60) 15 (dk D_X6_reset 31 rfl) fl_6_80 (by decide) (Or.inl rfl) rfl rfl (fixH 79 6 (by decide) rfl) (by decide) ?_
  have h := h _ rfl
  refine K_p (pc2 := 61) (lv2 := [(0, vR 79)]) (st2 := [vR 79]) (fun ad S Q _ k => V_aload_n (pc2 := 61) (dk D_X6_reset 32 rfl) rfl (V_lg 0 rfl) rfl k) ?_
  refine K_p (pc2 := 62) (lv2 := [(0, vR 79)]) (st2 := [vI _, vR 79]) (fun ad S Q _ k => V_iconst (x := 0) (pc2 := 62) (dk D_X6_reset 33 rfl) (by decide) rfl k) ?_
  refine K_putI kc6 (pc2 := 65) 16 (dk D_X6_reset 34 rfl) fl_6_83 (by decide) (Or.inl rfl) rfl rfl (fixH 79 6 (by decide) rfl) (by decide) ?_
  have h := h _ rfl
  refine K_p (pc2 := 66) (lv2 := [(0, vR 79)]) (st2 := [vR 79]) (fun ad S Q _ k => V_aload_n (pc2 := 66) (dk D_X6_reset 35 rfl) rfl (V_lg 0 rfl) rfl k) ?_
  refine K_p (pc2 := 67) (lv2 := [(0, vR 79)]) (st2 := [vI _, vR 79]) (fun ad S Q _ k => V_iconst (x := 0) (pc2 := 67) (dk D_X6_reset 36 rfl) (by decide) rfl k) ?_
  refine K_putZ kc6 (pc2 := 70) 17 (dk D_X6_reset 37 rfl) fl_6_86 (by decide) (Or.inl rfl) rfl rfl (fixH 79 6 (by decide) rfl) (by decide) (Or.inl rfl) ?_
  have h := h _ rfl
  exact K_ret (r := .inl none) (fun ad S Q _ k => V_return (dk D_X6_reset 38 rfl) rfl k) h
theorem k_6_made_0 {X : Cx} {d : Nat} {κ : Km} {Q : Res → Km → Prop}  (h : Q (.inl (some (vI (kI κ 79 10)))) κ) : K X d MX6_made 0 [(0, vR 79)] [] κ Q := by
  refine K_p (pc2 := 1) (lv2 := [(0, vR 79)]) (st2 := [vR 79]) (fun ad S Q _ k => V_aload_n (pc2 := 1) (dk D_X6_made 0 rfl) rfl (V_lg 0 rfl) rfl k) ?_
  refine K_getI kc6 (pc2 := 4) 10 (dk D_X6_made 1 rfl) fl_6_65 (by decide) (fun _ _ => rfl) rfl (fixH 79 6 (by decide) rfl) ?_
  exact K_ret (r := .inl (some (vI _))) (fun ad S Q _ k => V_ireturn (dk D_X6_made 2 rfl) rfl k) h
theorem k_6_alive_0 {X : Cx} {d : Nat} {κ : Km} {Q : Res → Km → Prop}  (h : Q (.inl (some (vI (kI κ 79 11)))) κ) : K X d MX6_alive 0 [(0, vR 79)] [] κ Q := by
  refine K_p (pc2 := 1) (lv2 := [(0, vR 79)]) (st2 := [vR 79]) (fun ad S Q _ k => V_aload_n (pc2 := 1) (dk D_X6_alive 0 rfl) rfl (V_lg 0 rfl) rfl k) ?_
  refine K_getI kc6 (pc2 := 4) 11 (dk D_X6_alive 1 rfl) fl_6_68 (by decide) (fun _ _ => rfl) rfl (fixH 79 6 (by decide) rfl) ?_
  exact K_ret (r := .inl (some (vI _))) (fun ad S Q _ k => V_ireturn (dk D_X6_alive 2 rfl) rfl k) h
theorem k_6_steps_0 {X : Cx} {d : Nat} {κ : Km} {Q : Res → Km → Prop}  (h : Q (.inl (some (vI (kI κ 79 12)))) κ) : K X d MX6_steps 0 [(0, vR 79)] [] κ Q := by
  refine K_p (pc2 := 1) (lv2 := [(0, vR 79)]) (st2 := [vR 79]) (fun ad S Q _ k => V_aload_n (pc2 := 1) (dk D_X6_steps 0 rfl) rfl (V_lg 0 rfl) rfl k) ?_
  refine K_getI kc6 (pc2 := 4) 12 (dk D_X6_steps 1 rfl) fl_6_71 (by decide) (fun _ _ => rfl) rfl (fixH 79 6 (by decide) rfl) ?_
  exact K_ret (r := .inl (some (vI _))) (fun ad S Q _ k => V_ireturn (dk D_X6_steps 2 rfl) rfl k) h
theorem k_6_outcome_0 {X : Cx} {d : Nat} {κ : Km} {Q : Res → Km → Prop}  (h : Q (.inl (some (vI (kI κ 79 15)))) κ) : K X d MX6_outcome 0 [(0, vR 79)] [] κ Q := by
  refine K_p (pc2 := 1) (lv2 := [(0, vR 79)]) (st2 := [vR 79]) (fun ad S Q _ k => V_aload_n (pc2 := 1) (dk D_X6_outcome 0 rfl) rfl (V_lg 0 rfl) rfl k) ?_
  refine K_getI kc6 (pc2 := 4) 15 (dk D_X6_outcome 1 rfl) fl_6_80 (by decide) (fun _ _ => rfl) rfl (fixH 79 6 (by decide) rfl) ?_
  exact K_ret (r := .inl (some (vI _))) (fun ad S Q _ k => V_ireturn (dk D_X6_outcome 2 rfl) rfl k) h
theorem k_6_given_0 {X : Cx} {d : Nat} {κ : Km} {Q : Res → Km → Prop}  (h : Q (.inl (some (vI (kI κ 79 16)))) κ) : K X d MX6_given 0 [(0, vR 79)] [] κ Q := by
  refine K_p (pc2 := 1) (lv2 := [(0, vR 79)]) (st2 := [vR 79]) (fun ad S Q _ k => V_aload_n (pc2 := 1) (dk D_X6_given 0 rfl) rfl (V_lg 0 rfl) rfl k) ?_
  refine K_getI kc6 (pc2 := 4) 16 (dk D_X6_given 1 rfl) fl_6_83 (by decide) (fun _ _ => rfl) rfl (fixH 79 6 (by decide) rfl) ?_
  exact K_ret (r := .inl (some (vI _))) (fun ad S Q _ k => V_ireturn (dk D_X6_given 2 rfl) rfl k) h
theorem k_6_isSpent_0 {X : Cx} {d : Nat} {κ : Km} {Q : Res → Km → Prop}  (h : ((kI κ 79 17) = 0 ∨ (kI κ 79 17) = 1) ∧ Q (.inl (some (vI (kI κ 79 17)))) κ) : K X d MX6_isSpent 0 [(0, vR 79)] [] κ Q := by
  refine K_p (pc2 := 1) (lv2 := [(0, vR 79)]) (st2 := [vR 79]) (fun ad S Q _ k => V_aload_n (pc2 := 1) (dk D_X6_isSpent 0 rfl) rfl (V_lg 0 rfl) rfl k) ?_
  refine K_getI kc6 (pc2 := 4) 17 (dk D_X6_isSpent 1 rfl) fl_6_86 (by decide) (fun _ _ => rfl) rfl (fixH 79 6 (by decide) rfl) ?_
  obtain ⟨h1, h⟩ := h
  exact K_ret (r := .inl (some (vI _))) (fun ad S Q _ k => V_zreturn (dk D_X6_isSpent 2 rfl) rfl h1 k) h
theorem k_6_isFull_0 {X : Cx} {d : Nat} {κ : Km} {Q : Res → Km → Prop}  (h : ((60 ≤ (kI κ 79 10) → K X d MX6_isFull 18 [(0, vR 79)] [] κ Q) ∧ (¬ 60 ≤ (kI κ 79 10) → (((kI κ 79 11) < 12 → K X d MX6_isFull 23 [(0, vR 79)] [vI 0] κ Q) ∧ (¬ (kI κ 79 11) < 12 → K X d MX6_isFull 18 [(0, vR 79)] [] κ Q))))) : K X d MX6_isFull 0 [(0, vR 79)] [] κ Q := by
  refine K_p (pc2 := 1) (lv2 := [(0, vR 79)]) (st2 := [vR 79]) (fun ad S Q _ k => V_aload_n (pc2 := 1) (dk D_X6_isFull 0 rfl) rfl (V_lg 0 rfl) rfl k) ?_
  refine K_getI kc6 (pc2 := 4) 10 (dk D_X6_isFull 1 rfl) fl_6_65 (by decide) (fun _ _ => rfl) rfl (fixH 79 6 (by decide) rfl) ?_
  refine K_p (pc2 := 6) (lv2 := [(0, vR 79)]) (st2 := [vI _, vI _]) (fun ad S Q _ k => V_bipush (x := 60) (pc2 := 6) (dk D_X6_isFull 2 rfl) (by decide) rfl k) ?_
  refine K_if (pa := 18) (pb := 9) (lv2 := [(0, vR 79)]) (st2 := []) (fun ad S Q _ k1 k2 => V_cmpge (tgt := 18) (pc2 := 9) (dk D_X6_isFull 3 rfl) (by decide) rfl (fun q => k1 q) (fun q => k2 q)) (fun q1 => ?_) (fun q1 => ?_)
  · have h := h.1 q1
    exact h
  · have h := h.2 q1
    refine K_p (pc2 := 10) (lv2 := [(0, vR 79)]) (st2 := [vR 79]) (fun ad S Q _ k => V_aload_n (pc2 := 10) (dk D_X6_isFull 4 rfl) rfl (V_lg 0 rfl) rfl k) ?_
    refine K_getI kc6 (pc2 := 13) 11 (dk D_X6_isFull 5 rfl) fl_6_68 (by decide) (fun _ _ => rfl) rfl (fixH 79 6 (by decide) rfl) ?_
    refine K_p (pc2 := 15) (lv2 := [(0, vR 79)]) (st2 := [vI _, vI _]) (fun ad S Q _ k => V_bipush (x := 12) (pc2 := 15) (dk D_X6_isFull 6 rfl) (by decide) rfl k) ?_
    refine K_if (pa := 22) (pb := 18) (lv2 := [(0, vR 79)]) (st2 := []) (fun ad S Q _ k1 k2 => V_cmplt (tgt := 22) (pc2 := 18) (dk D_X6_isFull 7 rfl) (by decide) rfl (fun q => k1 q) (fun q => k2 q)) (fun q2 => ?_) (fun q2 => ?_)
    · have h := h.1 q2
      refine K_p (pc2 := 23) (lv2 := [(0, vR 79)]) (st2 := [vI _]) (fun ad S Q _ k => V_iconst (x := 0) (pc2 := 23) (dk D_X6_isFull 10 rfl) (by decide) rfl k) ?_
      exact h
    · have h := h.2 q2
      exact h
theorem k_6_isFull_18 {X : Cx} {d : Nat} {κ : Km} {Q : Res → Km → Prop}  (h : K X d MX6_isFull 23 [(0, vR 79)] [vI 1] κ Q) : K X d MX6_isFull 18 [(0, vR 79)] [] κ Q := by
  refine K_p (pc2 := 19) (lv2 := [(0, vR 79)]) (st2 := [vI _]) (fun ad S Q _ k => V_iconst (x := 1) (pc2 := 19) (dk D_X6_isFull 8 rfl) (by decide) rfl k) ?_
  refine K_p (pc2 := 23) (lv2 := [(0, vR 79)]) (st2 := [vI _]) (fun ad S Q _ k => V_goto (tgt := 23) (dk D_X6_isFull 9 rfl) (by decide) k) ?_
  exact h
theorem k_6_isFull_23 {X : Cx} {d : Nat} {κ : Km} {Q : Res → Km → Prop} (t0 : Int32) (h : (t0 = 0 ∨ t0 = 1) ∧ Q (.inl (some (vI t0))) κ) : K X d MX6_isFull 23 [(0, vR 79)] [vI t0] κ Q := by
  obtain ⟨h1, h⟩ := h
  exact K_ret (r := .inl (some (vI _))) (fun ad S Q _ k => V_zreturn (dk D_X6_isFull 11 rfl) rfl h1 k) h
theorem k_6_inRing_0 {X : Cx} {d : Nat} {κ : Km} {Q : Res → Km → Prop} (x1 : Int32) (h : ((x1 < 0 → K X d MX6_inRing 18 [(0, vR 79), (1, vI x1)] [] κ Q) ∧ (¬ x1 < 0 → (((kI κ 79 9) ≤ x1 → K X d MX6_inRing 18 [(0, vR 79), (1, vI x1)] [] κ Q) ∧ (¬ (kI κ 79 9) ≤ x1 → ((x1 < 12 → (vp_in x1 (kW κ 91)) ∧ K X d MX6_inRing 29 [(0, vR 79), (1, vI x1)] [vI (kI κ 91 (x1 : Int32).toNatClampNeg)] κ Q) ∧ (¬ x1 < 12 → K X d MX6_inRing 18 [(0, vR 79), (1, vI x1)] [] κ Q))))))) : K X d MX6_inRing 0 [(0, vR 79), (1, vI x1)] [] κ Q := by
  refine K_p (pc2 := 1) (lv2 := [(0, vR 79), (1, vI _)]) (st2 := [vI _]) (fun ad S Q _ k => V_iload_n (pc2 := 1) (dk D_X6_inRing 0 rfl) rfl (V_lg 1 rfl) rfl k) ?_
  refine K_if (pa := 18) (pb := 4) (lv2 := [(0, vR 79), (1, vI _)]) (st2 := []) (fun ad S Q _ k1 k2 => V_iflt (tgt := 18) (pc2 := 4) (dk D_X6_inRing 1 rfl) (by decide) rfl (fun q => k1 q) (fun q => k2 q)) (fun q1 => ?_) (fun q1 => ?_)
  · have h := h.1 q1
    exact h
  · have h := h.2 q1
    refine K_p (pc2 := 5) (lv2 := [(0, vR 79), (1, vI _)]) (st2 := [vI _]) (fun ad S Q _ k => V_iload_n (pc2 := 5) (dk D_X6_inRing 2 rfl) rfl (V_lg 1 rfl) rfl k) ?_
    refine K_p (pc2 := 6) (lv2 := [(0, vR 79), (1, vI _)]) (st2 := [vR 79, vI _]) (fun ad S Q _ k => V_aload_n (pc2 := 6) (dk D_X6_inRing 3 rfl) rfl (V_lg 0 rfl) rfl k) ?_
    refine K_getI kc6 (pc2 := 9) 9 (dk D_X6_inRing 4 rfl) fl_6_61 (by decide) (fun _ _ => rfl) rfl (fixH 79 6 (by decide) rfl) ?_
    refine K_if (pa := 18) (pb := 12) (lv2 := [(0, vR 79), (1, vI _)]) (st2 := []) (fun ad S Q _ k1 k2 => V_cmpge (tgt := 18) (pc2 := 12) (dk D_X6_inRing 5 rfl) (by decide) rfl (fun q => k1 q) (fun q => k2 q)) (fun q2 => ?_) (fun q2 => ?_)
    · have h := h.1 q2
      exact h
    · have h := h.2 q2
      refine K_p (pc2 := 13) (lv2 := [(0, vR 79), (1, vI _)]) (st2 := [vI _]) (fun ad S Q _ k => V_iload_n (pc2 := 13) (dk D_X6_inRing 6 rfl) rfl (V_lg 1 rfl) rfl k) ?_
      refine K_p (pc2 := 15) (lv2 := [(0, vR 79), (1, vI _)]) (st2 := [vI _, vI _]) (fun ad S Q _ k => V_bipush (x := 12) (pc2 := 15) (dk D_X6_inRing 7 rfl) (by decide) rfl k) ?_
      refine K_if (pa := 23) (pb := 18) (lv2 := [(0, vR 79), (1, vI _)]) (st2 := []) (fun ad S Q _ k1 k2 => V_cmplt (tgt := 23) (pc2 := 18) (dk D_X6_inRing 8 rfl) (by decide) rfl (fun q => k1 q) (fun q => k2 q)) (fun q3 => ?_) (fun q3 => ?_)
      · have h := h.1 q3
        refine K_p (pc2 := 24) (lv2 := [(0, vR 79), (1, vI _)]) (st2 := [vR 79]) (fun ad S Q _ k => V_aload_n (pc2 := 24) (dk D_X6_inRing 11 rfl) rfl (V_lg 0 rfl) rfl k) ?_
        refine K_getF kc6 (h' := 91) (pc2 := 27) 7 (by decide) (dk D_X6_inRing 12 rfl) fl_6_40 (by decide) (fun _ _ => rfl) rfl (fixH 79 6 (by decide) rfl) (by decide) ?_
        refine K_p (pc2 := 28) (lv2 := [(0, vR 79), (1, vI _)]) (st2 := [vI _, vR 91]) (fun ad S Q _ k => V_iload_n (pc2 := 28) (dk D_X6_inRing 13 rfl) rfl (V_lg 1 rfl) rfl k) ?_
        obtain ⟨h4, h⟩ := h
        refine K_iald (pc2 := 29) (dk D_X6_inRing 14 rfl) rfl (fixH 91 21 (by decide) rfl) h4 ?_
        exact h
      · have h := h.2 q3
        exact h
theorem k_6_inRing_18 {X : Cx} {d : Nat} {κ : Km} {Q : Res → Km → Prop} (x1 : Int32) (h : K X d MX6_inRing 29 [(0, vR 79), (1, vI x1)] [vI (-9)] κ Q) : K X d MX6_inRing 18 [(0, vR 79), (1, vI x1)] [] κ Q := by
  refine K_p (pc2 := 20) (lv2 := [(0, vR 79), (1, vI _)]) (st2 := [vI _]) (fun ad S Q _ k => V_bipush (x := (-9)) (pc2 := 20) (dk D_X6_inRing 9 rfl) (by decide) rfl k) ?_
  refine K_p (pc2 := 29) (lv2 := [(0, vR 79), (1, vI _)]) (st2 := [vI _]) (fun ad S Q _ k => V_goto (tgt := 29) (dk D_X6_inRing 10 rfl) (by decide) k) ?_
  exact h
theorem k_6_inRing_29 {X : Cx} {d : Nat} {κ : Km} {Q : Res → Km → Prop} (x1 : Int32) (t0 : Int32) (h : Q (.inl (some (vI t0))) κ) : K X d MX6_inRing 29 [(0, vR 79), (1, vI x1)] [vI t0] κ Q := by
  exact K_ret (r := .inl (some (vI _))) (fun ad S Q _ k => V_ireturn (dk D_X6_inRing 15 rfl) rfl k) h
theorem k_6_find_0 {X : Cx} {d : Nat} {κ : Km} {Q : Res → Km → Prop} (x1 : Int32) (h : ((x1 < 1 → K X d MX6_find 19 [(0, vR 79), (1, vI x1)] [] κ Q) ∧ (¬ x1 < 1 → (((kI κ 79 10) < x1 → K X d MX6_find 19 [(0, vR 79), (1, vI x1)] [] κ Q) ∧ (¬ (kI κ 79 10) < x1 → ((x1 ≤ 60 → (vp_in x1 61) ∧ K X d MX6_find 29 [(0, vR 79), (1, vI x1)] [vR (if 1 ≤ (x1 : Int32).toNatClampNeg ∧ (x1 : Int32).toNatClampNeg ≤ kV κ then 1002 + 8 * (x1 : Int32).toNatClampNeg else 0)] κ Q) ∧ (¬ x1 ≤ 60 → K X d MX6_find 19 [(0, vR 79), (1, vI x1)] [] κ Q))))))) : K X d MX6_find 0 [(0, vR 79), (1, vI x1)] [] κ Q := by
  refine K_p (pc2 := 1) (lv2 := [(0, vR 79), (1, vI _)]) (st2 := [vI _]) (fun ad S Q _ k => V_iload_n (pc2 := 1) (dk D_X6_find 0 rfl) rfl (V_lg 1 rfl) rfl k) ?_
  refine K_p (pc2 := 2) (lv2 := [(0, vR 79), (1, vI _)]) (st2 := [vI _, vI _]) (fun ad S Q _ k => V_iconst (x := 1) (pc2 := 2) (dk D_X6_find 1 rfl) (by decide) rfl k) ?_
  refine K_if (pa := 19) (pb := 5) (lv2 := [(0, vR 79), (1, vI _)]) (st2 := []) (fun ad S Q _ k1 k2 => V_cmplt (tgt := 19) (pc2 := 5) (dk D_X6_find 2 rfl) (by decide) rfl (fun q => k1 q) (fun q => k2 q)) (fun q1 => ?_) (fun q1 => ?_)
  · have h := h.1 q1
    exact h
  · have h := h.2 q1
    refine K_p (pc2 := 6) (lv2 := [(0, vR 79), (1, vI _)]) (st2 := [vI _]) (fun ad S Q _ k => V_iload_n (pc2 := 6) (dk D_X6_find 3 rfl) rfl (V_lg 1 rfl) rfl k) ?_
    refine K_p (pc2 := 7) (lv2 := [(0, vR 79), (1, vI _)]) (st2 := [vR 79, vI _]) (fun ad S Q _ k => V_aload_n (pc2 := 7) (dk D_X6_find 4 rfl) rfl (V_lg 0 rfl) rfl k) ?_
    refine K_getI kc6 (pc2 := 10) 10 (dk D_X6_find 5 rfl) fl_6_65 (by decide) (fun _ _ => rfl) rfl (fixH 79 6 (by decide) rfl) ?_
    refine K_if (pa := 19) (pb := 13) (lv2 := [(0, vR 79), (1, vI _)]) (st2 := []) (fun ad S Q _ k1 k2 => V_cmpgt (tgt := 19) (pc2 := 13) (dk D_X6_find 6 rfl) (by decide) rfl (fun q => k1 q) (fun q => k2 q)) (fun q2 => ?_) (fun q2 => ?_)
    · have h := h.1 q2
      exact h
    · have h := h.2 q2
      refine K_p (pc2 := 14) (lv2 := [(0, vR 79), (1, vI _)]) (st2 := [vI _]) (fun ad S Q _ k => V_iload_n (pc2 := 14) (dk D_X6_find 7 rfl) rfl (V_lg 1 rfl) rfl k) ?_
      refine K_p (pc2 := 16) (lv2 := [(0, vR 79), (1, vI _)]) (st2 := [vI _, vI _]) (fun ad S Q _ k => V_bipush (x := 60) (pc2 := 16) (dk D_X6_find 8 rfl) (by decide) rfl k) ?_
      refine K_if (pa := 23) (pb := 19) (lv2 := [(0, vR 79), (1, vI _)]) (st2 := []) (fun ad S Q _ k1 k2 => V_cmple (tgt := 23) (pc2 := 19) (dk D_X6_find 9 rfl) (by decide) rfl (fun q => k1 q) (fun q => k2 q)) (fun q3 => ?_) (fun q3 => ?_)
      · have h := h.1 q3
        refine K_p (pc2 := 24) (lv2 := [(0, vR 79), (1, vI _)]) (st2 := [vR 79]) (fun ad S Q _ k => V_aload_n (pc2 := 24) (dk D_X6_find 12 rfl) rfl (V_lg 0 rfl) rfl k) ?_
        refine K_getF kc6 (h' := 89) (pc2 := 27) 5 (by decide) (dk D_X6_find 13 rfl) fl_6_30 (by decide) (fun _ _ => rfl) rfl (fixH 79 6 (by decide) rfl) (by decide) ?_
        refine K_p (pc2 := 28) (lv2 := [(0, vR 79), (1, vI _)]) (st2 := [vI _, vR 89]) (fun ad S Q _ k => V_iload_n (pc2 := 28) (dk D_X6_find 14 rfl) rfl (V_lg 1 rfl) rfl k) ?_
        obtain ⟨h4, h⟩ := h
        refine K_aV (pc2 := 29) (dk D_X6_find 15 rfl) rfl h4 ?_
        exact h
      · have h := h.2 q3
        exact h
theorem k_6_find_19 {X : Cx} {d : Nat} {κ : Km} {Q : Res → Km → Prop} (x1 : Int32) (h : K X d MX6_find 29 [(0, vR 79), (1, vI x1)] [vR 0] κ Q) : K X d MX6_find 19 [(0, vR 79), (1, vI x1)] [] κ Q := by
  refine K_p (pc2 := 20) (lv2 := [(0, vR 79), (1, vI _)]) (st2 := [vR 0]) (fun ad S Q _ k => V_null (pc2 := 20) (dk D_X6_find 10 rfl) rfl k) ?_
  refine K_p (pc2 := 29) (lv2 := [(0, vR 79), (1, vI _)]) (st2 := [vR 0]) (fun ad S Q _ k => V_goto (tgt := 29) (dk D_X6_find 11 rfl) (by decide) k) ?_
  exact h
theorem k_6_find_29 {X : Cx} {d : Nat} {κ : Km} {Q : Res → Km → Prop} (x1 : Int32) (t0 : Nat) (h : Q (.inl (some (vR t0))) κ) : K X d MX6_find 29 [(0, vR 79), (1, vI x1)] [vR t0] κ Q := by
  exact K_ret (r := .inl (some (vR _))) (fun ad S Q _ k => V_areturn (dk D_X6_find 16 rfl) rfl (Or.inl ⟨_, rfl⟩) k) h
theorem k_6_failAll_0 {X : Cx} {d : Nat} {κ : Km} {Q : Res → Km → Prop}  (h : K X d MX6_failAll 2 [(0, vR 79), (1, vI 1)] [] κ Q) : K X d MX6_failAll 0 [(0, vR 79)] [] κ Q := by
  refine K_p (pc2 := 1) (lv2 := [(0, vR 79)]) (st2 := [vI _]) (fun ad S Q _ k => V_iconst (x := 1) (pc2 := 1) (dk D_X6_failAll 0 rfl) (by decide) rfl k) ?_
  refine K_p (pc2 := 2) (lv2 := [(0, vR 79), (1, vI _)]) (st2 := []) (fun ad S Q _ k => V_istore_n (pc2 := 2) (lv2 := [(0, _), (1, _)]) (dk D_X6_failAll 1 rfl) rfl (by decide) rfl rfl k) ?_
  exact h
theorem k_6_failAll_2 {X : Cx} {d : Nat} {κ : Km} {Q : Res → Km → Prop} (x1 : Int32) (h : (((kI κ 79 10) < x1 → Q (.inl none) κ) ∧ (¬ (kI κ 79 10) < x1 → ∃ e2 : Nat, e2 + 1 ≤ d ∧ KC' X e2 MX6_find [vR 79, vI x1] κ (kRR fun p5 κ6 => (p5 = 0 ∨ live κ6 p5) ∧ ((p5 = 0 → K X d MX6_failAll 33 [(0, vR 79), (1, vI x1), (2, vR p5)] [] κ6 Q) ∧ (¬ p5 = 0 → (isH κ6 p5 10) ∧ ∃ e10 : Nat, e10 + 1 ≤ d ∧ KC' X e10 MX10_isOver [vR p5] κ6 (kRI fun y13 κ15 => ((y13 = 0 → ∃ e18 : Nat, e18 + 1 ≤ d ∧ KC' X e18 MX6_end [vR 79, vR p5, vI 5] κ15 (kRV fun  κ21 => K X d MX6_failAll 33 [(0, vR 79), (1, vI x1), (2, vR p5)] [] κ21 Q)) ∧ (¬ y13 = 0 → K X d MX6_failAll 33 [(0, vR 79), (1, vI x1), (2, vR p5)] [] κ15 Q))))))))) : K X d MX6_failAll 2 [(0, vR 79), (1, vI x1)] [] κ Q := by
  refine K_p (pc2 := 3) (lv2 := [(0, vR 79), (1, vI _)]) (st2 := [vI _]) (fun ad S Q _ k => V_iload_n (pc2 := 3) (dk D_X6_failAll 2 rfl) rfl (V_lg 1 rfl) rfl k) ?_
  refine K_p (pc2 := 4) (lv2 := [(0, vR 79), (1, vI _)]) (st2 := [vR 79, vI _]) (fun ad S Q _ k => V_aload_n (pc2 := 4) (dk D_X6_failAll 3 rfl) rfl (V_lg 0 rfl) rfl k) ?_
  refine K_getI kc6 (pc2 := 7) 10 (dk D_X6_failAll 4 rfl) fl_6_65 (by decide) (fun _ _ => rfl) rfl (fixH 79 6 (by decide) rfl) ?_
  refine K_if (pa := 39) (pb := 10) (lv2 := [(0, vR 79), (1, vI _)]) (st2 := []) (fun ad S Q _ k1 k2 => V_cmpgt (tgt := 39) (pc2 := 10) (dk D_X6_failAll 5 rfl) (by decide) rfl (fun q => k1 q) (fun q => k2 q)) (fun q1 => ?_) (fun q1 => ?_)
  · have h := h.1 q1
    exact K_ret (r := .inl none) (fun ad S Q _ k => V_return (dk D_X6_failAll 21 rfl) rfl k) h
  · have h := h.2 q1
    refine K_p (pc2 := 11) (lv2 := [(0, vR 79), (1, vI _)]) (st2 := [vR 79]) (fun ad S Q _ k => V_aload_n (pc2 := 11) (dk D_X6_failAll 6 rfl) rfl (V_lg 0 rfl) rfl k) ?_
    refine K_p (pc2 := 12) (lv2 := [(0, vR 79), (1, vI _)]) (st2 := [vI _, vR 79]) (fun ad S Q _ k => V_iload_n (pc2 := 12) (dk D_X6_failAll 7 rfl) rfl (V_lg 1 rfl) rfl k) ?_
    obtain ⟨e2, he3, hc4⟩ := h
    refine K_call (as := [vR 79, vI _]) (st := []) (pc2 := 15) (okL.all _ ⟨(Or.inr ⟨Or.inl ⟨by decide, by decide⟩, by decide⟩), trivial, trivial⟩) (okS.all _ trivial) (fun ad S Q Qc hC hc k => V_callV (as := [_]) (st := []) (M' := MX6_find) (ci := 6) (pc2 := 15) (dk D_X6_failAll 8 rfl) ml_6_106 mv_X6_find rfl rfl (by decide) rfl (Nat.le_of_ble_eq_true rfl) rfl he3 (hC.k' (fixH 79 6 (by decide) rfl)) hc k) hc4 (kRR.k fun p5 κ6 h mo7 => ?_)
    refine K_p (pc2 := 16) (lv2 := [(0, vR 79), (1, vI _), (2, vR _)]) (st2 := []) (fun ad S Q _ k => V_astore_n (pc2 := 16) (lv2 := [(0, _), (1, _), (2, _)]) (dk D_X6_failAll 9 rfl) rfl (by decide) rfl rfl k) ?_
    refine K_p (pc2 := 17) (lv2 := [(0, vR 79), (1, vI _), (2, vR _)]) (st2 := [vR _]) (fun ad S Q _ k => V_aload_n (pc2 := 17) (dk D_X6_failAll 10 rfl) rfl (V_lg 2 rfl) rfl k) ?_
    obtain ⟨h9, h⟩ := h
    refine K_ifnull (tgt := 33) (pc2 := 20) (dk D_X6_failAll 11 rfl) (by decide) rfl h9 (fun q8 => ?_) (fun q8 => ?_)
    · have h := h.1 q8
      exact h
    · have h := h.2 q8
      refine K_p (pc2 := 21) (lv2 := [(0, vR 79), (1, vI _), (2, vR _)]) (st2 := [vR _]) (fun ad S Q _ k => V_aload_n (pc2 := 21) (dk D_X6_failAll 12 rfl) rfl (V_lg 2 rfl) rfl k) ?_
      obtain ⟨h14, h⟩ := h
      obtain ⟨e10, he11, hc12⟩ := h
      refine K_call (as := [vR _]) (st := []) (pc2 := 24) (okL.all _ ⟨(Or.inr ⟨Or.inl ⟨by decide, by decide⟩, by decide⟩), trivial, (isH.ok h14 (by decide)), trivial⟩) (okS.all _ trivial) (fun ad S Q Qc hC hc k => V_callV (as := []) (st := []) (M' := MX10_isOver) (ci := 10) (pc2 := 24) (dk D_X6_failAll 13 rfl) ml_6_110 mv_X10_isOver rfl rfl (by decide) rfl (Nat.le_of_ble_eq_true rfl) rfl he11 (hC.k' h14) hc k) hc12 (kRI.k fun y13 κ15 h mo16 => ?_)
      refine K_if (pa := 27) (pb := 33) (lv2 := [(0, vR 79), (1, vI _), (2, vR _)]) (st2 := []) (fun ad S Q _ k1 k2 => V_ifne (tgt := 33) (pc2 := 27) (dk D_X6_failAll 14 rfl) (by decide) rfl (fun q => k2 q) (fun q => k1 q)) (fun q17 => ?_) (fun q17 => ?_)
      · have h := h.1 q17
        refine K_p (pc2 := 28) (lv2 := [(0, vR 79), (1, vI _), (2, vR _)]) (st2 := [vR 79]) (fun ad S Q _ k => V_aload_n (pc2 := 28) (dk D_X6_failAll 15 rfl) rfl (V_lg 0 rfl) rfl k) ?_
        refine K_p (pc2 := 29) (lv2 := [(0, vR 79), (1, vI _), (2, vR _)]) (st2 := [vR _, vR 79]) (fun ad S Q _ k => V_aload_n (pc2 := 29) (dk D_X6_failAll 16 rfl) rfl (V_lg 2 rfl) rfl k) ?_
        refine K_p (pc2 := 30) (lv2 := [(0, vR 79), (1, vI _), (2, vR _)]) (st2 := [vI _, vR _, vR 79]) (fun ad S Q _ k => V_iconst (x := 5) (pc2 := 30) (dk D_X6_failAll 17 rfl) (by decide) rfl k) ?_
        obtain ⟨e18, he19, hc20⟩ := h
        refine K_call (as := [vR 79, vR _, vI _]) (st := []) (pc2 := 33) (okL.all _ ⟨(Or.inr ⟨Or.inl ⟨by decide, by decide⟩, by decide⟩), trivial, (isH.ok (isH.mo h14 (by decide) mo16) (by decide)), trivial⟩) (okS.all _ trivial) (fun ad S Q Qc hC hc k => V_callV (as := [_, _]) (st := []) (M' := MX6_end) (ci := 6) (pc2 := 33) (dk D_X6_failAll 18 rfl) ml_6_113 mv_X6_end rfl rfl (by decide) rfl (Nat.le_of_ble_eq_true rfl) rfl he19 (hC.k' (fixH 79 6 (by decide) rfl)) hc k) hc20 (kRV.k fun  κ21 h mo22 => ?_)
        exact h
      · have h := h.2 q17
        exact h
theorem k_6_failAll_33 {X : Cx} {d : Nat} {κ : Km} {Q : Res → Km → Prop} (x1 : Int32) (r2 : Nat) (h : K X d MX6_failAll 2 [(0, vR 79), (1, vI (x1 + 1))] [] κ Q) : K X d MX6_failAll 33 [(0, vR 79), (1, vI x1), (2, vR r2)] [] κ Q := by
  refine K_p (pc2 := 36) (lv2 := [(0, vR 79), (1, vI _), (2, vR _)]) (st2 := []) (fun ad S Q _ k => V_iinc (y := _ + 1) (pc2 := 36) (lv2 := [(0, _), (1, _), (2, _)]) (dk D_X6_failAll 19 rfl) (V_lg 1 rfl) rfl (by decide) rfl rfl k) ?_
  refine K_p (pc2 := 2) (lv2 := [(0, vR 79), (1, vI _), (2, vR _)]) (st2 := []) (fun ad S Q _ k => V_goto (tgt := 2) (dk D_X6_failAll 20 rfl) (by decide) k) ?_
  refine K_p (pc2 := 2) (lv2 := [(0, vR 79), (1, vI _)]) (st2 := []) (fun ad S Q _ k => V_pick [0, 1] (lv2 := [(0, _), (1, _)]) rfl k) ?_
  exact h
theorem k_6_deskResumes_0 {X : Cx} {d : Nat} {κ : Km} {Q : Res → Km → Prop} (r1 : Nat) (x2 : Int32) (h : (isH κ r1 10) ∧ ∀ κ2 : Km, κ2 = cI κ r1 5 0 → ∃ e3 : Nat, e3 + 1 ≤ d ∧ KC' X e3 MX6_give [vR 79, vI 0, vR r1, vI x2] κ2 (kRV fun  κ6 => Q (.inl none) κ6)) : K X d MX6_deskResumes 0 [(0, vR 79), (1, vR r1), (2, vI x2)] [] κ Q := by
  refine K_p (pc2 := 1) (lv2 := [(0, vR 79), (1, vR _), (2, vI _)]) (st2 := [vR _]) (fun ad S Q _ k => V_aload_n (pc2 := 1) (dk D_X6_deskResumes 0 rfl) rfl (V_lg 1 rfl) rfl k) ?_
  refine K_p (pc2 := 2) (lv2 := [(0, vR 79), (1, vR _), (2, vI _)]) (st2 := [vI _, vR _]) (fun ad S Q _ k => V_iconst (x := 0) (pc2 := 2) (dk D_X6_deskResumes 1 rfl) (by decide) rfl k) ?_
  obtain ⟨h1, h⟩ := h
  refine K_putI kc10 (pc2 := 5) 5 (dk D_X6_deskResumes 2 rfl) fl_6_116 (by decide) (Or.inl rfl) rfl rfl h1 (isH.n69 h1 (by decide)) ?_
  have h := h _ rfl
  refine K_p (pc2 := 6) (lv2 := [(0, vR 79), (1, vR _), (2, vI _)]) (st2 := [vR 79]) (fun ad S Q _ k => V_aload_n (pc2 := 6) (dk D_X6_deskResumes 3 rfl) rfl (V_lg 0 rfl) rfl k) ?_
  refine K_p (pc2 := 7) (lv2 := [(0, vR 79), (1, vR _), (2, vI _)]) (st2 := [vI _, vR 79]) (fun ad S Q _ k => V_iconst (x := 0) (pc2 := 7) (dk D_X6_deskResumes 4 rfl) (by decide) rfl k) ?_
  refine K_p (pc2 := 8) (lv2 := [(0, vR 79), (1, vR _), (2, vI _)]) (st2 := [vR _, vI _, vR 79]) (fun ad S Q _ k => V_aload_n (pc2 := 8) (dk D_X6_deskResumes 5 rfl) rfl (V_lg 1 rfl) rfl k) ?_
  refine K_p (pc2 := 9) (lv2 := [(0, vR 79), (1, vR _), (2, vI _)]) (st2 := [vI _, vR _, vI _, vR 79]) (fun ad S Q _ k => V_iload_n (pc2 := 9) (dk D_X6_deskResumes 6 rfl) rfl (V_lg 2 rfl) rfl k) ?_
  obtain ⟨e3, he4, hc5⟩ := h
  refine K_call (as := [vR 79, vI _, vR _, vI _]) (st := []) (pc2 := 12) (okL.all _ ⟨(Or.inr ⟨Or.inl ⟨by decide, by decide⟩, by decide⟩), (isH.ok h1 (by decide)), trivial, trivial⟩) (okS.all _ trivial) (fun ad S Q Qc hC hc k => V_callV (as := [_, _, _]) (st := []) (M' := MX6_give) (ci := 6) (pc2 := 12) (dk D_X6_deskResumes 7 rfl) ml_6_119 mv_X6_give rfl rfl (by decide) rfl (Nat.le_of_ble_eq_true rfl) rfl he4 (hC.k' (fixH 79 6 (by decide) rfl)) hc k) hc5 (kRV.k fun  κ6 h mo7 => ?_)
  exact K_ret (r := .inl none) (fun ad S Q _ k => V_return (dk D_X6_deskResumes 8 rfl) rfl k) h
theorem k_6_deskInjects_0 {X : Cx} {d : Nat} {κ : Km} {Q : Res → Km → Prop} (r1 : Nat) (x2 : Int32) (x3 : Int32) (h : (isH κ r1 10) ∧ ∃ e1 : Nat, e1 + 1 ≤ d ∧ KC' X e1 MX2_make [vR 84, vI x2, vI x3, vI 0, vI (-9), vI 0] κ (kRI fun y4 κ6 => ∃ e8 : Nat, e8 + 1 ≤ d ∧ KC' X e8 MX6_throwInto [vR 79, vR r1, vI 0, vI y4] κ6 (kRV fun  κ11 => Q (.inl none) κ11))) : K X d MX6_deskInjects 0 [(0, vR 79), (1, vR r1), (2, vI x2), (3, vI x3)] [] κ Q := by
  refine K_p (pc2 := 1) (lv2 := [(0, vR 79), (1, vR _), (2, vI _), (3, vI _)]) (st2 := [vR 79]) (fun ad S Q _ k => V_aload_n (pc2 := 1) (dk D_X6_deskInjects 0 rfl) rfl (V_lg 0 rfl) rfl k) ?_
  refine K_p (pc2 := 2) (lv2 := [(0, vR 79), (1, vR _), (2, vI _), (3, vI _)]) (st2 := [vR _, vR 79]) (fun ad S Q _ k => V_aload_n (pc2 := 2) (dk D_X6_deskInjects 1 rfl) rfl (V_lg 1 rfl) rfl k) ?_
  refine K_p (pc2 := 3) (lv2 := [(0, vR 79), (1, vR _), (2, vI _), (3, vI _)]) (st2 := [vI _, vR _, vR 79]) (fun ad S Q _ k => V_iconst (x := 0) (pc2 := 3) (dk D_X6_deskInjects 2 rfl) (by decide) rfl k) ?_
  refine K_p (pc2 := 4) (lv2 := [(0, vR 79), (1, vR _), (2, vI _), (3, vI _)]) (st2 := [vR 79, vI _, vR _, vR 79]) (fun ad S Q _ k => V_aload_n (pc2 := 4) (dk D_X6_deskInjects 3 rfl) rfl (V_lg 0 rfl) rfl k) ?_
  refine K_getF kc6 (h' := 84) (pc2 := 7) 2 (by decide) (dk D_X6_deskInjects 4 rfl) fl_6_24 (by decide) (fun _ _ => rfl) rfl (fixH 79 6 (by decide) rfl) (by decide) ?_
  refine K_p (pc2 := 8) (lv2 := [(0, vR 79), (1, vR _), (2, vI _), (3, vI _)]) (st2 := [vI _, vR 84, vI _, vR _, vR 79]) (fun ad S Q _ k => V_iload_n (pc2 := 8) (dk D_X6_deskInjects 5 rfl) rfl (V_lg 2 rfl) rfl k) ?_
  refine K_p (pc2 := 9) (lv2 := [(0, vR 79), (1, vR _), (2, vI _), (3, vI _)]) (st2 := [vI _, vI _, vR 84, vI _, vR _, vR 79]) (fun ad S Q _ k => V_iload_n (pc2 := 9) (dk D_X6_deskInjects 6 rfl) rfl (V_lg 3 rfl) rfl k) ?_
  refine K_p (pc2 := 10) (lv2 := [(0, vR 79), (1, vR _), (2, vI _), (3, vI _)]) (st2 := [vI _, vI _, vI _, vR 84, vI _, vR _, vR 79]) (fun ad S Q _ k => V_iconst (x := 0) (pc2 := 10) (dk D_X6_deskInjects 7 rfl) (by decide) rfl k) ?_
  refine K_p (pc2 := 12) (lv2 := [(0, vR 79), (1, vR _), (2, vI _), (3, vI _)]) (st2 := [vI _, vI _, vI _, vI _, vR 84, vI _, vR _, vR 79]) (fun ad S Q _ k => V_bipush (x := (-9)) (pc2 := 12) (dk D_X6_deskInjects 8 rfl) (by decide) rfl k) ?_
  refine K_p (pc2 := 13) (lv2 := [(0, vR 79), (1, vR _), (2, vI _), (3, vI _)]) (st2 := [vI _, vI _, vI _, vI _, vI _, vR 84, vI _, vR _, vR 79]) (fun ad S Q _ k => V_iconst (x := 0) (pc2 := 13) (dk D_X6_deskInjects 9 rfl) (by decide) rfl k) ?_
  obtain ⟨h5, h⟩ := h
  obtain ⟨e1, he2, hc3⟩ := h
  refine K_call (as := [vR 84, vI _, vI _, vI _, vI _, vI _]) (st := [vI _, vR _, vR 79]) (pc2 := 16) (okL.all _ ⟨(Or.inr ⟨Or.inl ⟨by decide, by decide⟩, by decide⟩), (isH.ok h5 (by decide)), trivial, trivial, trivial⟩) (okS.all _ ⟨trivial, (isH.ok h5 (by decide)), (Or.inr ⟨Or.inl ⟨by decide, by decide⟩, by decide⟩), trivial⟩) (fun ad S Q Qc hC hc k => V_callV (as := [_, _, _, _, _]) (st := [_, _, _]) (M' := MX2_make) (ci := 2) (pc2 := 16) (dk D_X6_deskInjects 10 rfl) ml_6_123 mv_X2_make rfl rfl (by decide) rfl (Nat.le_of_ble_eq_true rfl) rfl he2 (hC.k' (fixH 84 2 (by decide) rfl)) hc k) hc3 (kRI.k fun y4 κ6 h mo7 => ?_)
  obtain ⟨e8, he9, hc10⟩ := h
  refine K_call (as := [vR 79, vR _, vI _, vI _]) (st := []) (pc2 := 19) (okL.all _ ⟨(Or.inr ⟨Or.inl ⟨by decide, by decide⟩, by decide⟩), (isH.ok (isH.mo h5 (by decide) mo7) (by decide)), trivial, trivial, trivial⟩) (okS.all _ trivial) (fun ad S Q Qc hC hc k => V_callV (as := [_, _, _]) (st := []) (M' := MX6_throwInto) (ci := 6) (pc2 := 19) (dk D_X6_deskInjects 11 rfl) ml_6_127 mv_X6_throwInto rfl rfl (by decide) rfl (Nat.le_of_ble_eq_true rfl) rfl he9 (hC.k' (fixH 79 6 (by decide) rfl)) hc k) hc10 (kRV.k fun  κ11 h mo12 => ?_)
  exact K_ret (r := .inl none) (fun ad S Q _ k => V_return (dk D_X6_deskInjects 12 rfl) rfl k) h
theorem k_6_deskCloses_0 {X : Cx} {d : Nat} {κ : Km} {Q : Res → Km → Prop} (r1 : Nat) (h : ∀ κ1 : Km, κ1 = cI κ 79 15 1 → (isH κ1 r1 10) ∧ (((kI κ1 r1 1) = 0 → ∃ e4 : Nat, e4 + 1 ≤ d ∧ KC' X e4 MX6_end [vR 79, vR r1, vI 6] κ1 (kRV fun  κ7 => K X d MX6_deskCloses 47 [(0, vR 79), (1, vR r1)] [] κ7 Q)) ∧ (¬ (kI κ1 r1 1) = 0 → ∀ κ9 : Km, κ9 = cI κ1 r1 11 1 → ∃ e10 : Nat, e10 + 1 ≤ d ∧ KC' X e10 MX2_make [vR 84, vI 14, vI 0, vI 0, vI (-9), vI 0] κ9 (kRI fun y13 κ14 => ∃ e16 : Nat, e16 + 1 ≤ d ∧ KC' X e16 MX6_throwInto [vR 79, vR r1, vI 0, vI y13] κ14 (kRV fun  κ19 => K X d MX6_deskCloses 47 [(0, vR 79), (1, vR r1)] [] κ19 Q))))) : K X d MX6_deskCloses 0 [(0, vR 79), (1, vR r1)] [] κ Q := by
  refine K_p (pc2 := 1) (lv2 := [(0, vR 79), (1, vR _)]) (st2 := [vR 79]) (fun ad S Q _ k => V_aload_n (pc2 := 1) (dk D_X6_deskCloses 0 rfl) rfl (V_lg 0 rfl) rfl k) ?_
  refine K_p (pc2 := 2) (lv2 := [(0, vR 79), (1, vR _)]) (st2 := [vI _, vR 79]) (fun ad S Q _ k => V_iconst (x := 1) (pc2 := 2) (dk D_X6_deskCloses 1 rfl) (by decide) rfl k) ?_
  refine K_putI kc6 (pc2 := 5) 15 (dk D_X6_deskCloses 2 rfl) fl_6_80 (by decide) (Or.inl rfl) rfl rfl (fixH 79 6 (by decide) rfl) (by decide) ?_
  have h := h _ rfl
  refine K_p (pc2 := 6) (lv2 := [(0, vR 79), (1, vR _)]) (st2 := [vR _]) (fun ad S Q _ k => V_aload_n (pc2 := 6) (dk D_X6_deskCloses 3 rfl) rfl (V_lg 1 rfl) rfl k) ?_
  obtain ⟨h2, h⟩ := h
  refine K_getI kc10 (pc2 := 9) 1 (dk D_X6_deskCloses 4 rfl) fl_6_131 (by decide) (fun _ _ => rfl) rfl h2 ?_
  refine K_if (pa := 12) (pb := 22) (lv2 := [(0, vR 79), (1, vR _)]) (st2 := []) (fun ad S Q _ k1 k2 => V_ifne (tgt := 22) (pc2 := 12) (dk D_X6_deskCloses 5 rfl) (by decide) rfl (fun q => k2 q) (fun q => k1 q)) (fun q3 => ?_) (fun q3 => ?_)
  · have h := h.1 q3
    refine K_p (pc2 := 13) (lv2 := [(0, vR 79), (1, vR _)]) (st2 := [vR 79]) (fun ad S Q _ k => V_aload_n (pc2 := 13) (dk D_X6_deskCloses 6 rfl) rfl (V_lg 0 rfl) rfl k) ?_
    refine K_p (pc2 := 14) (lv2 := [(0, vR 79), (1, vR _)]) (st2 := [vR _, vR 79]) (fun ad S Q _ k => V_aload_n (pc2 := 14) (dk D_X6_deskCloses 7 rfl) rfl (V_lg 1 rfl) rfl k) ?_
    refine K_p (pc2 := 16) (lv2 := [(0, vR 79), (1, vR _)]) (st2 := [vI _, vR _, vR 79]) (fun ad S Q _ k => V_bipush (x := 6) (pc2 := 16) (dk D_X6_deskCloses 8 rfl) (by decide) rfl k) ?_
    obtain ⟨e4, he5, hc6⟩ := h
    refine K_call (as := [vR 79, vR _, vI _]) (st := []) (pc2 := 19) (okL.all _ ⟨(Or.inr ⟨Or.inl ⟨by decide, by decide⟩, by decide⟩), (isH.ok h2 (by decide)), trivial⟩) (okS.all _ trivial) (fun ad S Q Qc hC hc k => V_callV (as := [_, _]) (st := []) (M' := MX6_end) (ci := 6) (pc2 := 19) (dk D_X6_deskCloses 9 rfl) ml_6_113 mv_X6_end rfl rfl (by decide) rfl (Nat.le_of_ble_eq_true rfl) rfl he5 (hC.k' (fixH 79 6 (by decide) rfl)) hc k) hc6 (kRV.k fun  κ7 h mo8 => ?_)
    refine K_p (pc2 := 47) (lv2 := [(0, vR 79), (1, vR _)]) (st2 := []) (fun ad S Q _ k => V_goto (tgt := 47) (dk D_X6_deskCloses 10 rfl) (by decide) k) ?_
    exact h
  · have h := h.2 q3
    refine K_p (pc2 := 23) (lv2 := [(0, vR 79), (1, vR _)]) (st2 := [vR _]) (fun ad S Q _ k => V_aload_n (pc2 := 23) (dk D_X6_deskCloses 11 rfl) rfl (V_lg 1 rfl) rfl k) ?_
    refine K_p (pc2 := 24) (lv2 := [(0, vR 79), (1, vR _)]) (st2 := [vI _, vR _]) (fun ad S Q _ k => V_iconst (x := 1) (pc2 := 24) (dk D_X6_deskCloses 12 rfl) (by decide) rfl k) ?_
    refine K_putZ kc10 (pc2 := 27) 11 (dk D_X6_deskCloses 13 rfl) fl_6_134 (by decide) (Or.inl rfl) rfl rfl h2 (isH.n69 h2 (by decide)) (Or.inr rfl) ?_
    have h := h _ rfl
    refine K_p (pc2 := 28) (lv2 := [(0, vR 79), (1, vR _)]) (st2 := [vR 79]) (fun ad S Q _ k => V_aload_n (pc2 := 28) (dk D_X6_deskCloses 14 rfl) rfl (V_lg 0 rfl) rfl k) ?_
    refine K_p (pc2 := 29) (lv2 := [(0, vR 79), (1, vR _)]) (st2 := [vR _, vR 79]) (fun ad S Q _ k => V_aload_n (pc2 := 29) (dk D_X6_deskCloses 15 rfl) rfl (V_lg 1 rfl) rfl k) ?_
    refine K_p (pc2 := 30) (lv2 := [(0, vR 79), (1, vR _)]) (st2 := [vI _, vR _, vR 79]) (fun ad S Q _ k => V_iconst (x := 0) (pc2 := 30) (dk D_X6_deskCloses 16 rfl) (by decide) rfl k) ?_
    refine K_p (pc2 := 31) (lv2 := [(0, vR 79), (1, vR _)]) (st2 := [vR 79, vI _, vR _, vR 79]) (fun ad S Q _ k => V_aload_n (pc2 := 31) (dk D_X6_deskCloses 17 rfl) rfl (V_lg 0 rfl) rfl k) ?_
    refine K_getF kc6 (h' := 84) (pc2 := 34) 2 (by decide) (dk D_X6_deskCloses 18 rfl) fl_6_24 (by decide) (fun _ _ => rfl) rfl (fixH 79 6 (by decide) rfl) (by decide) ?_
    refine K_p (pc2 := 36) (lv2 := [(0, vR 79), (1, vR _)]) (st2 := [vI _, vR 84, vI _, vR _, vR 79]) (fun ad S Q _ k => V_bipush (x := 14) (pc2 := 36) (dk D_X6_deskCloses 19 rfl) (by decide) rfl k) ?_
    refine K_p (pc2 := 37) (lv2 := [(0, vR 79), (1, vR _)]) (st2 := [vI _, vI _, vR 84, vI _, vR _, vR 79]) (fun ad S Q _ k => V_iconst (x := 0) (pc2 := 37) (dk D_X6_deskCloses 20 rfl) (by decide) rfl k) ?_
    refine K_p (pc2 := 38) (lv2 := [(0, vR 79), (1, vR _)]) (st2 := [vI _, vI _, vI _, vR 84, vI _, vR _, vR 79]) (fun ad S Q _ k => V_iconst (x := 0) (pc2 := 38) (dk D_X6_deskCloses 21 rfl) (by decide) rfl k) ?_
    refine K_p (pc2 := 40) (lv2 := [(0, vR 79), (1, vR _)]) (st2 := [vI _, vI _, vI _, vI _, vR 84, vI _, vR _, vR 79]) (fun ad S Q _ k => V_bipush (x := (-9)) (pc2 := 40) (dk D_X6_deskCloses 22 rfl) (by decide) rfl k) ?_
    refine K_p (pc2 := 41) (lv2 := [(0, vR 79), (1, vR _)]) (st2 := [vI _, vI _, vI _, vI _, vI _, vR 84, vI _, vR _, vR 79]) (fun ad S Q _ k => V_iconst (x := 0) (pc2 := 41) (dk D_X6_deskCloses 23 rfl) (by decide) rfl k) ?_
    obtain ⟨e10, he11, hc12⟩ := h
    refine K_call (as := [vR 84, vI _, vI _, vI _, vI _, vI _]) (st := [vI _, vR _, vR 79]) (pc2 := 44) (okL.all _ ⟨(Or.inr ⟨Or.inl ⟨by decide, by decide⟩, by decide⟩), (isH.ok h2 (by decide)), trivial⟩) (okS.all _ ⟨trivial, (isH.ok h2 (by decide)), (Or.inr ⟨Or.inl ⟨by decide, by decide⟩, by decide⟩), trivial⟩) (fun ad S Q Qc hC hc k => V_callV (as := [_, _, _, _, _]) (st := [_, _, _]) (M' := MX2_make) (ci := 2) (pc2 := 44) (dk D_X6_deskCloses 24 rfl) ml_6_123 mv_X2_make rfl rfl (by decide) rfl (Nat.le_of_ble_eq_true rfl) rfl he11 (hC.k' (fixH 84 2 (by decide) rfl)) hc k) hc12 (kRI.k fun y13 κ14 h mo15 => ?_)
    obtain ⟨e16, he17, hc18⟩ := h
    refine K_call (as := [vR 79, vR _, vI _, vI _]) (st := []) (pc2 := 47) (okL.all _ ⟨(Or.inr ⟨Or.inl ⟨by decide, by decide⟩, by decide⟩), (isH.ok (isH.mo h2 (by decide) mo15) (by decide)), trivial⟩) (okS.all _ trivial) (fun ad S Q Qc hC hc k => V_callV (as := [_, _, _]) (st := []) (M' := MX6_throwInto) (ci := 6) (pc2 := 47) (dk D_X6_deskCloses 25 rfl) ml_6_127 mv_X6_throwInto rfl rfl (by decide) rfl (Nat.le_of_ble_eq_true rfl) rfl he17 (hC.k' (fixH 79 6 (by decide) rfl)) hc k) hc18 (kRV.k fun  κ19 h mo20 => ?_)
    exact h
theorem k_6_deskCloses_47 {X : Cx} {d : Nat} {κ : Km} {Q : Res → Km → Prop} (r1 : Nat) (h : Q (.inl none) κ) : K X d MX6_deskCloses 47 [(0, vR 79), (1, vR r1)] [] κ Q := by
  exact K_ret (r := .inl none) (fun ad S Q _ k => V_return (dk D_X6_deskCloses 26 rfl) rfl k) h
theorem k_6_findReached_0 {X : Cx} {d : Nat} {κ : Km} {Q : Res → Km → Prop}  (h : K X d MX6_findReached 2 [(0, vR 79), (1, vI 1)] [] κ Q) : K X d MX6_findReached 0 [(0, vR 79)] [] κ Q := by
  refine K_p (pc2 := 1) (lv2 := [(0, vR 79)]) (st2 := [vI _]) (fun ad S Q _ k => V_iconst (x := 1) (pc2 := 1) (dk D_X6_findReached 0 rfl) (by decide) rfl k) ?_
  refine K_p (pc2 := 2) (lv2 := [(0, vR 79), (1, vI _)]) (st2 := []) (fun ad S Q _ k => V_istore_n (pc2 := 2) (lv2 := [(0, _), (1, _)]) (dk D_X6_findReached 1 rfl) rfl (by decide) rfl rfl k) ?_
  exact h
theorem k_6_findReached_2 {X : Cx} {d : Nat} {κ : Km} {Q : Res → Km → Prop} (x1 : Int32) (h : (((kI κ 79 10) < x1 → K X d MX6_findReached 46 [(0, vR 79), (1, vI 1), (2, vI 0)] [] κ Q) ∧ (¬ (kI κ 79 10) < x1 → ∃ e2 : Nat, e2 + 1 ≤ d ∧ KC' X e2 MX6_find [vR 79, vI x1] κ (kRR fun p5 κ6 => (p5 = 0 ∨ live κ6 p5) ∧ ((p5 = 0 → K X d MX6_findReached 36 [(0, vR 79), (1, vI x1), (2, vR p5)] [] κ6 Q) ∧ (¬ p5 = 0 → (isH κ6 p5 10) ∧ (((kI κ6 p5 4) = 0 → K X d MX6_findReached 33 [(0, vR 79), (1, vI x1), (2, vR p5)] [vI 1, vR p5] κ6 Q) ∧ (¬ (kI κ6 p5 4) = 0 → K X d MX6_findReached 33 [(0, vR 79), (1, vI x1), (2, vR p5)] [vI 0, vR p5] κ6 Q)))))))) : K X d MX6_findReached 2 [(0, vR 79), (1, vI x1)] [] κ Q := by
  refine K_p (pc2 := 3) (lv2 := [(0, vR 79), (1, vI _)]) (st2 := [vI _]) (fun ad S Q _ k => V_iload_n (pc2 := 3) (dk D_X6_findReached 2 rfl) rfl (V_lg 1 rfl) rfl k) ?_
  refine K_p (pc2 := 4) (lv2 := [(0, vR 79), (1, vI _)]) (st2 := [vR 79, vI _]) (fun ad S Q _ k => V_aload_n (pc2 := 4) (dk D_X6_findReached 3 rfl) rfl (V_lg 0 rfl) rfl k) ?_
  refine K_getI kc6 (pc2 := 7) 10 (dk D_X6_findReached 4 rfl) fl_6_65 (by decide) (fun _ _ => rfl) rfl (fixH 79 6 (by decide) rfl) ?_
  refine K_if (pa := 42) (pb := 10) (lv2 := [(0, vR 79), (1, vI _)]) (st2 := []) (fun ad S Q _ k1 k2 => V_cmpgt (tgt := 42) (pc2 := 10) (dk D_X6_findReached 5 rfl) (by decide) rfl (fun q => k1 q) (fun q => k2 q)) (fun q1 => ?_) (fun q1 => ?_)
  · have h := h.1 q1
    refine K_p (pc2 := 43) (lv2 := [(0, vR 79), (1, vI _)]) (st2 := [vI _]) (fun ad S Q _ k => V_iconst (x := 1) (pc2 := 43) (dk D_X6_findReached 22 rfl) (by decide) rfl k) ?_
    refine K_p (pc2 := 44) (lv2 := [(0, vR 79), (1, vI _)]) (st2 := []) (fun ad S Q _ k => V_istore_n (pc2 := 44) (lv2 := [(0, _), (1, _)]) (dk D_X6_findReached 23 rfl) rfl (by decide) rfl rfl k) ?_
    refine K_p (pc2 := 45) (lv2 := [(0, vR 79), (1, vI _)]) (st2 := [vI _]) (fun ad S Q _ k => V_iconst (x := 0) (pc2 := 45) (dk D_X6_findReached 24 rfl) (by decide) rfl k) ?_
    refine K_p (pc2 := 46) (lv2 := [(0, vR 79), (1, vI _), (2, vI _)]) (st2 := []) (fun ad S Q _ k => V_istore_n (pc2 := 46) (lv2 := [(0, _), (1, _), (2, _)]) (dk D_X6_findReached 25 rfl) rfl (by decide) rfl rfl k) ?_
    exact h
  · have h := h.2 q1
    refine K_p (pc2 := 11) (lv2 := [(0, vR 79), (1, vI _)]) (st2 := [vR 79]) (fun ad S Q _ k => V_aload_n (pc2 := 11) (dk D_X6_findReached 6 rfl) rfl (V_lg 0 rfl) rfl k) ?_
    refine K_p (pc2 := 12) (lv2 := [(0, vR 79), (1, vI _)]) (st2 := [vI _, vR 79]) (fun ad S Q _ k => V_iload_n (pc2 := 12) (dk D_X6_findReached 7 rfl) rfl (V_lg 1 rfl) rfl k) ?_
    obtain ⟨e2, he3, hc4⟩ := h
    refine K_call (as := [vR 79, vI _]) (st := []) (pc2 := 15) (okL.all _ ⟨(Or.inr ⟨Or.inl ⟨by decide, by decide⟩, by decide⟩), trivial, trivial⟩) (okS.all _ trivial) (fun ad S Q Qc hC hc k => V_callV (as := [_]) (st := []) (M' := MX6_find) (ci := 6) (pc2 := 15) (dk D_X6_findReached 8 rfl) ml_6_106 mv_X6_find rfl rfl (by decide) rfl (Nat.le_of_ble_eq_true rfl) rfl he3 (hC.k' (fixH 79 6 (by decide) rfl)) hc k) hc4 (kRR.k fun p5 κ6 h mo7 => ?_)
    refine K_p (pc2 := 16) (lv2 := [(0, vR 79), (1, vI _), (2, vR _)]) (st2 := []) (fun ad S Q _ k => V_astore_n (pc2 := 16) (lv2 := [(0, _), (1, _), (2, _)]) (dk D_X6_findReached 9 rfl) rfl (by decide) rfl rfl k) ?_
    refine K_p (pc2 := 17) (lv2 := [(0, vR 79), (1, vI _), (2, vR _)]) (st2 := [vR _]) (fun ad S Q _ k => V_aload_n (pc2 := 17) (dk D_X6_findReached 10 rfl) rfl (V_lg 2 rfl) rfl k) ?_
    obtain ⟨h9, h⟩ := h
    refine K_ifnull (tgt := 36) (pc2 := 20) (dk D_X6_findReached 11 rfl) (by decide) rfl h9 (fun q8 => ?_) (fun q8 => ?_)
    · have h := h.1 q8
      exact h
    · have h := h.2 q8
      refine K_p (pc2 := 21) (lv2 := [(0, vR 79), (1, vI _), (2, vR _)]) (st2 := [vR _]) (fun ad S Q _ k => V_aload_n (pc2 := 21) (dk D_X6_findReached 12 rfl) rfl (V_lg 2 rfl) rfl k) ?_
      refine K_p (pc2 := 22) (lv2 := [(0, vR 79), (1, vI _), (2, vR _)]) (st2 := [vR _, vR _]) (fun ad S Q _ k => V_aload_n (pc2 := 22) (dk D_X6_findReached 13 rfl) rfl (V_lg 2 rfl) rfl k) ?_
      obtain ⟨h10, h⟩ := h
      refine K_getI kc10 (pc2 := 25) 4 (dk D_X6_findReached 14 rfl) fl_6_137 (by decide) (fun _ _ => rfl) rfl h10 ?_
      refine K_if (pa := 28) (pb := 32) (lv2 := [(0, vR 79), (1, vI _), (2, vR _)]) (st2 := [vR _]) (fun ad S Q _ k1 k2 => V_ifne (tgt := 32) (pc2 := 28) (dk D_X6_findReached 15 rfl) (by decide) rfl (fun q => k2 q) (fun q => k1 q)) (fun q11 => ?_) (fun q11 => ?_)
      · have h := h.1 q11
        refine K_p (pc2 := 29) (lv2 := [(0, vR 79), (1, vI _), (2, vR _)]) (st2 := [vI _, vR _]) (fun ad S Q _ k => V_iconst (x := 1) (pc2 := 29) (dk D_X6_findReached 16 rfl) (by decide) rfl k) ?_
        refine K_p (pc2 := 33) (lv2 := [(0, vR 79), (1, vI _), (2, vR _)]) (st2 := [vI _, vR _]) (fun ad S Q _ k => V_goto (tgt := 33) (dk D_X6_findReached 17 rfl) (by decide) k) ?_
        exact h
      · have h := h.2 q11
        refine K_p (pc2 := 33) (lv2 := [(0, vR 79), (1, vI _), (2, vR _)]) (st2 := [vI _, vR _]) (fun ad S Q _ k => V_iconst (x := 0) (pc2 := 33) (dk D_X6_findReached 18 rfl) (by decide) rfl k) ?_
        exact h
theorem k_6_findReached_33 {X : Cx} {d : Nat} {κ : Km} {Q : Res → Km → Prop} (x1 : Int32) (r2 : Nat) (t0 : Nat) (t1 : Int32) (h : (isH κ t0 10) ∧ ∀ κ2 : Km, κ2 = cI κ t0 10 t1 → K X d MX6_findReached 36 [(0, vR 79), (1, vI x1), (2, vR r2)] [] κ2 Q) : K X d MX6_findReached 33 [(0, vR 79), (1, vI x1), (2, vR r2)] [vI t1, vR t0] κ Q := by
  obtain ⟨h1, h⟩ := h
  refine K_putI kc10 (pc2 := 36) 10 (dk D_X6_findReached 19 rfl) fl_6_140 (by decide) (Or.inl rfl) rfl rfl h1 (isH.n69 h1 (by decide)) ?_
  have h := h _ rfl
  exact h
theorem k_6_findReached_36 {X : Cx} {d : Nat} {κ : Km} {Q : Res → Km → Prop} (x1 : Int32) (r2 : Nat) (h : K X d MX6_findReached 2 [(0, vR 79), (1, vI (x1 + 1))] [] κ Q) : K X d MX6_findReached 36 [(0, vR 79), (1, vI x1), (2, vR r2)] [] κ Q := by
  refine K_p (pc2 := 39) (lv2 := [(0, vR 79), (1, vI _), (2, vR _)]) (st2 := []) (fun ad S Q _ k => V_iinc (y := _ + 1) (pc2 := 39) (lv2 := [(0, _), (1, _), (2, _)]) (dk D_X6_findReached 20 rfl) (V_lg 1 rfl) rfl (by decide) rfl rfl k) ?_
  refine K_p (pc2 := 2) (lv2 := [(0, vR 79), (1, vI _), (2, vR _)]) (st2 := []) (fun ad S Q _ k => V_goto (tgt := 2) (dk D_X6_findReached 21 rfl) (by decide) k) ?_
  refine K_p (pc2 := 2) (lv2 := [(0, vR 79), (1, vI _)]) (st2 := []) (fun ad S Q _ k => V_pick [0, 1] (lv2 := [(0, _), (1, _)]) rfl k) ?_
  exact h
theorem k_6_findReached_46 {X : Cx} {d : Nat} {κ : Km} {Q : Res → Km → Prop} (x1 : Int32) (x2 : Int32) (h : ((60 < x2 → K X d MX6_findReached 123 [(0, vR 79), (1, vI x1), (2, vI x2)] [] κ Q) ∧ (¬ 60 < x2 → ((x1 = 0 → K X d MX6_findReached 123 [(0, vR 79), (1, vI x1), (2, vI x2)] [] κ Q) ∧ (¬ x1 = 0 → K X d MX6_findReached 60 [(0, vR 79), (1, vI 0), (2, vI x2), (3, vI 1)] [] κ Q))))) : K X d MX6_findReached 46 [(0, vR 79), (1, vI x1), (2, vI x2)] [] κ Q := by
  refine K_p (pc2 := 47) (lv2 := [(0, vR 79), (1, vI _), (2, vI _)]) (st2 := [vI _]) (fun ad S Q _ k => V_iload_n (pc2 := 47) (dk D_X6_findReached 26 rfl) rfl (V_lg 2 rfl) rfl k) ?_
  refine K_p (pc2 := 49) (lv2 := [(0, vR 79), (1, vI _), (2, vI _)]) (st2 := [vI _, vI _]) (fun ad S Q _ k => V_bipush (x := 60) (pc2 := 49) (dk D_X6_findReached 27 rfl) (by decide) rfl k) ?_
  refine K_if (pa := 123) (pb := 52) (lv2 := [(0, vR 79), (1, vI _), (2, vI _)]) (st2 := []) (fun ad S Q _ k1 k2 => V_cmpgt (tgt := 123) (pc2 := 52) (dk D_X6_findReached 28 rfl) (by decide) rfl (fun q => k1 q) (fun q => k2 q)) (fun q1 => ?_) (fun q1 => ?_)
  · have h := h.1 q1
    exact h
  · have h := h.2 q1
    refine K_p (pc2 := 53) (lv2 := [(0, vR 79), (1, vI _), (2, vI _)]) (st2 := [vI _]) (fun ad S Q _ k => V_iload_n (pc2 := 53) (dk D_X6_findReached 29 rfl) rfl (V_lg 1 rfl) rfl k) ?_
    refine K_if (pa := 123) (pb := 56) (lv2 := [(0, vR 79), (1, vI _), (2, vI _)]) (st2 := []) (fun ad S Q _ k1 k2 => V_ifeq (tgt := 123) (pc2 := 56) (dk D_X6_findReached 30 rfl) (by decide) rfl (fun q => k1 q) (fun q => k2 q)) (fun q2 => ?_) (fun q2 => ?_)
    · have h := h.1 q2
      exact h
    · have h := h.2 q2
      refine K_p (pc2 := 57) (lv2 := [(0, vR 79), (1, vI _), (2, vI _)]) (st2 := [vI _]) (fun ad S Q _ k => V_iconst (x := 0) (pc2 := 57) (dk D_X6_findReached 31 rfl) (by decide) rfl k) ?_
      refine K_p (pc2 := 58) (lv2 := [(0, vR 79), (1, vI _), (2, vI _)]) (st2 := []) (fun ad S Q _ k => V_istore_n (pc2 := 58) (lv2 := [(0, _), (1, _), (2, _)]) (dk D_X6_findReached 32 rfl) rfl (by decide) rfl rfl k) ?_
      refine K_p (pc2 := 59) (lv2 := [(0, vR 79), (1, vI _), (2, vI _)]) (st2 := [vI _]) (fun ad S Q _ k => V_iconst (x := 1) (pc2 := 59) (dk D_X6_findReached 33 rfl) (by decide) rfl k) ?_
      refine K_p (pc2 := 60) (lv2 := [(0, vR 79), (1, vI _), (2, vI _), (3, vI _)]) (st2 := []) (fun ad S Q _ k => V_istore_n (pc2 := 60) (lv2 := [(0, _), (1, _), (2, _), (3, _)]) (dk D_X6_findReached 34 rfl) rfl (by decide) rfl rfl k) ?_
      exact h
theorem k_6_findReached_60 {X : Cx} {d : Nat} {κ : Km} {Q : Res → Km → Prop} (x1 : Int32) (x2 : Int32) (x3 : Int32) (h : (((kI κ 79 10) < x3 → K X d MX6_findReached 46 [(0, vR 79), (1, vI x1), (2, vI (x2 + 1))] [] κ Q) ∧ (¬ (kI κ 79 10) < x3 → ∃ e2 : Nat, e2 + 1 ≤ d ∧ KC' X e2 MX6_find [vR 79, vI x3] κ (kRR fun p5 κ6 => (p5 = 0 ∨ live κ6 p5) ∧ ((p5 = 0 → K X d MX6_findReached 111 [(0, vR 79), (1, vI x1), (2, vI x2), (3, vI x3), (4, vR p5)] [] κ6 Q) ∧ (¬ p5 = 0 → (isH κ6 p5 10) ∧ (((kI κ6 p5 10) = 1 → ∃ e12 : Nat, e12 + 1 ≤ d ∧ KC' X e12 MX10_isOver [vR p5] κ6 (kRI fun y15 κ16 => ((y15 = 0 → ∀ κ19 : Km, κ19 = cI κ16 p5 10 2 → ∃ e20 : Nat, e20 + 1 ≤ d ∧ KC' X e20 MX6_lookInto [vR 79, vR p5] κ19 (kRV fun  κ23 => K X d MX6_findReached 111 [(0, vR 79), (1, vI 1), (2, vI x2), (3, vI x3), (4, vR p5)] [] κ23 Q)) ∧ (¬ y15 = 0 → K X d MX6_findReached 111 [(0, vR 79), (1, vI x1), (2, vI x2), (3, vI x3), (4, vR p5)] [] κ16 Q)))) ∧ (¬ (kI κ6 p5 10) = 1 → K X d MX6_findReached 111 [(0, vR 79), (1, vI x1), (2, vI x2), (3, vI x3), (4, vR p5)] [] κ6 Q)))))))) : K X d MX6_findReached 60 [(0, vR 79), (1, vI x1), (2, vI x2), (3, vI x3)] [] κ Q := by
  refine K_p (pc2 := 61) (lv2 := [(0, vR 79), (1, vI _), (2, vI _), (3, vI _)]) (st2 := [vI _]) (fun ad S Q _ k => V_iload_n (pc2 := 61) (dk D_X6_findReached 35 rfl) rfl (V_lg 3 rfl) rfl k) ?_
  refine K_p (pc2 := 62) (lv2 := [(0, vR 79), (1, vI _), (2, vI _), (3, vI _)]) (st2 := [vR 79, vI _]) (fun ad S Q _ k => V_aload_n (pc2 := 62) (dk D_X6_findReached 36 rfl) rfl (V_lg 0 rfl) rfl k) ?_
  refine K_getI kc6 (pc2 := 65) 10 (dk D_X6_findReached 37 rfl) fl_6_65 (by decide) (fun _ _ => rfl) rfl (fixH 79 6 (by decide) rfl) ?_
  refine K_if (pa := 117) (pb := 68) (lv2 := [(0, vR 79), (1, vI _), (2, vI _), (3, vI _)]) (st2 := []) (fun ad S Q _ k1 k2 => V_cmpgt (tgt := 117) (pc2 := 68) (dk D_X6_findReached 38 rfl) (by decide) rfl (fun q => k1 q) (fun q => k2 q)) (fun q1 => ?_) (fun q1 => ?_)
  · have h := h.1 q1
    refine K_p (pc2 := 120) (lv2 := [(0, vR 79), (1, vI _), (2, vI _), (3, vI _)]) (st2 := []) (fun ad S Q _ k => V_iinc (y := _ + 1) (pc2 := 120) (lv2 := [(0, _), (1, _), (2, _), (3, _)]) (dk D_X6_findReached 62 rfl) (V_lg 2 rfl) rfl (by decide) rfl rfl k) ?_
    refine K_p (pc2 := 46) (lv2 := [(0, vR 79), (1, vI _), (2, vI _), (3, vI _)]) (st2 := []) (fun ad S Q _ k => V_goto (tgt := 46) (dk D_X6_findReached 63 rfl) (by decide) k) ?_
    refine K_p (pc2 := 46) (lv2 := [(0, vR 79), (1, vI _), (2, vI _)]) (st2 := []) (fun ad S Q _ k => V_pick [0, 1, 2] (lv2 := [(0, _), (1, _), (2, _)]) rfl k) ?_
    exact h
  · have h := h.2 q1
    refine K_p (pc2 := 69) (lv2 := [(0, vR 79), (1, vI _), (2, vI _), (3, vI _)]) (st2 := [vR 79]) (fun ad S Q _ k => V_aload_n (pc2 := 69) (dk D_X6_findReached 39 rfl) rfl (V_lg 0 rfl) rfl k) ?_
    refine K_p (pc2 := 70) (lv2 := [(0, vR 79), (1, vI _), (2, vI _), (3, vI _)]) (st2 := [vI _, vR 79]) (fun ad S Q _ k => V_iload_n (pc2 := 70) (dk D_X6_findReached 40 rfl) rfl (V_lg 3 rfl) rfl k) ?_
    obtain ⟨e2, he3, hc4⟩ := h
    refine K_call (as := [vR 79, vI _]) (st := []) (pc2 := 73) (okL.all _ ⟨(Or.inr ⟨Or.inl ⟨by decide, by decide⟩, by decide⟩), trivial, trivial, trivial, trivial⟩) (okS.all _ trivial) (fun ad S Q Qc hC hc k => V_callV (as := [_]) (st := []) (M' := MX6_find) (ci := 6) (pc2 := 73) (dk D_X6_findReached 41 rfl) ml_6_106 mv_X6_find rfl rfl (by decide) rfl (Nat.le_of_ble_eq_true rfl) rfl he3 (hC.k' (fixH 79 6 (by decide) rfl)) hc k) hc4 (kRR.k fun p5 κ6 h mo7 => ?_)
    refine K_p (pc2 := 75) (lv2 := [(0, vR 79), (1, vI _), (2, vI _), (3, vI _), (4, vR _)]) (st2 := []) (fun ad S Q _ k => V_astore (pc2 := 75) (lv2 := [(0, _), (1, _), (2, _), (3, _), (4, _)]) (dk D_X6_findReached 42 rfl) (by decide) rfl rfl k) ?_
    refine K_p (pc2 := 77) (lv2 := [(0, vR 79), (1, vI _), (2, vI _), (3, vI _), (4, vR _)]) (st2 := [vR _]) (fun ad S Q _ k => V_aload (pc2 := 77) (dk D_X6_findReached 43 rfl) (V_lg 4 rfl) rfl k) ?_
    obtain ⟨h9, h⟩ := h
    refine K_ifnull (tgt := 111) (pc2 := 80) (dk D_X6_findReached 44 rfl) (by decide) rfl h9 (fun q8 => ?_) (fun q8 => ?_)
    · have h := h.1 q8
      exact h
    · have h := h.2 q8
      refine K_p (pc2 := 82) (lv2 := [(0, vR 79), (1, vI _), (2, vI _), (3, vI _), (4, vR _)]) (st2 := [vR _]) (fun ad S Q _ k => V_aload (pc2 := 82) (dk D_X6_findReached 45 rfl) (V_lg 4 rfl) rfl k) ?_
      obtain ⟨h10, h⟩ := h
      refine K_getI kc10 (pc2 := 85) 10 (dk D_X6_findReached 46 rfl) fl_6_140 (by decide) (fun _ _ => rfl) rfl h10 ?_
      refine K_p (pc2 := 86) (lv2 := [(0, vR 79), (1, vI _), (2, vI _), (3, vI _), (4, vR _)]) (st2 := [vI _, vI _]) (fun ad S Q _ k => V_iconst (x := 1) (pc2 := 86) (dk D_X6_findReached 47 rfl) (by decide) rfl k) ?_
      refine K_if (pa := 89) (pb := 111) (lv2 := [(0, vR 79), (1, vI _), (2, vI _), (3, vI _), (4, vR _)]) (st2 := []) (fun ad S Q _ k1 k2 => V_cmpne (tgt := 111) (pc2 := 89) (dk D_X6_findReached 48 rfl) (by decide) rfl (fun q => k2 q) (fun q => k1 q)) (fun q11 => ?_) (fun q11 => ?_)
      · have h := h.1 q11
        refine K_p (pc2 := 91) (lv2 := [(0, vR 79), (1, vI _), (2, vI _), (3, vI _), (4, vR _)]) (st2 := [vR _]) (fun ad S Q _ k => V_aload (pc2 := 91) (dk D_X6_findReached 49 rfl) (V_lg 4 rfl) rfl k) ?_
        obtain ⟨e12, he13, hc14⟩ := h
        refine K_call (as := [vR _]) (st := []) (pc2 := 94) (okL.all _ ⟨(Or.inr ⟨Or.inl ⟨by decide, by decide⟩, by decide⟩), trivial, trivial, trivial, (isH.ok h10 (by decide)), trivial⟩) (okS.all _ trivial) (fun ad S Q Qc hC hc k => V_callV (as := []) (st := []) (M' := MX10_isOver) (ci := 10) (pc2 := 94) (dk D_X6_findReached 50 rfl) ml_6_110 mv_X10_isOver rfl rfl (by decide) rfl (Nat.le_of_ble_eq_true rfl) rfl he13 (hC.k' h10) hc k) hc14 (kRI.k fun y15 κ16 h mo17 => ?_)
        refine K_if (pa := 97) (pb := 111) (lv2 := [(0, vR 79), (1, vI _), (2, vI _), (3, vI _), (4, vR _)]) (st2 := []) (fun ad S Q _ k1 k2 => V_ifne (tgt := 111) (pc2 := 97) (dk D_X6_findReached 51 rfl) (by decide) rfl (fun q => k2 q) (fun q => k1 q)) (fun q18 => ?_) (fun q18 => ?_)
        · have h := h.1 q18
          refine K_p (pc2 := 99) (lv2 := [(0, vR 79), (1, vI _), (2, vI _), (3, vI _), (4, vR _)]) (st2 := [vR _]) (fun ad S Q _ k => V_aload (pc2 := 99) (dk D_X6_findReached 52 rfl) (V_lg 4 rfl) rfl k) ?_
          refine K_p (pc2 := 100) (lv2 := [(0, vR 79), (1, vI _), (2, vI _), (3, vI _), (4, vR _)]) (st2 := [vI _, vR _]) (fun ad S Q _ k => V_iconst (x := 2) (pc2 := 100) (dk D_X6_findReached 53 rfl) (by decide) rfl k) ?_
          refine K_putI kc10 (pc2 := 103) 10 (dk D_X6_findReached 54 rfl) fl_6_140 (by decide) (Or.inl rfl) rfl rfl (isH.mo h10 (by decide) mo17) (isH.n69 (isH.mo h10 (by decide) mo17) (by decide)) ?_
          have h := h _ rfl
          refine K_p (pc2 := 104) (lv2 := [(0, vR 79), (1, vI _), (2, vI _), (3, vI _), (4, vR _)]) (st2 := [vR 79]) (fun ad S Q _ k => V_aload_n (pc2 := 104) (dk D_X6_findReached 55 rfl) rfl (V_lg 0 rfl) rfl k) ?_
          refine K_p (pc2 := 106) (lv2 := [(0, vR 79), (1, vI _), (2, vI _), (3, vI _), (4, vR _)]) (st2 := [vR _, vR 79]) (fun ad S Q _ k => V_aload (pc2 := 106) (dk D_X6_findReached 56 rfl) (V_lg 4 rfl) rfl k) ?_
          obtain ⟨e20, he21, hc22⟩ := h
          refine K_call (as := [vR 79, vR _]) (st := []) (pc2 := 109) (okL.all _ ⟨(Or.inr ⟨Or.inl ⟨by decide, by decide⟩, by decide⟩), trivial, trivial, trivial, (isH.ok (isH.mo h10 (by decide) mo17) (by decide)), trivial⟩) (okS.all _ trivial) (fun ad S Q Qc hC hc k => V_callV (as := [_]) (st := []) (M' := MX6_lookInto) (ci := 6) (pc2 := 109) (dk D_X6_findReached 57 rfl) ml_6_143 mv_X6_lookInto rfl rfl (by decide) rfl (Nat.le_of_ble_eq_true rfl) rfl he21 (hC.k' (fixH 79 6 (by decide) rfl)) hc k) hc22 (kRV.k fun  κ23 h mo24 => ?_)
          refine K_p (pc2 := 110) (lv2 := [(0, vR 79), (1, vI _), (2, vI _), (3, vI _), (4, vR _)]) (st2 := [vI _]) (fun ad S Q _ k => V_iconst (x := 1) (pc2 := 110) (dk D_X6_findReached 58 rfl) (by decide) rfl k) ?_
          refine K_p (pc2 := 111) (lv2 := [(0, vR 79), (1, vI _), (2, vI _), (3, vI _), (4, vR _)]) (st2 := []) (fun ad S Q _ k => V_istore_n (pc2 := 111) (lv2 := [(0, _), (1, _), (2, _), (3, _), (4, _)]) (dk D_X6_findReached 59 rfl) rfl (by decide) rfl rfl k) ?_
          exact h
        · have h := h.2 q18
          exact h
      · have h := h.2 q11
        exact h
theorem k_6_findReached_111 {X : Cx} {d : Nat} {κ : Km} {Q : Res → Km → Prop} (x1 : Int32) (x2 : Int32) (x3 : Int32) (r4 : Nat) (h : K X d MX6_findReached 60 [(0, vR 79), (1, vI x1), (2, vI x2), (3, vI (x3 + 1))] [] κ Q) : K X d MX6_findReached 111 [(0, vR 79), (1, vI x1), (2, vI x2), (3, vI x3), (4, vR r4)] [] κ Q := by
  refine K_p (pc2 := 114) (lv2 := [(0, vR 79), (1, vI _), (2, vI _), (3, vI _), (4, vR _)]) (st2 := []) (fun ad S Q _ k => V_iinc (y := _ + 1) (pc2 := 114) (lv2 := [(0, _), (1, _), (2, _), (3, _), (4, _)]) (dk D_X6_findReached 60 rfl) (V_lg 3 rfl) rfl (by decide) rfl rfl k) ?_
  refine K_p (pc2 := 60) (lv2 := [(0, vR 79), (1, vI _), (2, vI _), (3, vI _), (4, vR _)]) (st2 := []) (fun ad S Q _ k => V_goto (tgt := 60) (dk D_X6_findReached 61 rfl) (by decide) k) ?_
  refine K_p (pc2 := 60) (lv2 := [(0, vR 79), (1, vI _), (2, vI _), (3, vI _)]) (st2 := []) (fun ad S Q _ k => V_pick [0, 1, 2, 3] (lv2 := [(0, _), (1, _), (2, _), (3, _)]) rfl k) ?_
  exact h
theorem k_6_findReached_123 {X : Cx} {d : Nat} {κ : Km} {Q : Res → Km → Prop} (x1 : Int32) (x2 : Int32) (h : Q (.inl (some (vI (kI κ 79 10)))) κ) : K X d MX6_findReached 123 [(0, vR 79), (1, vI x1), (2, vI x2)] [] κ Q := by
  refine K_p (pc2 := 124) (lv2 := [(0, vR 79), (1, vI _), (2, vI _)]) (st2 := [vR 79]) (fun ad S Q _ k => V_aload_n (pc2 := 124) (dk D_X6_findReached 64 rfl) rfl (V_lg 0 rfl) rfl k) ?_
  refine K_getI kc6 (pc2 := 127) 10 (dk D_X6_findReached 65 rfl) fl_6_65 (by decide) (fun _ _ => rfl) rfl (fixH 79 6 (by decide) rfl) ?_
  exact K_ret (r := .inl (some (vI _))) (fun ad S Q _ k => V_ireturn (dk D_X6_findReached 66 rfl) rfl k) h
theorem k_6_lookInto_0 {X : Cx} {d : Nat} {κ : Km} {Q : Res → Km → Prop} (r1 : Nat) (h : (isH κ r1 10) ∧ (((kI κ r1 1) = 0 → ∃ e3 : Nat, e3 + 1 ≤ d ∧ KC' X e3 MX6_reach [vR 79, vI (kI κ r1 3)] κ (kRV fun  κ6 => K X d MX6_lookInto 15 [(0, vR 79), (1, vR r1)] [] κ6 Q)) ∧ (¬ (kI κ r1 1) = 0 → K X d MX6_lookInto 15 [(0, vR 79), (1, vR r1)] [] κ Q))) : K X d MX6_lookInto 0 [(0, vR 79), (1, vR r1)] [] κ Q := by
  refine K_p (pc2 := 1) (lv2 := [(0, vR 79), (1, vR _)]) (st2 := [vR _]) (fun ad S Q _ k => V_aload_n (pc2 := 1) (dk D_X6_lookInto 0 rfl) rfl (V_lg 1 rfl) rfl k) ?_
  obtain ⟨h1, h⟩ := h
  refine K_getI kc10 (pc2 := 4) 1 (dk D_X6_lookInto 1 rfl) fl_6_131 (by decide) (fun _ _ => rfl) rfl h1 ?_
  refine K_if (pa := 7) (pb := 15) (lv2 := [(0, vR 79), (1, vR _)]) (st2 := []) (fun ad S Q _ k1 k2 => V_ifne (tgt := 15) (pc2 := 7) (dk D_X6_lookInto 2 rfl) (by decide) rfl (fun q => k2 q) (fun q => k1 q)) (fun q2 => ?_) (fun q2 => ?_)
  · have h := h.1 q2
    refine K_p (pc2 := 8) (lv2 := [(0, vR 79), (1, vR _)]) (st2 := [vR 79]) (fun ad S Q _ k => V_aload_n (pc2 := 8) (dk D_X6_lookInto 3 rfl) rfl (V_lg 0 rfl) rfl k) ?_
    refine K_p (pc2 := 9) (lv2 := [(0, vR 79), (1, vR _)]) (st2 := [vR _, vR 79]) (fun ad S Q _ k => V_aload_n (pc2 := 9) (dk D_X6_lookInto 4 rfl) rfl (V_lg 1 rfl) rfl k) ?_
    refine K_getI kc10 (pc2 := 12) 3 (dk D_X6_lookInto 5 rfl) fl_6_147 (by decide) (fun _ _ => rfl) rfl h1 ?_
    obtain ⟨e3, he4, hc5⟩ := h
    refine K_call (as := [vR 79, vI _]) (st := []) (pc2 := 15) (okL.all _ ⟨(Or.inr ⟨Or.inl ⟨by decide, by decide⟩, by decide⟩), (isH.ok h1 (by decide)), trivial⟩) (okS.all _ trivial) (fun ad S Q Qc hC hc k => V_callV (as := [_]) (st := []) (M' := MX6_reach) (ci := 6) (pc2 := 15) (dk D_X6_lookInto 6 rfl) ml_6_150 mv_X6_reach rfl rfl (by decide) rfl (Nat.le_of_ble_eq_true rfl) rfl he4 (hC.k' (fixH 79 6 (by decide) rfl)) hc k) hc5 (kRV.k fun  κ6 h mo7 => ?_)
    exact h
  · have h := h.2 q2
    exact h
theorem k_6_lookInto_15 {X : Cx} {d : Nat} {κ : Km} {Q : Res → Km → Prop} (r1 : Nat) (h : K X d MX6_lookInto 17 [(0, vR 79), (1, vR r1), (2, vI 0)] [] κ Q) : K X d MX6_lookInto 15 [(0, vR 79), (1, vR r1)] [] κ Q := by
  refine K_p (pc2 := 16) (lv2 := [(0, vR 79), (1, vR _)]) (st2 := [vI _]) (fun ad S Q _ k => V_iconst (x := 0) (pc2 := 16) (dk D_X6_lookInto 7 rfl) (by decide) rfl k) ?_
  refine K_p (pc2 := 17) (lv2 := [(0, vR 79), (1, vR _), (2, vI _)]) (st2 := []) (fun ad S Q _ k => V_istore_n (pc2 := 17) (lv2 := [(0, _), (1, _), (2, _)]) (dk D_X6_lookInto 8 rfl) rfl (by decide) rfl rfl k) ?_
  exact h
theorem k_6_lookInto_17 {X : Cx} {d : Nat} {κ : Km} {Q : Res → Km → Prop} (r1 : Nat) (x2 : Int32) (h : (isH κ r1 10) ∧ (((kI κ r1 8) ≤ x2 → Q (.inl none) κ) ∧ (¬ (kI κ r1 8) ≤ x2 → ∃ e3 : Nat, e3 + 1 ≤ d ∧ KC' X e3 MX10_frameOf [vR r1, vI x2] κ (kRI fun y6 κ7 => K X d MX6_lookInto 34 [(0, vR 79), (1, vR r1), (2, vI x2), (3, vI y6), (4, vI 0)] [] κ7 Q)))) : K X d MX6_lookInto 17 [(0, vR 79), (1, vR r1), (2, vI x2)] [] κ Q := by
  refine K_p (pc2 := 18) (lv2 := [(0, vR 79), (1, vR _), (2, vI _)]) (st2 := [vI _]) (fun ad S Q _ k => V_iload_n (pc2 := 18) (dk D_X6_lookInto 9 rfl) rfl (V_lg 2 rfl) rfl k) ?_
  refine K_p (pc2 := 19) (lv2 := [(0, vR 79), (1, vR _), (2, vI _)]) (st2 := [vR _, vI _]) (fun ad S Q _ k => V_aload_n (pc2 := 19) (dk D_X6_lookInto 10 rfl) rfl (V_lg 1 rfl) rfl k) ?_
  obtain ⟨h1, h⟩ := h
  refine K_getI kc10 (pc2 := 22) 8 (dk D_X6_lookInto 11 rfl) fl_6_154 (by decide) (fun _ _ => rfl) rfl h1 ?_
  refine K_if (pa := 67) (pb := 25) (lv2 := [(0, vR 79), (1, vR _), (2, vI _)]) (st2 := []) (fun ad S Q _ k1 k2 => V_cmpge (tgt := 67) (pc2 := 25) (dk D_X6_lookInto 12 rfl) (by decide) rfl (fun q => k1 q) (fun q => k2 q)) (fun q2 => ?_) (fun q2 => ?_)
  · have h := h.1 q2
    exact K_ret (r := .inl none) (fun ad S Q _ k => V_return (dk D_X6_lookInto 34 rfl) rfl k) h
  · have h := h.2 q2
    refine K_p (pc2 := 26) (lv2 := [(0, vR 79), (1, vR _), (2, vI _)]) (st2 := [vR _]) (fun ad S Q _ k => V_aload_n (pc2 := 26) (dk D_X6_lookInto 13 rfl) rfl (V_lg 1 rfl) rfl k) ?_
    refine K_p (pc2 := 27) (lv2 := [(0, vR 79), (1, vR _), (2, vI _)]) (st2 := [vI _, vR _]) (fun ad S Q _ k => V_iload_n (pc2 := 27) (dk D_X6_lookInto 14 rfl) rfl (V_lg 2 rfl) rfl k) ?_
    obtain ⟨e3, he4, hc5⟩ := h
    refine K_call (as := [vR _, vI _]) (st := []) (pc2 := 30) (okL.all _ ⟨(Or.inr ⟨Or.inl ⟨by decide, by decide⟩, by decide⟩), (isH.ok h1 (by decide)), trivial, trivial⟩) (okS.all _ trivial) (fun ad S Q Qc hC hc k => V_callV (as := [_]) (st := []) (M' := MX10_frameOf) (ci := 10) (pc2 := 30) (dk D_X6_lookInto 15 rfl) ml_6_157 mv_X10_frameOf rfl rfl (by decide) rfl (Nat.le_of_ble_eq_true rfl) rfl he4 (hC.k' h1) hc k) hc5 (kRI.k fun y6 κ7 h mo8 => ?_)
    refine K_p (pc2 := 31) (lv2 := [(0, vR 79), (1, vR _), (2, vI _), (3, vI _)]) (st2 := []) (fun ad S Q _ k => V_istore_n (pc2 := 31) (lv2 := [(0, _), (1, _), (2, _), (3, _)]) (dk D_X6_lookInto 16 rfl) rfl (by decide) rfl rfl k) ?_
    refine K_p (pc2 := 32) (lv2 := [(0, vR 79), (1, vR _), (2, vI _), (3, vI _)]) (st2 := [vI _]) (fun ad S Q _ k => V_iconst (x := 0) (pc2 := 32) (dk D_X6_lookInto 17 rfl) (by decide) rfl k) ?_
    refine K_p (pc2 := 34) (lv2 := [(0, vR 79), (1, vR _), (2, vI _), (3, vI _), (4, vI _)]) (st2 := []) (fun ad S Q _ k => V_istore (pc2 := 34) (lv2 := [(0, _), (1, _), (2, _), (3, _), (4, _)]) (dk D_X6_lookInto 18 rfl) (by decide) rfl rfl k) ?_
    exact h
theorem k_6_lookInto_34 {X : Cx} {d : Nat} {κ : Km} {Q : Res → Km → Prop} (r1 : Nat) (x2 : Int32) (x3 : Int32) (x4 : Int32) (h : (isH κ r1 10) ∧ ∃ e1 : Nat, e1 + 1 ≤ d ∧ KC' X e1 MX10_variablesOf [vR r1, vI x3] κ (kRI fun y4 κ6 => ((y4 ≤ x4 → K X d MX6_lookInto 17 [(0, vR 79), (1, vR r1), (2, vI (x2 + 1))] [] κ6 Q) ∧ (¬ y4 ≤ x4 → ∃ e9 : Nat, e9 + 1 ≤ d ∧ KC' X e9 MX10_variable [vR r1, vI x3, vI x4] κ6 (kRI fun y12 κ13 => ∃ e15 : Nat, e15 + 1 ≤ d ∧ KC' X e15 MX6_reach [vR 79, vI y12] κ13 (kRV fun  κ18 => K X d MX6_lookInto 34 [(0, vR 79), (1, vR r1), (2, vI x2), (3, vI x3), (4, vI (x4 + 1))] [] κ18 Q)))))) : K X d MX6_lookInto 34 [(0, vR 79), (1, vR r1), (2, vI x2), (3, vI x3), (4, vI x4)] [] κ Q := by
  refine K_p (pc2 := 36) (lv2 := [(0, vR 79), (1, vR _), (2, vI _), (3, vI _), (4, vI _)]) (st2 := [vI _]) (fun ad S Q _ k => V_iload (pc2 := 36) (dk D_X6_lookInto 19 rfl) (V_lg 4 rfl) rfl k) ?_
  refine K_p (pc2 := 37) (lv2 := [(0, vR 79), (1, vR _), (2, vI _), (3, vI _), (4, vI _)]) (st2 := [vR _, vI _]) (fun ad S Q _ k => V_aload_n (pc2 := 37) (dk D_X6_lookInto 20 rfl) rfl (V_lg 1 rfl) rfl k) ?_
  refine K_p (pc2 := 38) (lv2 := [(0, vR 79), (1, vR _), (2, vI _), (3, vI _), (4, vI _)]) (st2 := [vI _, vR _, vI _]) (fun ad S Q _ k => V_iload_n (pc2 := 38) (dk D_X6_lookInto 21 rfl) rfl (V_lg 3 rfl) rfl k) ?_
  obtain ⟨h5, h⟩ := h
  obtain ⟨e1, he2, hc3⟩ := h
  refine K_call (as := [vR _, vI _]) (st := [vI _]) (pc2 := 41) (okL.all _ ⟨(Or.inr ⟨Or.inl ⟨by decide, by decide⟩, by decide⟩), (isH.ok h5 (by decide)), trivial, trivial, trivial, trivial⟩) (okS.all _ ⟨trivial, trivial⟩) (fun ad S Q Qc hC hc k => V_callV (as := [_]) (st := [_]) (M' := MX10_variablesOf) (ci := 10) (pc2 := 41) (dk D_X6_lookInto 22 rfl) ml_6_161 mv_X10_variablesOf rfl rfl (by decide) rfl (Nat.le_of_ble_eq_true rfl) rfl he2 (hC.k' h5) hc k) hc3 (kRI.k fun y4 κ6 h mo7 => ?_)
  refine K_if (pa := 61) (pb := 44) (lv2 := [(0, vR 79), (1, vR _), (2, vI _), (3, vI _), (4, vI _)]) (st2 := []) (fun ad S Q _ k1 k2 => V_cmpge (tgt := 61) (pc2 := 44) (dk D_X6_lookInto 23 rfl) (by decide) rfl (fun q => k1 q) (fun q => k2 q)) (fun q8 => ?_) (fun q8 => ?_)
  · have h := h.1 q8
    refine K_p (pc2 := 64) (lv2 := [(0, vR 79), (1, vR _), (2, vI _), (3, vI _), (4, vI _)]) (st2 := []) (fun ad S Q _ k => V_iinc (y := _ + 1) (pc2 := 64) (lv2 := [(0, _), (1, _), (2, _), (3, _), (4, _)]) (dk D_X6_lookInto 32 rfl) (V_lg 2 rfl) rfl (by decide) rfl rfl k) ?_
    refine K_p (pc2 := 17) (lv2 := [(0, vR 79), (1, vR _), (2, vI _), (3, vI _), (4, vI _)]) (st2 := []) (fun ad S Q _ k => V_goto (tgt := 17) (dk D_X6_lookInto 33 rfl) (by decide) k) ?_
    refine K_p (pc2 := 17) (lv2 := [(0, vR 79), (1, vR _), (2, vI _)]) (st2 := []) (fun ad S Q _ k => V_pick [0, 1, 2] (lv2 := [(0, _), (1, _), (2, _)]) rfl k) ?_
    exact h
  · have h := h.2 q8
    refine K_p (pc2 := 45) (lv2 := [(0, vR 79), (1, vR _), (2, vI _), (3, vI _), (4, vI _)]) (st2 := [vR 79]) (fun ad S Q _ k => V_aload_n (pc2 := 45) (dk D_X6_lookInto 24 rfl) rfl (V_lg 0 rfl) rfl k) ?_
    refine K_p (pc2 := 46) (lv2 := [(0, vR 79), (1, vR _), (2, vI _), (3, vI _), (4, vI _)]) (st2 := [vR _, vR 79]) (fun ad S Q _ k => V_aload_n (pc2 := 46) (dk D_X6_lookInto 25 rfl) rfl (V_lg 1 rfl) rfl k) ?_
    refine K_p (pc2 := 47) (lv2 := [(0, vR 79), (1, vR _), (2, vI _), (3, vI _), (4, vI _)]) (st2 := [vI _, vR _, vR 79]) (fun ad S Q _ k => V_iload_n (pc2 := 47) (dk D_X6_lookInto 26 rfl) rfl (V_lg 3 rfl) rfl k) ?_
    refine K_p (pc2 := 49) (lv2 := [(0, vR 79), (1, vR _), (2, vI _), (3, vI _), (4, vI _)]) (st2 := [vI _, vI _, vR _, vR 79]) (fun ad S Q _ k => V_iload (pc2 := 49) (dk D_X6_lookInto 27 rfl) (V_lg 4 rfl) rfl k) ?_
    obtain ⟨e9, he10, hc11⟩ := h
    refine K_call (as := [vR _, vI _, vI _]) (st := [vR 79]) (pc2 := 52) (okL.all _ ⟨(Or.inr ⟨Or.inl ⟨by decide, by decide⟩, by decide⟩), (isH.ok (isH.mo h5 (by decide) mo7) (by decide)), trivial, trivial, trivial, trivial⟩) (okS.all _ ⟨(Or.inr ⟨Or.inl ⟨by decide, by decide⟩, by decide⟩), trivial⟩) (fun ad S Q Qc hC hc k => V_callV (as := [_, _]) (st := [_]) (M' := MX10_variable) (ci := 10) (pc2 := 52) (dk D_X6_lookInto 28 rfl) ml_6_164 mv_X10_variable rfl rfl (by decide) rfl (Nat.le_of_ble_eq_true rfl) rfl he10 (hC.k' (isH.mo h5 (by decide) mo7)) hc k) hc11 (kRI.k fun y12 κ13 h mo14 => ?_)
    obtain ⟨e15, he16, hc17⟩ := h
    refine K_call (as := [vR 79, vI _]) (st := []) (pc2 := 55) (okL.all _ ⟨(Or.inr ⟨Or.inl ⟨by decide, by decide⟩, by decide⟩), (isH.ok (isH.mo (isH.mo h5 (by decide) mo7) (by decide) mo14) (by decide)), trivial, trivial, trivial, trivial⟩) (okS.all _ trivial) (fun ad S Q Qc hC hc k => V_callV (as := [_]) (st := []) (M' := MX6_reach) (ci := 6) (pc2 := 55) (dk D_X6_lookInto 29 rfl) ml_6_150 mv_X6_reach rfl rfl (by decide) rfl (Nat.le_of_ble_eq_true rfl) rfl he16 (hC.k' (fixH 79 6 (by decide) rfl)) hc k) hc17 (kRV.k fun  κ18 h mo19 => ?_)
    refine K_p (pc2 := 58) (lv2 := [(0, vR 79), (1, vR _), (2, vI _), (3, vI _), (4, vI _)]) (st2 := []) (fun ad S Q _ k => V_iinc (y := _ + 1) (pc2 := 58) (lv2 := [(0, _), (1, _), (2, _), (3, _), (4, _)]) (dk D_X6_lookInto 30 rfl) (V_lg 4 rfl) rfl (by decide) rfl rfl k) ?_
    refine K_p (pc2 := 34) (lv2 := [(0, vR 79), (1, vR _), (2, vI _), (3, vI _), (4, vI _)]) (st2 := []) (fun ad S Q _ k => V_goto (tgt := 34) (dk D_X6_lookInto 31 rfl) (by decide) k) ?_
    exact h
theorem k_6_reach_0 {X : Cx} {d : Nat} {κ : Km} {Q : Res → Km → Prop} (x1 : Int32) (h : ∃ e1 : Nat, e1 + 1 ≤ d ∧ KC' X e1 MX6_find [vR 79, vI x1] κ (kRR fun p4 κ5 => (p4 = 0 ∨ live κ5 p4) ∧ ((p4 = 0 → K X d MX6_reach 22 [(0, vR 79), (1, vI x1), (2, vR p4)] [] κ5 Q) ∧ (¬ p4 = 0 → (isH κ5 p4 10) ∧ (((kI κ5 p4 10) = 0 → ∀ κ11 : Km, κ11 = cI κ5 p4 10 1 → K X d MX6_reach 22 [(0, vR 79), (1, vI x1), (2, vR p4)] [] κ11 Q) ∧ (¬ (kI κ5 p4 10) = 0 → K X d MX6_reach 22 [(0, vR 79), (1, vI x1), (2, vR p4)] [] κ5 Q)))))) : K X d MX6_reach 0 [(0, vR 79), (1, vI x1)] [] κ Q := by
  refine K_p (pc2 := 1) (lv2 := [(0, vR 79), (1, vI _)]) (st2 := [vR 79]) (fun ad S Q _ k => V_aload_n (pc2 := 1) (dk D_X6_reach 0 rfl) rfl (V_lg 0 rfl) rfl k) ?_
  refine K_p (pc2 := 2) (lv2 := [(0, vR 79), (1, vI _)]) (st2 := [vI _, vR 79]) (fun ad S Q _ k => V_iload_n (pc2 := 2) (dk D_X6_reach 1 rfl) rfl (V_lg 1 rfl) rfl k) ?_
  obtain ⟨e1, he2, hc3⟩ := h
  refine K_call (as := [vR 79, vI _]) (st := []) (pc2 := 5) (okL.all _ ⟨(Or.inr ⟨Or.inl ⟨by decide, by decide⟩, by decide⟩), trivial, trivial⟩) (okS.all _ trivial) (fun ad S Q Qc hC hc k => V_callV (as := [_]) (st := []) (M' := MX6_find) (ci := 6) (pc2 := 5) (dk D_X6_reach 2 rfl) ml_6_106 mv_X6_find rfl rfl (by decide) rfl (Nat.le_of_ble_eq_true rfl) rfl he2 (hC.k' (fixH 79 6 (by decide) rfl)) hc k) hc3 (kRR.k fun p4 κ5 h mo6 => ?_)
  refine K_p (pc2 := 6) (lv2 := [(0, vR 79), (1, vI _), (2, vR _)]) (st2 := []) (fun ad S Q _ k => V_astore_n (pc2 := 6) (lv2 := [(0, _), (1, _), (2, _)]) (dk D_X6_reach 3 rfl) rfl (by decide) rfl rfl k) ?_
  refine K_p (pc2 := 7) (lv2 := [(0, vR 79), (1, vI _), (2, vR _)]) (st2 := [vR _]) (fun ad S Q _ k => V_aload_n (pc2 := 7) (dk D_X6_reach 4 rfl) rfl (V_lg 2 rfl) rfl k) ?_
  obtain ⟨h8, h⟩ := h
  refine K_ifnull (tgt := 22) (pc2 := 10) (dk D_X6_reach 5 rfl) (by decide) rfl h8 (fun q7 => ?_) (fun q7 => ?_)
  · have h := h.1 q7
    exact h
  · have h := h.2 q7
    refine K_p (pc2 := 11) (lv2 := [(0, vR 79), (1, vI _), (2, vR _)]) (st2 := [vR _]) (fun ad S Q _ k => V_aload_n (pc2 := 11) (dk D_X6_reach 6 rfl) rfl (V_lg 2 rfl) rfl k) ?_
    obtain ⟨h9, h⟩ := h
    refine K_getI kc10 (pc2 := 14) 10 (dk D_X6_reach 7 rfl) fl_6_140 (by decide) (fun _ _ => rfl) rfl h9 ?_
    refine K_if (pa := 17) (pb := 22) (lv2 := [(0, vR 79), (1, vI _), (2, vR _)]) (st2 := []) (fun ad S Q _ k1 k2 => V_ifne (tgt := 22) (pc2 := 17) (dk D_X6_reach 8 rfl) (by decide) rfl (fun q => k2 q) (fun q => k1 q)) (fun q10 => ?_) (fun q10 => ?_)
    · have h := h.1 q10
      refine K_p (pc2 := 18) (lv2 := [(0, vR 79), (1, vI _), (2, vR _)]) (st2 := [vR _]) (fun ad S Q _ k => V_aload_n (pc2 := 18) (dk D_X6_reach 9 rfl) rfl (V_lg 2 rfl) rfl k) ?_
      refine K_p (pc2 := 19) (lv2 := [(0, vR 79), (1, vI _), (2, vR _)]) (st2 := [vI _, vR _]) (fun ad S Q _ k => V_iconst (x := 1) (pc2 := 19) (dk D_X6_reach 10 rfl) (by decide) rfl k) ?_
      refine K_putI kc10 (pc2 := 22) 10 (dk D_X6_reach 11 rfl) fl_6_140 (by decide) (Or.inl rfl) rfl rfl h9 (isH.n69 h9 (by decide)) ?_
      have h := h _ rfl
      exact h
    · have h := h.2 q10
      exact h
theorem k_6_reach_22 {X : Cx} {d : Nat} {κ : Km} {Q : Res → Km → Prop} (x1 : Int32) (r2 : Nat) (h : Q (.inl none) κ) : K X d MX6_reach 22 [(0, vR 79), (1, vI x1), (2, vR r2)] [] κ Q := by
  exact K_ret (r := .inl none) (fun ad S Q _ k => V_return (dk D_X6_reach 12 rfl) rfl k) h
theorem k_6_run_0 {X : Cx} {d : Nat} {κ : Km} {Q : Res → Km → Prop}  (h : K X d MX6_run 2 [(0, vR 79), (1, vI 0)] [] κ Q) : K X d MX6_run 0 [(0, vR 79)] [] κ Q := by
  refine K_p (pc2 := 1) (lv2 := [(0, vR 79)]) (st2 := [vI _]) (fun ad S Q _ k => V_iconst (x := 0) (pc2 := 1) (dk D_X6_run 0 rfl) (by decide) rfl k) ?_
  refine K_p (pc2 := 2) (lv2 := [(0, vR 79), (1, vI _)]) (st2 := []) (fun ad S Q _ k => V_istore_n (pc2 := 2) (lv2 := [(0, _), (1, _)]) (dk D_X6_run 1 rfl) rfl (by decide) rfl rfl k) ?_
  exact h
theorem k_6_run_2 {X : Cx} {d : Nat} {κ : Km} {Q : Res → Km → Prop} (x1 : Int32) (h : ((200000000 ≤ x1 → K X d MX6_run 158 [(0, vR 79), (1, vI x1)] [] κ Q) ∧ (¬ 200000000 ≤ x1 → (((kI κ 79 13) = 0 → K X d MX6_run 158 [(0, vR 79), (1, vI x1)] [] κ Q) ∧ (¬ (kI κ 79 13) = 0 → ∃ e3 : Nat, e3 + 1 ≤ d ∧ KC' X e3 MX6_find [vR 79, vI (kI κ 79 13)] κ (kRR fun p6 κ7 => (p6 = 0 ∨ live κ7 p6) ∧ ((p6 = 0 → ∀ κ11 : Km, κ11 = cI κ7 79 13 0 → K X d MX6_run 152 [(0, vR 79), (1, vI x1), (2, vR p6)] [] κ11 Q) ∧ (¬ p6 = 0 → (((kI κ7 79 17) = 0 → (((kI κ7 79 14) = 0 → (isH κ7 p6 10) ∧ ∃ e15 : Nat, e15 + 1 ≤ d ∧ KC' X e15 MX1_act [vR 68, vI (kI κ7 p6 9)] κ7 (kRI fun y18 κ19 => ∃ e21 : Nat, e21 + 1 ≤ d ∧ KC' X e21 MX1_argument [vR 68, vI (kI κ19 p6 9)] κ19 (kRI fun y24 κ25 => ∀ κ27 : Km, κ27 = cI κ25 p6 9 ((kI κ25 p6 9) + 1) → ((y18 < 40 → ((y18 < 20 → ∃ e30 : Nat, e30 + 1 ≤ d ∧ KC' X e30 MX10_work [vR p6, vI y18, vI y24] κ27 (kRI fun y33 κ34 => ((y33 = 0 → ∃ e37 : Nat, e37 + 1 ≤ d ∧ KC' X e37 MX6_raise [vR 79, vR p6, vI 11] κ34 (kRV fun  κ40 => K X d MX6_run 152 [(0, vR 79), (1, vI x1), (2, vR p6)] [] κ40 Q)) ∧ (¬ y33 = 0 → K X d MX6_run 152 [(0, vR 79), (1, vI x1), (2, vR p6)] [] κ34 Q)))) ∧ (¬ y18 < 20 → ∃ e42 : Nat, e42 + 1 ≤ d ∧ KC' X e42 MX6_playPart [vR 79, vR p6, vI y18, vI y24] κ27 (kRV fun  κ45 => K X d MX6_run 152 [(0, vR 79), (1, vI x1), (2, vR p6)] [] κ45 Q)))) ∧ (¬ y18 < 40 → ∃ e47 : Nat, e47 + 1 ≤ d ∧ KC' X e47 MX6_passGuards [vR 79, vR p6, vI y18, vI y24] κ27 (kRV fun  κ50 => K X d MX6_run 152 [(0, vR 79), (1, vI x1), (2, vR p6)] [] κ50 Q)))))) ∧ (¬ (kI κ7 79 14) = 0 → (isH κ7 p6 10) ∧ ∃ e52 : Nat, e52 + 1 ≤ d ∧ KC' X e52 MX6_unwind [vR 79, vR p6] κ7 (kRV fun  κ56 => K X d MX6_run 152 [(0, vR 79), (1, vI x1), (2, vR p6)] [] κ56 Q)))) ∧ (¬ (kI κ7 79 17) = 0 → (isH κ7 p6 10) ∧ ∃ e58 : Nat, e58 + 1 ≤ d ∧ KC' X e58 MX6_spend [vR 79, vR p6] κ7 (kRV fun  κ62 => K X d MX6_run 152 [(0, vR 79), (1, vI x1), (2, vR p6)] [] κ62 Q))))))))))) : K X d MX6_run 2 [(0, vR 79), (1, vI x1)] [] κ Q := by
  refine K_p (pc2 := 3) (lv2 := [(0, vR 79), (1, vI _)]) (st2 := [vI _]) (fun ad S Q _ k => V_iload_n (pc2 := 3) (dk D_X6_run 2 rfl) rfl (V_lg 1 rfl) rfl k) ?_
  refine K_p (pc2 := 5) (lv2 := [(0, vR 79), (1, vI _)]) (st2 := [vI _, vI _]) (fun ad S Q _ k => V_ldci (x := 200000000) (pc2 := 5) (dk D_X6_run 3 rfl) ki_6_168 rfl k) ?_
  refine K_if (pa := 158) (pb := 8) (lv2 := [(0, vR 79), (1, vI _)]) (st2 := []) (fun ad S Q _ k1 k2 => V_cmpge (tgt := 158) (pc2 := 8) (dk D_X6_run 4 rfl) (by decide) rfl (fun q => k1 q) (fun q => k2 q)) (fun q1 => ?_) (fun q1 => ?_)
  · have h := h.1 q1
    exact h
  · have h := h.2 q1
    refine K_p (pc2 := 9) (lv2 := [(0, vR 79), (1, vI _)]) (st2 := [vR 79]) (fun ad S Q _ k => V_aload_n (pc2 := 9) (dk D_X6_run 5 rfl) rfl (V_lg 0 rfl) rfl k) ?_
    refine K_getI kc6 (pc2 := 12) 13 (dk D_X6_run 6 rfl) fl_6_74 (by decide) (fun _ _ => rfl) rfl (fixH 79 6 (by decide) rfl) ?_
    refine K_if (pa := 158) (pb := 15) (lv2 := [(0, vR 79), (1, vI _)]) (st2 := []) (fun ad S Q _ k1 k2 => V_ifeq (tgt := 158) (pc2 := 15) (dk D_X6_run 7 rfl) (by decide) rfl (fun q => k1 q) (fun q => k2 q)) (fun q2 => ?_) (fun q2 => ?_)
    · have h := h.1 q2
      exact h
    · have h := h.2 q2
      refine K_p (pc2 := 16) (lv2 := [(0, vR 79), (1, vI _)]) (st2 := [vR 79]) (fun ad S Q _ k => V_aload_n (pc2 := 16) (dk D_X6_run 8 rfl) rfl (V_lg 0 rfl) rfl k) ?_
      refine K_p (pc2 := 17) (lv2 := [(0, vR 79), (1, vI _)]) (st2 := [vR 79, vR 79]) (fun ad S Q _ k => V_aload_n (pc2 := 17) (dk D_X6_run 9 rfl) rfl (V_lg 0 rfl) rfl k) ?_
      refine K_getI kc6 (pc2 := 20) 13 (dk D_X6_run 10 rfl) fl_6_74 (by decide) (fun _ _ => rfl) rfl (fixH 79 6 (by decide) rfl) ?_
      obtain ⟨e3, he4, hc5⟩ := h
      refine K_call (as := [vR 79, vI _]) (st := []) (pc2 := 23) (okL.all _ ⟨(Or.inr ⟨Or.inl ⟨by decide, by decide⟩, by decide⟩), trivial, trivial⟩) (okS.all _ trivial) (fun ad S Q Qc hC hc k => V_callV (as := [_]) (st := []) (M' := MX6_find) (ci := 6) (pc2 := 23) (dk D_X6_run 11 rfl) ml_6_106 mv_X6_find rfl rfl (by decide) rfl (Nat.le_of_ble_eq_true rfl) rfl he4 (hC.k' (fixH 79 6 (by decide) rfl)) hc k) hc5 (kRR.k fun p6 κ7 h mo8 => ?_)
      refine K_p (pc2 := 24) (lv2 := [(0, vR 79), (1, vI _), (2, vR _)]) (st2 := []) (fun ad S Q _ k => V_astore_n (pc2 := 24) (lv2 := [(0, _), (1, _), (2, _)]) (dk D_X6_run 12 rfl) rfl (by decide) rfl rfl k) ?_
      refine K_p (pc2 := 25) (lv2 := [(0, vR 79), (1, vI _), (2, vR _)]) (st2 := [vR _]) (fun ad S Q _ k => V_aload_n (pc2 := 25) (dk D_X6_run 13 rfl) rfl (V_lg 2 rfl) rfl k) ?_
      obtain ⟨h10, h⟩ := h
      refine K_ifnonnull (tgt := 36) (pc2 := 28) (dk D_X6_run 14 rfl) (by decide) rfl h10 (fun q9 => ?_) (fun q9 => ?_)
      · have h := h.1 q9
        refine K_p (pc2 := 29) (lv2 := [(0, vR 79), (1, vI _), (2, vR _)]) (st2 := [vR 79]) (fun ad S Q _ k => V_aload_n (pc2 := 29) (dk D_X6_run 15 rfl) rfl (V_lg 0 rfl) rfl k) ?_
        refine K_p (pc2 := 30) (lv2 := [(0, vR 79), (1, vI _), (2, vR _)]) (st2 := [vI _, vR 79]) (fun ad S Q _ k => V_iconst (x := 0) (pc2 := 30) (dk D_X6_run 16 rfl) (by decide) rfl k) ?_
        refine K_putI kc6 (pc2 := 33) 13 (dk D_X6_run 17 rfl) fl_6_74 (by decide) (Or.inl rfl) rfl rfl (fixH 79 6 (by decide) rfl) (by decide) ?_
        have h := h _ rfl
        refine K_p (pc2 := 152) (lv2 := [(0, vR 79), (1, vI _), (2, vR _)]) (st2 := []) (fun ad S Q _ k => V_goto (tgt := 152) (dk D_X6_run 18 rfl) (by decide) k) ?_
        exact h
      · have h := h.2 q9
        refine K_p (pc2 := 37) (lv2 := [(0, vR 79), (1, vI _), (2, vR _)]) (st2 := [vR 79]) (fun ad S Q _ k => V_aload_n (pc2 := 37) (dk D_X6_run 19 rfl) rfl (V_lg 0 rfl) rfl k) ?_
        refine K_getI kc6 (pc2 := 40) 17 (dk D_X6_run 20 rfl) fl_6_86 (by decide) (fun _ _ => rfl) rfl (fixH 79 6 (by decide) rfl) ?_
        refine K_if (pa := 51) (pb := 43) (lv2 := [(0, vR 79), (1, vI _), (2, vR _)]) (st2 := []) (fun ad S Q _ k1 k2 => V_ifeq (tgt := 51) (pc2 := 43) (dk D_X6_run 21 rfl) (by decide) rfl (fun q => k1 q) (fun q => k2 q)) (fun q12 => ?_) (fun q12 => ?_)
        · have h := h.1 q12
          refine K_p (pc2 := 52) (lv2 := [(0, vR 79), (1, vI _), (2, vR _)]) (st2 := [vR 79]) (fun ad S Q _ k => V_aload_n (pc2 := 52) (dk D_X6_run 26 rfl) rfl (V_lg 0 rfl) rfl k) ?_
          refine K_getI kc6 (pc2 := 55) 14 (dk D_X6_run 27 rfl) fl_6_77 (by decide) (fun _ _ => rfl) rfl (fixH 79 6 (by decide) rfl) ?_
          refine K_if (pa := 66) (pb := 58) (lv2 := [(0, vR 79), (1, vI _), (2, vR _)]) (st2 := []) (fun ad S Q _ k1 k2 => V_ifeq (tgt := 66) (pc2 := 58) (dk D_X6_run 28 rfl) (by decide) rfl (fun q => k1 q) (fun q => k2 q)) (fun q13 => ?_) (fun q13 => ?_)
          · have h := h.1 q13
            refine K_p (pc2 := 67) (lv2 := [(0, vR 79), (1, vI _), (2, vR _)]) (st2 := [vR 79]) (fun ad S Q _ k => V_aload_n (pc2 := 67) (dk D_X6_run 33 rfl) rfl (V_lg 0 rfl) rfl k) ?_
            refine K_getF kc6 (h' := 68) (pc2 := 70) 4 (by decide) (dk D_X6_run 34 rfl) fl_6_53 (by decide) (fun _ _ => rfl) rfl (fixH 79 6 (by decide) rfl) (by decide) ?_
            refine K_p (pc2 := 71) (lv2 := [(0, vR 79), (1, vI _), (2, vR _)]) (st2 := [vR _, vR 68]) (fun ad S Q _ k => V_aload_n (pc2 := 71) (dk D_X6_run 35 rfl) rfl (V_lg 2 rfl) rfl k) ?_
            obtain ⟨h14, h⟩ := h
            refine K_getI kc10 (pc2 := 74) 9 (dk D_X6_run 36 rfl) fl_6_175 (by decide) (fun _ _ => rfl) rfl h14 ?_
            obtain ⟨e15, he16, hc17⟩ := h
            refine K_call (as := [vR 68, vI _]) (st := []) (pc2 := 77) (okL.all _ ⟨(Or.inr ⟨Or.inl ⟨by decide, by decide⟩, by decide⟩), trivial, (isH.ok h14 (by decide)), trivial⟩) (okS.all _ trivial) (fun ad S Q Qc hC hc k => V_callV (as := [_]) (st := []) (M' := MX1_act) (ci := 1) (pc2 := 77) (dk D_X6_run 37 rfl) ml_6_178 mv_X1_act rfl rfl (by decide) rfl (Nat.le_of_ble_eq_true rfl) rfl he16 (hC.k' (fixH 68 1 (by decide) rfl)) hc k) hc17 (kRI.k fun y18 κ19 h mo20 => ?_)
            refine K_p (pc2 := 78) (lv2 := [(0, vR 79), (1, vI _), (2, vR _), (3, vI _)]) (st2 := []) (fun ad S Q _ k => V_istore_n (pc2 := 78) (lv2 := [(0, _), (1, _), (2, _), (3, _)]) (dk D_X6_run 38 rfl) rfl (by decide) rfl rfl k) ?_
            refine K_p (pc2 := 79) (lv2 := [(0, vR 79), (1, vI _), (2, vR _), (3, vI _)]) (st2 := [vR 79]) (fun ad S Q _ k => V_aload_n (pc2 := 79) (dk D_X6_run 39 rfl) rfl (V_lg 0 rfl) rfl k) ?_
            refine K_getF kc6 (h' := 68) (pc2 := 82) 4 (by decide) (dk D_X6_run 40 rfl) fl_6_53 (by decide) (fun _ _ => rfl) rfl (fixH 79 6 (by decide) rfl) (by decide) ?_
            refine K_p (pc2 := 83) (lv2 := [(0, vR 79), (1, vI _), (2, vR _), (3, vI _)]) (st2 := [vR _, vR 68]) (fun ad S Q _ k => V_aload_n (pc2 := 83) (dk D_X6_run 41 rfl) rfl (V_lg 2 rfl) rfl k) ?_
            refine K_getI kc10 (pc2 := 86) 9 (dk D_X6_run 42 rfl) fl_6_175 (by decide) (fun _ _ => rfl) rfl (isH.mo h14 (by decide) mo20) ?_
            obtain ⟨e21, he22, hc23⟩ := h
            refine K_call (as := [vR 68, vI _]) (st := []) (pc2 := 89) (okL.all _ ⟨(Or.inr ⟨Or.inl ⟨by decide, by decide⟩, by decide⟩), trivial, (isH.ok (isH.mo h14 (by decide) mo20) (by decide)), trivial, trivial⟩) (okS.all _ trivial) (fun ad S Q Qc hC hc k => V_callV (as := [_]) (st := []) (M' := MX1_argument) (ci := 1) (pc2 := 89) (dk D_X6_run 43 rfl) ml_6_183 mv_X1_argument rfl rfl (by decide) rfl (Nat.le_of_ble_eq_true rfl) rfl he22 (hC.k' (fixH 68 1 (by decide) rfl)) hc k) hc23 (kRI.k fun y24 κ25 h mo26 => ?_)
            refine K_p (pc2 := 91) (lv2 := [(0, vR 79), (1, vI _), (2, vR _), (3, vI _), (4, vI _)]) (st2 := []) (fun ad S Q _ k => V_istore (pc2 := 91) (lv2 := [(0, _), (1, _), (2, _), (3, _), (4, _)]) (dk D_X6_run 44 rfl) (by decide) rfl rfl k) ?_
            refine K_p (pc2 := 92) (lv2 := [(0, vR 79), (1, vI _), (2, vR _), (3, vI _), (4, vI _)]) (st2 := [vR _]) (fun ad S Q _ k => V_aload_n (pc2 := 92) (dk D_X6_run 45 rfl) rfl (V_lg 2 rfl) rfl k) ?_
            refine K_p (pc2 := 93) (lv2 := [(0, vR 79), (1, vI _), (2, vR _), (3, vI _), (4, vI _)]) (st2 := [vR _, vR _]) (fun ad S Q _ k => V_dup (pc2 := 93) (dk D_X6_run 46 rfl) rfl rfl k) ?_
            refine K_getI kc10 (pc2 := 96) 9 (dk D_X6_run 47 rfl) fl_6_175 (by decide) (fun _ _ => rfl) rfl (isH.mo (isH.mo h14 (by decide) mo20) (by decide) mo26) ?_
            refine K_p (pc2 := 97) (lv2 := [(0, vR 79), (1, vI _), (2, vR _), (3, vI _), (4, vI _)]) (st2 := [vI _, vI _, vR _]) (fun ad S Q _ k => V_iconst (x := 1) (pc2 := 97) (dk D_X6_run 48 rfl) (by decide) rfl k) ?_
            refine K_p (pc2 := 98) (lv2 := [(0, vR 79), (1, vI _), (2, vR _), (3, vI _), (4, vI _)]) (st2 := [vI _, vR _]) (fun ad S Q _ k => V_iadd (pc2 := 98) (dk D_X6_run 49 rfl) rfl k) ?_
            refine K_putI kc10 (pc2 := 101) 9 (dk D_X6_run 50 rfl) fl_6_175 (by decide) (Or.inl rfl) rfl rfl (isH.mo (isH.mo h14 (by decide) mo20) (by decide) mo26) (isH.n69 (isH.mo (isH.mo h14 (by decide) mo20) (by decide) mo26) (by decide)) ?_
            have h := h _ rfl
            refine K_p (pc2 := 102) (lv2 := [(0, vR 79), (1, vI _), (2, vR _), (3, vI _), (4, vI _)]) (st2 := [vI _]) (fun ad S Q _ k => V_iload_n (pc2 := 102) (dk D_X6_run 51 rfl) rfl (V_lg 3 rfl) rfl k) ?_
            refine K_p (pc2 := 104) (lv2 := [(0, vR 79), (1, vI _), (2, vR _), (3, vI _), (4, vI _)]) (st2 := [vI _, vI _]) (fun ad S Q _ k => V_bipush (x := 40) (pc2 := 104) (dk D_X6_run 52 rfl) (by decide) rfl k) ?_
            refine K_if (pa := 118) (pb := 107) (lv2 := [(0, vR 79), (1, vI _), (2, vR _), (3, vI _), (4, vI _)]) (st2 := []) (fun ad S Q _ k1 k2 => V_cmplt (tgt := 118) (pc2 := 107) (dk D_X6_run 53 rfl) (by decide) rfl (fun q => k1 q) (fun q => k2 q)) (fun q28 => ?_) (fun q28 => ?_)
            · have h := h.1 q28
              refine K_p (pc2 := 119) (lv2 := [(0, vR 79), (1, vI _), (2, vR _), (3, vI _), (4, vI _)]) (st2 := [vI _]) (fun ad S Q _ k => V_iload_n (pc2 := 119) (dk D_X6_run 60 rfl) rfl (V_lg 3 rfl) rfl k) ?_
              refine K_p (pc2 := 121) (lv2 := [(0, vR 79), (1, vI _), (2, vR _), (3, vI _), (4, vI _)]) (st2 := [vI _, vI _]) (fun ad S Q _ k => V_bipush (x := 20) (pc2 := 121) (dk D_X6_run 61 rfl) (by decide) rfl k) ?_
              refine K_if (pa := 135) (pb := 124) (lv2 := [(0, vR 79), (1, vI _), (2, vR _), (3, vI _), (4, vI _)]) (st2 := []) (fun ad S Q _ k1 k2 => V_cmplt (tgt := 135) (pc2 := 124) (dk D_X6_run 62 rfl) (by decide) rfl (fun q => k1 q) (fun q => k2 q)) (fun q29 => ?_) (fun q29 => ?_)
              · have h := h.1 q29
                refine K_p (pc2 := 136) (lv2 := [(0, vR 79), (1, vI _), (2, vR _), (3, vI _), (4, vI _)]) (st2 := [vR _]) (fun ad S Q _ k => V_aload_n (pc2 := 136) (dk D_X6_run 69 rfl) rfl (V_lg 2 rfl) rfl k) ?_
                refine K_p (pc2 := 137) (lv2 := [(0, vR 79), (1, vI _), (2, vR _), (3, vI _), (4, vI _)]) (st2 := [vI _, vR _]) (fun ad S Q _ k => V_iload_n (pc2 := 137) (dk D_X6_run 70 rfl) rfl (V_lg 3 rfl) rfl k) ?_
                refine K_p (pc2 := 139) (lv2 := [(0, vR 79), (1, vI _), (2, vR _), (3, vI _), (4, vI _)]) (st2 := [vI _, vI _, vR _]) (fun ad S Q _ k => V_iload (pc2 := 139) (dk D_X6_run 71 rfl) (V_lg 4 rfl) rfl k) ?_
                obtain ⟨e30, he31, hc32⟩ := h
                refine K_call (as := [vR _, vI _, vI _]) (st := []) (pc2 := 142) (okL.all _ ⟨(Or.inr ⟨Or.inl ⟨by decide, by decide⟩, by decide⟩), trivial, (isH.ok (isH.mo (isH.mo h14 (by decide) mo20) (by decide) mo26) (by decide)), trivial, trivial, trivial⟩) (okS.all _ trivial) (fun ad S Q Qc hC hc k => V_callV (as := [_, _]) (st := []) (M' := MX10_work) (ci := 10) (pc2 := 142) (dk D_X6_run 72 rfl) ml_6_191 mv_X10_work rfl rfl (by decide) rfl (Nat.le_of_ble_eq_true rfl) rfl he31 (hC.k' (isH.mo (isH.mo h14 (by decide) mo20) (by decide) mo26)) hc k) hc32 (kRI.k fun y33 κ34 h mo35 => ?_)
                refine K_if (pa := 145) (pb := 152) (lv2 := [(0, vR 79), (1, vI _), (2, vR _), (3, vI _), (4, vI _)]) (st2 := []) (fun ad S Q _ k1 k2 => V_ifne (tgt := 152) (pc2 := 145) (dk D_X6_run 73 rfl) (by decide) rfl (fun q => k2 q) (fun q => k1 q)) (fun q36 => ?_) (fun q36 => ?_)
                · have h := h.1 q36
                  refine K_p (pc2 := 146) (lv2 := [(0, vR 79), (1, vI _), (2, vR _), (3, vI _), (4, vI _)]) (st2 := [vR 79]) (fun ad S Q _ k => V_aload_n (pc2 := 146) (dk D_X6_run 74 rfl) rfl (V_lg 0 rfl) rfl k) ?_
                  refine K_p (pc2 := 147) (lv2 := [(0, vR 79), (1, vI _), (2, vR _), (3, vI _), (4, vI _)]) (st2 := [vR _, vR 79]) (fun ad S Q _ k => V_aload_n (pc2 := 147) (dk D_X6_run 75 rfl) rfl (V_lg 2 rfl) rfl k) ?_
                  refine K_p (pc2 := 149) (lv2 := [(0, vR 79), (1, vI _), (2, vR _), (3, vI _), (4, vI _)]) (st2 := [vI _, vR _, vR 79]) (fun ad S Q _ k => V_bipush (x := 11) (pc2 := 149) (dk D_X6_run 76 rfl) (by decide) rfl k) ?_
                  obtain ⟨e37, he38, hc39⟩ := h
                  refine K_call (as := [vR 79, vR _, vI _]) (st := []) (pc2 := 152) (okL.all _ ⟨(Or.inr ⟨Or.inl ⟨by decide, by decide⟩, by decide⟩), trivial, (isH.ok (isH.mo (isH.mo (isH.mo h14 (by decide) mo20) (by decide) mo26) (by decide) mo35) (by decide)), trivial, trivial, trivial⟩) (okS.all _ trivial) (fun ad S Q Qc hC hc k => V_callV (as := [_, _]) (st := []) (M' := MX6_raise) (ci := 6) (pc2 := 152) (dk D_X6_run 77 rfl) ml_6_195 mv_X6_raise rfl rfl (by decide) rfl (Nat.le_of_ble_eq_true rfl) rfl he38 (hC.k' (fixH 79 6 (by decide) rfl)) hc k) hc39 (kRV.k fun  κ40 h mo41 => ?_)
                  refine K_p (pc2 := 152) (lv2 := [(0, vR 79), (1, vI _), (2, vR _)]) (st2 := []) (fun ad S Q _ k => V_pick [0, 1, 2] (lv2 := [(0, _), (1, _), (2, _)]) rfl k) ?_
                  exact h
                · have h := h.2 q36
                  refine K_p (pc2 := 152) (lv2 := [(0, vR 79), (1, vI _), (2, vR _)]) (st2 := []) (fun ad S Q _ k => V_pick [0, 1, 2] (lv2 := [(0, _), (1, _), (2, _)]) rfl k) ?_
                  exact h
              · have h := h.2 q29
                refine K_p (pc2 := 125) (lv2 := [(0, vR 79), (1, vI _), (2, vR _), (3, vI _), (4, vI _)]) (st2 := [vR 79]) (fun ad S Q _ k => V_aload_n (pc2 := 125) (dk D_X6_run 63 rfl) rfl (V_lg 0 rfl) rfl k) ?_
                refine K_p (pc2 := 126) (lv2 := [(0, vR 79), (1, vI _), (2, vR _), (3, vI _), (4, vI _)]) (st2 := [vR _, vR 79]) (fun ad S Q _ k => V_aload_n (pc2 := 126) (dk D_X6_run 64 rfl) rfl (V_lg 2 rfl) rfl k) ?_
                refine K_p (pc2 := 127) (lv2 := [(0, vR 79), (1, vI _), (2, vR _), (3, vI _), (4, vI _)]) (st2 := [vI _, vR _, vR 79]) (fun ad S Q _ k => V_iload_n (pc2 := 127) (dk D_X6_run 65 rfl) rfl (V_lg 3 rfl) rfl k) ?_
                refine K_p (pc2 := 129) (lv2 := [(0, vR 79), (1, vI _), (2, vR _), (3, vI _), (4, vI _)]) (st2 := [vI _, vI _, vR _, vR 79]) (fun ad S Q _ k => V_iload (pc2 := 129) (dk D_X6_run 66 rfl) (V_lg 4 rfl) rfl k) ?_
                obtain ⟨e42, he43, hc44⟩ := h
                refine K_call (as := [vR 79, vR _, vI _, vI _]) (st := []) (pc2 := 132) (okL.all _ ⟨(Or.inr ⟨Or.inl ⟨by decide, by decide⟩, by decide⟩), trivial, (isH.ok (isH.mo (isH.mo h14 (by decide) mo20) (by decide) mo26) (by decide)), trivial, trivial, trivial⟩) (okS.all _ trivial) (fun ad S Q Qc hC hc k => V_callV (as := [_, _, _]) (st := []) (M' := MX6_playPart) (ci := 6) (pc2 := 132) (dk D_X6_run 67 rfl) ml_6_188 mv_X6_playPart rfl rfl (by decide) rfl (Nat.le_of_ble_eq_true rfl) rfl he43 (hC.k' (fixH 79 6 (by decide) rfl)) hc k) hc44 (kRV.k fun  κ45 h mo46 => ?_)
                refine K_p (pc2 := 152) (lv2 := [(0, vR 79), (1, vI _), (2, vR _), (3, vI _), (4, vI _)]) (st2 := []) (fun ad S Q _ k => V_goto (tgt := 152) (dk D_X6_run 68 rfl) (by decide) k) ?_
                refine K_p (pc2 := 152) (lv2 := [(0, vR 79), (1, vI _), (2, vR _)]) (st2 := []) (fun ad S Q _ k => V_pick [0, 1, 2] (lv2 := [(0, _), (1, _), (2, _)]) rfl k) ?_
                exact h
            · have h := h.2 q28
              refine K_p (pc2 := 108) (lv2 := [(0, vR 79), (1, vI _), (2, vR _), (3, vI _), (4, vI _)]) (st2 := [vR 79]) (fun ad S Q _ k => V_aload_n (pc2 := 108) (dk D_X6_run 54 rfl) rfl (V_lg 0 rfl) rfl k) ?_
              refine K_p (pc2 := 109) (lv2 := [(0, vR 79), (1, vI _), (2, vR _), (3, vI _), (4, vI _)]) (st2 := [vR _, vR 79]) (fun ad S Q _ k => V_aload_n (pc2 := 109) (dk D_X6_run 55 rfl) rfl (V_lg 2 rfl) rfl k) ?_
              refine K_p (pc2 := 110) (lv2 := [(0, vR 79), (1, vI _), (2, vR _), (3, vI _), (4, vI _)]) (st2 := [vI _, vR _, vR 79]) (fun ad S Q _ k => V_iload_n (pc2 := 110) (dk D_X6_run 56 rfl) rfl (V_lg 3 rfl) rfl k) ?_
              refine K_p (pc2 := 112) (lv2 := [(0, vR 79), (1, vI _), (2, vR _), (3, vI _), (4, vI _)]) (st2 := [vI _, vI _, vR _, vR 79]) (fun ad S Q _ k => V_iload (pc2 := 112) (dk D_X6_run 57 rfl) (V_lg 4 rfl) rfl k) ?_
              obtain ⟨e47, he48, hc49⟩ := h
              refine K_call (as := [vR 79, vR _, vI _, vI _]) (st := []) (pc2 := 115) (okL.all _ ⟨(Or.inr ⟨Or.inl ⟨by decide, by decide⟩, by decide⟩), trivial, (isH.ok (isH.mo (isH.mo h14 (by decide) mo20) (by decide) mo26) (by decide)), trivial, trivial, trivial⟩) (okS.all _ trivial) (fun ad S Q Qc hC hc k => V_callV (as := [_, _, _]) (st := []) (M' := MX6_passGuards) (ci := 6) (pc2 := 115) (dk D_X6_run 58 rfl) ml_6_185 mv_X6_passGuards rfl rfl (by decide) rfl (Nat.le_of_ble_eq_true rfl) rfl he48 (hC.k' (fixH 79 6 (by decide) rfl)) hc k) hc49 (kRV.k fun  κ50 h mo51 => ?_)
              refine K_p (pc2 := 152) (lv2 := [(0, vR 79), (1, vI _), (2, vR _), (3, vI _), (4, vI _)]) (st2 := []) (fun ad S Q _ k => V_goto (tgt := 152) (dk D_X6_run 59 rfl) (by decide) k) ?_
              refine K_p (pc2 := 152) (lv2 := [(0, vR 79), (1, vI _), (2, vR _)]) (st2 := []) (fun ad S Q _ k => V_pick [0, 1, 2] (lv2 := [(0, _), (1, _), (2, _)]) rfl k) ?_
              exact h
          · have h := h.2 q13
            refine K_p (pc2 := 59) (lv2 := [(0, vR 79), (1, vI _), (2, vR _)]) (st2 := [vR 79]) (fun ad S Q _ k => V_aload_n (pc2 := 59) (dk D_X6_run 29 rfl) rfl (V_lg 0 rfl) rfl k) ?_
            refine K_p (pc2 := 60) (lv2 := [(0, vR 79), (1, vI _), (2, vR _)]) (st2 := [vR _, vR 79]) (fun ad S Q _ k => V_aload_n (pc2 := 60) (dk D_X6_run 30 rfl) rfl (V_lg 2 rfl) rfl k) ?_
            obtain ⟨h55, h⟩ := h
            obtain ⟨e52, he53, hc54⟩ := h
            refine K_call (as := [vR 79, vR _]) (st := []) (pc2 := 63) (okL.all _ ⟨(Or.inr ⟨Or.inl ⟨by decide, by decide⟩, by decide⟩), trivial, (isH.ok h55 (by decide)), trivial⟩) (okS.all _ trivial) (fun ad S Q Qc hC hc k => V_callV (as := [_]) (st := []) (M' := MX6_unwind) (ci := 6) (pc2 := 63) (dk D_X6_run 31 rfl) ml_6_172 mv_X6_unwind rfl rfl (by decide) rfl (Nat.le_of_ble_eq_true rfl) rfl he53 (hC.k' (fixH 79 6 (by decide) rfl)) hc k) hc54 (kRV.k fun  κ56 h mo57 => ?_)
            refine K_p (pc2 := 152) (lv2 := [(0, vR 79), (1, vI _), (2, vR _)]) (st2 := []) (fun ad S Q _ k => V_goto (tgt := 152) (dk D_X6_run 32 rfl) (by decide) k) ?_
            exact h
        · have h := h.2 q12
          refine K_p (pc2 := 44) (lv2 := [(0, vR 79), (1, vI _), (2, vR _)]) (st2 := [vR 79]) (fun ad S Q _ k => V_aload_n (pc2 := 44) (dk D_X6_run 22 rfl) rfl (V_lg 0 rfl) rfl k) ?_
          refine K_p (pc2 := 45) (lv2 := [(0, vR 79), (1, vI _), (2, vR _)]) (st2 := [vR _, vR 79]) (fun ad S Q _ k => V_aload_n (pc2 := 45) (dk D_X6_run 23 rfl) rfl (V_lg 2 rfl) rfl k) ?_
          obtain ⟨h61, h⟩ := h
          obtain ⟨e58, he59, hc60⟩ := h
          refine K_call (as := [vR 79, vR _]) (st := []) (pc2 := 48) (okL.all _ ⟨(Or.inr ⟨Or.inl ⟨by decide, by decide⟩, by decide⟩), trivial, (isH.ok h61 (by decide)), trivial⟩) (okS.all _ trivial) (fun ad S Q Qc hC hc k => V_callV (as := [_]) (st := []) (M' := MX6_spend) (ci := 6) (pc2 := 48) (dk D_X6_run 24 rfl) ml_6_169 mv_X6_spend rfl rfl (by decide) rfl (Nat.le_of_ble_eq_true rfl) rfl he59 (hC.k' (fixH 79 6 (by decide) rfl)) hc k) hc60 (kRV.k fun  κ62 h mo63 => ?_)
          refine K_p (pc2 := 152) (lv2 := [(0, vR 79), (1, vI _), (2, vR _)]) (st2 := []) (fun ad S Q _ k => V_goto (tgt := 152) (dk D_X6_run 25 rfl) (by decide) k) ?_
          exact h
theorem k_6_run_152 {X : Cx} {d : Nat} {κ : Km} {Q : Res → Km → Prop} (x1 : Int32) (r2 : Nat) (h : K X d MX6_run 2 [(0, vR 79), (1, vI (x1 + 1))] [] κ Q) : K X d MX6_run 152 [(0, vR 79), (1, vI x1), (2, vR r2)] [] κ Q := by
  refine K_p (pc2 := 155) (lv2 := [(0, vR 79), (1, vI _), (2, vR _)]) (st2 := []) (fun ad S Q _ k => V_iinc (y := _ + 1) (pc2 := 155) (lv2 := [(0, _), (1, _), (2, _)]) (dk D_X6_run 78 rfl) (V_lg 1 rfl) rfl (by decide) rfl rfl k) ?_
  refine K_p (pc2 := 2) (lv2 := [(0, vR 79), (1, vI _), (2, vR _)]) (st2 := []) (fun ad S Q _ k => V_goto (tgt := 2) (dk D_X6_run 79 rfl) (by decide) k) ?_
  refine K_p (pc2 := 2) (lv2 := [(0, vR 79), (1, vI _)]) (st2 := []) (fun ad S Q _ k => V_pick [0, 1] (lv2 := [(0, _), (1, _)]) rfl k) ?_
  exact h
theorem k_6_run_158 {X : Cx} {d : Nat} {κ : Km} {Q : Res → Km → Prop} (x1 : Int32) (h : Q (.inl none) κ) : K X d MX6_run 158 [(0, vR 79), (1, vI x1)] [] κ Q := by
  exact K_ret (r := .inl none) (fun ad S Q _ k => V_return (dk D_X6_run 80 rfl) rfl k) h
theorem k_6_raise_0 {X : Cx} {d : Nat} {κ : Km} {Q : Res → Km → Prop} (r1 : Nat) (x2 : Int32) (h : (isH κ r1 10) ∧ ∃ e2 : Nat, e2 + 1 ≤ d ∧ KC' X e2 MX10_place [vR r1] κ (kRI fun y5 κ6 => ∃ e8 : Nat, e8 + 1 ≤ d ∧ KC' X e8 MX2_make [vR 84, vI x2, vI 0, vI (kI κ r1 0), vI y5, vI 0] κ6 (kRI fun y11 κ12 => ∀ κ14 : Km, κ14 = cI κ12 79 14 y11 → Q (.inl none) κ14))) : K X d MX6_raise 0 [(0, vR 79), (1, vR r1), (2, vI x2)] [] κ Q := by
  refine K_p (pc2 := 1) (lv2 := [(0, vR 79), (1, vR _), (2, vI _)]) (st2 := [vR 79]) (fun ad S Q _ k => V_aload_n (pc2 := 1) (dk D_X6_raise 0 rfl) rfl (V_lg 0 rfl) rfl k) ?_
  refine K_p (pc2 := 2) (lv2 := [(0, vR 79), (1, vR _), (2, vI _)]) (st2 := [vR 79, vR 79]) (fun ad S Q _ k => V_aload_n (pc2 := 2) (dk D_X6_raise 1 rfl) rfl (V_lg 0 rfl) rfl k) ?_
  refine K_getF kc6 (h' := 84) (pc2 := 5) 2 (by decide) (dk D_X6_raise 2 rfl) fl_6_24 (by decide) (fun _ _ => rfl) rfl (fixH 79 6 (by decide) rfl) (by decide) ?_
  refine K_p (pc2 := 6) (lv2 := [(0, vR 79), (1, vR _), (2, vI _)]) (st2 := [vI _, vR 84, vR 79]) (fun ad S Q _ k => V_iload_n (pc2 := 6) (dk D_X6_raise 3 rfl) rfl (V_lg 2 rfl) rfl k) ?_
  refine K_p (pc2 := 7) (lv2 := [(0, vR 79), (1, vR _), (2, vI _)]) (st2 := [vI _, vI _, vR 84, vR 79]) (fun ad S Q _ k => V_iconst (x := 0) (pc2 := 7) (dk D_X6_raise 4 rfl) (by decide) rfl k) ?_
  refine K_p (pc2 := 8) (lv2 := [(0, vR 79), (1, vR _), (2, vI _)]) (st2 := [vR _, vI _, vI _, vR 84, vR 79]) (fun ad S Q _ k => V_aload_n (pc2 := 8) (dk D_X6_raise 5 rfl) rfl (V_lg 1 rfl) rfl k) ?_
  obtain ⟨h1, h⟩ := h
  refine K_getI kc10 (pc2 := 11) 0 (dk D_X6_raise 6 rfl) fl_6_198 (by decide) (fun _ _ => rfl) rfl h1 ?_
  refine K_p (pc2 := 12) (lv2 := [(0, vR 79), (1, vR _), (2, vI _)]) (st2 := [vR _, vI _, vI _, vI _, vR 84, vR 79]) (fun ad S Q _ k => V_aload_n (pc2 := 12) (dk D_X6_raise 7 rfl) rfl (V_lg 1 rfl) rfl k) ?_
  obtain ⟨e2, he3, hc4⟩ := h
  refine K_call (as := [vR _]) (st := [vI _, vI _, vI _, vR 84, vR 79]) (pc2 := 15) (okL.all _ ⟨(Or.inr ⟨Or.inl ⟨by decide, by decide⟩, by decide⟩), (isH.ok h1 (by decide)), trivial, trivial⟩) (okS.all _ ⟨trivial, trivial, trivial, (Or.inr ⟨Or.inl ⟨by decide, by decide⟩, by decide⟩), (Or.inr ⟨Or.inl ⟨by decide, by decide⟩, by decide⟩), trivial⟩) (fun ad S Q Qc hC hc k => V_callV (as := []) (st := [_, _, _, _, _]) (M' := MX10_place) (ci := 10) (pc2 := 15) (dk D_X6_raise 8 rfl) ml_6_201 mv_X10_place rfl rfl (by decide) rfl (Nat.le_of_ble_eq_true rfl) rfl he3 (hC.k' h1) hc k) hc4 (kRI.k fun y5 κ6 h mo7 => ?_)
  refine K_p (pc2 := 16) (lv2 := [(0, vR 79), (1, vR _), (2, vI _)]) (st2 := [vI _, vI _, vI _, vI _, vI _, vR 84, vR 79]) (fun ad S Q _ k => V_iconst (x := 0) (pc2 := 16) (dk D_X6_raise 9 rfl) (by decide) rfl k) ?_
  obtain ⟨e8, he9, hc10⟩ := h
  refine K_call (as := [vR 84, vI _, vI _, vI _, vI _, vI _]) (st := [vR 79]) (pc2 := 19) (okL.all _ ⟨(Or.inr ⟨Or.inl ⟨by decide, by decide⟩, by decide⟩), (isH.ok (isH.mo h1 (by decide) mo7) (by decide)), trivial, trivial⟩) (okS.all _ ⟨(Or.inr ⟨Or.inl ⟨by decide, by decide⟩, by decide⟩), trivial⟩) (fun ad S Q Qc hC hc k => V_callV (as := [_, _, _, _, _]) (st := [_]) (M' := MX2_make) (ci := 2) (pc2 := 19) (dk D_X6_raise 10 rfl) ml_6_123 mv_X2_make rfl rfl (by decide) rfl (Nat.le_of_ble_eq_true rfl) rfl he9 (hC.k' (fixH 84 2 (by decide) rfl)) hc k) hc10 (kRI.k fun y11 κ12 h mo13 => ?_)
  refine K_putI kc6 (pc2 := 22) 14 (dk D_X6_raise 11 rfl) fl_6_77 (by decide) (Or.inl rfl) rfl rfl (fixH 79 6 (by decide) rfl) (by decide) ?_
  have h := h _ rfl
  exact K_ret (r := .inl none) (fun ad S Q _ k => V_return (dk D_X6_raise 12 rfl) rfl k) h
set_option maxRecDepth 100000 in
theorem k_6_playPart_0 {X : Cx} {d : Nat} {κ : Km} {Q : Res → Km → Prop} (r1 : Nat) (x2 : Int32) (x3 : Int32) (h : ((x2 = 20 → (isH κ r1 10) ∧ ∃ e39 : Nat, e39 + 1 ≤ d ∧ KC' X e39 MX6_step [vR 79, vR r1] κ (kRI fun y42 κ44 => ((y42 = 0 → K X d MX6_playPart 213 [(0, vR 79), (1, vR r1), (2, vI x2), (3, vI x3)] [] κ44 Q) ∧ (¬ y42 = 0 → ∃ e47 : Nat, e47 + 1 ≤ d ∧ KC' X e47 MX10_setPlace [vR r1, vI x3] κ44 (kRV fun  κ50 => K X d MX6_playPart 213 [(0, vR 79), (1, vR r1), (2, vI x2), (3, vI x3)] [] κ50 Q))))) ∧ (x2 = 21 → (isH κ r1 10) ∧ ∃ e53 : Nat, e53 + 1 ≤ d ∧ KC' X e53 MX10_pop [vR r1] κ (kRI fun y56 κ57 => ∃ e59 : Nat, e59 + 1 ≤ d ∧ KC' X e59 MX4_add [vR 80, vI (kI κ r1 0), vI y56] κ57 (kRV fun  κ62 => K X d MX6_playPart 213 [(0, vR 79), (1, vR r1), (2, vI x2), (3, vI x3)] [] κ62 Q))) ∧ (x2 = 22 → (isH κ r1 10) ∧ ∃ e64 : Nat, e64 + 1 ≤ d ∧ KC' X e64 MX10_pop [vR r1] κ (kRI fun y67 κ69 => ∃ e71 : Nat, e71 + 1 ≤ d ∧ KC' X e71 MX6_find [vR 79, vI y67] κ69 (kRR fun p74 κ75 => ∃ e77 : Nat, e77 + 1 ≤ d ∧ KC' X e77 MX6_stateOf [vR p74] κ75 (kRI fun y80 κ81 => ∃ e83 : Nat, e83 + 1 ≤ d ∧ KC' X e83 MX10_push [vR r1, vI y80] κ81 (kRV fun  κ86 => K X d MX6_playPart 213 [(0, vR 79), (1, vR r1), (2, vI x2), (3, vI x3)] [] κ86 Q))))) ∧ (x2 = 23 → (isH κ r1 10) ∧ ∃ e88 : Nat, e88 + 1 ≤ d ∧ KC' X e88 MX6_makeBy [vR 79, vR r1, vI x3] κ (kRV fun  κ92 => K X d MX6_playPart 213 [(0, vR 79), (1, vR r1), (2, vI x2), (3, vI x3)] [] κ92 Q)) ∧ (x2 = 24 → (isH κ r1 10) ∧ ∃ e94 : Nat, e94 + 1 ≤ d ∧ KC' X e94 MX6_callBy [vR 79, vR r1, vI x3] κ (kRV fun  κ98 => K X d MX6_playPart 213 [(0, vR 79), (1, vR r1), (2, vI x2), (3, vI x3)] [] κ98 Q)) ∧ (x2 = 25 → (isH κ r1 10) ∧ ∃ e100 : Nat, e100 + 1 ≤ d ∧ KC' X e100 MX10_pop [vR r1] κ (kRI fun y103 κ105 => ∃ e107 : Nat, e107 + 1 ≤ d ∧ KC' X e107 MX6_yieldBy [vR 79, vR r1, vI y103] κ105 (kRV fun  κ110 => K X d MX6_playPart 213 [(0, vR 79), (1, vR r1), (2, vI x2), (3, vI x3)] [] κ110 Q))) ∧ (x2 = 26 → (isH κ r1 10) ∧ ∃ e112 : Nat, e112 + 1 ≤ d ∧ KC' X e112 MX10_pop [vR r1] κ (kRI fun y115 κ117 => ∃ e119 : Nat, e119 + 1 ≤ d ∧ KC' X e119 MX10_pop [vR r1] κ117 (kRI fun y122 κ123 => ∃ e125 : Nat, e125 + 1 ≤ d ∧ KC' X e125 MX6_find [vR 79, vI y122] κ123 (kRR fun p128 κ129 => ∃ e131 : Nat, e131 + 1 ≤ d ∧ KC' X e131 MX6_resumeBy [vR 79, vR r1, vR p128, vI y115] κ129 (kRV fun  κ134 => K X d MX6_playPart 213 [(0, vR 79), (1, vR r1), (2, vI x2), (3, vI x3)] [] κ134 Q))))) ∧ (x2 = 27 → (isH κ r1 10) ∧ ∃ e136 : Nat, e136 + 1 ≤ d ∧ KC' X e136 MX6_injectBy [vR 79, vR r1, vI x3] κ (kRV fun  κ140 => K X d MX6_playPart 213 [(0, vR 79), (1, vR r1), (2, vI x2), (3, vI x3)] [] κ140 Q)) ∧ (x2 = 28 → (isH κ r1 10) ∧ ∃ e142 : Nat, e142 + 1 ≤ d ∧ KC' X e142 MX6_handBy [vR 79, vR r1] κ (kRV fun  κ146 => K X d MX6_playPart 213 [(0, vR 79), (1, vR r1), (2, vI x2), (3, vI x3)] [] κ146 Q)) ∧ (x2 = 30 → (isH κ r1 10) ∧ ∃ e148 : Nat, e148 + 1 ≤ d ∧ KC' X e148 MX10_peek [vR r1] κ (kRI fun y151 κ153 => ∃ e155 : Nat, e155 + 1 ≤ d ∧ KC' X e155 MX6_find [vR 79, vI y151] κ153 (kRR fun p158 κ159 => ∃ e161 : Nat, e161 + 1 ≤ d ∧ KC' X e161 MX6_resumeBy [vR 79, vR r1, vR p158, vI 0] κ159 (kRV fun  κ164 => K X d MX6_playPart 213 [(0, vR 79), (1, vR r1), (2, vI x2), (3, vI x3)] [] κ164 Q)))) ∧ (¬ (x2 = 20 ∨ x2 = 21 ∨ x2 = 22 ∨ x2 = 23 ∨ x2 = 24 ∨ x2 = 25 ∨ x2 = 26 ∨ x2 = 27 ∨ x2 = 28 ∨ x2 = 30) → (isH κ r1 10) ∧ ∃ e3 : Nat, e3 + 1 ≤ d ∧ KC' X e3 MX10_pop [vR r1] κ (kRI fun y6 κ8 => ∃ e10 : Nat, e10 + 1 ≤ d ∧ KC' X e10 MX6_find [vR 79, vI y6] κ8 (kRR fun p13 κ14 => ∃ e16 : Nat, e16 + 1 ≤ d ∧ KC' X e16 MX6_closeBy [vR 79, vR r1, vR p13] κ14 (kRV fun  κ19 => K X d MX6_playPart 213 [(0, vR 79), (1, vR r1), (2, vI x2), (3, vI x3)] [] κ19 Q)))))) : K X d MX6_playPart 0 [(0, vR 79), (1, vR r1), (2, vI x2), (3, vI x3)] [] κ Q := by
  refine K_p (pc2 := 1) (lv2 := [(0, vR 79), (1, vR _), (2, vI _), (3, vI _)]) (st2 := [vI _]) (fun ad S Q _ k => V_iload_n (pc2 := 1) (dk D_X6_playPart 0 rfl) rfl (V_lg 2 rfl) rfl k) ?_
  refine K_table (dk D_X6_playPart 1 rfl) [60, 76, 94, 112, 121, 130, 142, 183, 192, 200, 166] 200 (by decide) (by decide) rfl (by decide) (fun q1 => ?_) (fun j2 hj q1 => ?_)
  · have h := h.2.2.2.2.2.2.2.2.2.2 (by rintro (hk | hk | hk | hk | hk | hk | hk | hk | hk | hk) <;> (rw [hk] at q1; revert q1; decide))
    refine K_p (pc2 := 201) (lv2 := [(0, vR 79), (1, vR _), (2, vI _), (3, vI _)]) (st2 := [vR 79]) (fun ad S Q _ k => V_aload_n (pc2 := 201) (dk D_X6_playPart 72 rfl) rfl (V_lg 0 rfl) rfl k) ?_
    refine K_p (pc2 := 202) (lv2 := [(0, vR 79), (1, vR _), (2, vI _), (3, vI _)]) (st2 := [vR _, vR 79]) (fun ad S Q _ k => V_aload_n (pc2 := 202) (dk D_X6_playPart 73 rfl) rfl (V_lg 1 rfl) rfl k) ?_
    refine K_p (pc2 := 203) (lv2 := [(0, vR 79), (1, vR _), (2, vI _), (3, vI _)]) (st2 := [vR 79, vR _, vR 79]) (fun ad S Q _ k => V_aload_n (pc2 := 203) (dk D_X6_playPart 74 rfl) rfl (V_lg 0 rfl) rfl k) ?_
    refine K_p (pc2 := 204) (lv2 := [(0, vR 79), (1, vR _), (2, vI _), (3, vI _)]) (st2 := [vR _, vR 79, vR _, vR 79]) (fun ad S Q _ k => V_aload_n (pc2 := 204) (dk D_X6_playPart 75 rfl) rfl (V_lg 1 rfl) rfl k) ?_
    obtain ⟨h25, h⟩ := h
    obtain ⟨e21, he22, hc23⟩ := h
    refine K_call (as := [vR _]) (st := [vR 79, vR _, vR 79]) (pc2 := 207) (okL.all _ ⟨(Or.inr ⟨Or.inl ⟨by decide, by decide⟩, by decide⟩), (isH.ok h25 (by decide)), trivial, trivial, trivial⟩) (okS.all _ ⟨(Or.inr ⟨Or.inl ⟨by decide, by decide⟩, by decide⟩), (isH.ok h25 (by decide)), (Or.inr ⟨Or.inl ⟨by decide, by decide⟩, by decide⟩), trivial⟩) (fun ad S Q Qc hC hc k => V_callV (as := []) (st := [_, _, _]) (M' := MX10_pop) (ci := 10) (pc2 := 207) (dk D_X6_playPart 76 rfl) ml_6_212 mv_X10_pop rfl rfl (by decide) rfl (Nat.le_of_ble_eq_true rfl) rfl he22 (hC.k' h25) hc k) hc23 (kRI.k fun y24 κ26 h mo27 => ?_)
    obtain ⟨e28, he29, hc30⟩ := h
    refine K_call (as := [vR 79, vI _]) (st := [vR _, vR 79]) (pc2 := 210) (okL.all _ ⟨(Or.inr ⟨Or.inl ⟨by decide, by decide⟩, by decide⟩), (isH.ok (isH.mo h25 (by decide) mo27) (by decide)), trivial, trivial, trivial⟩) (okS.all _ ⟨(isH.ok (isH.mo h25 (by decide) mo27) (by decide)), (Or.inr ⟨Or.inl ⟨by decide, by decide⟩, by decide⟩), trivial⟩) (fun ad S Q Qc hC hc k => V_callV (as := [_]) (st := [_, _]) (M' := MX6_find) (ci := 6) (pc2 := 210) (dk D_X6_playPart 77 rfl) ml_6_106 mv_X6_find rfl rfl (by decide) rfl (Nat.le_of_ble_eq_true rfl) rfl he29 (hC.k' (fixH 79 6 (by decide) rfl)) hc k) hc30 (kRR.k fun p31 κ32 h mo33 => ?_)
    obtain ⟨e34, he35, hc36⟩ := h
    refine K_call (as := [vR 79, vR _, vR _]) (st := []) (pc2 := 213) (okL.all _ ⟨(Or.inr ⟨Or.inl ⟨by decide, by decide⟩, by decide⟩), (isH.ok (isH.mo (isH.mo h25 (by decide) mo27) (by decide) mo33) (by decide)), trivial, trivial, trivial⟩) (okS.all _ trivial) (fun ad S Q Qc hC hc k => V_callV (as := [_, _]) (st := []) (M' := MX6_closeBy) (ci := 6) (pc2 := 213) (dk D_X6_playPart 78 rfl) ml_6_248 mv_X6_closeBy rfl rfl (by decide) rfl (Nat.le_of_ble_eq_true rfl) rfl he35 (hC.k' (fixH 79 6 (by decide) rfl)) hc k) hc36 (kRV.k fun  κ37 h mo38 => ?_)
    exact h
  · have hj2 : j2 = 0 ∨ j2 = 1 ∨ j2 = 2 ∨ j2 = 3 ∨ j2 = 4 ∨ j2 = 5 ∨ j2 = 6 ∨ j2 = 7 ∨ j2 = 8 ∨ j2 = 9 ∨ j2 = 10 := by simp at hj; omega
    clear hj
    rcases hj2 with rfl | rfl | rfl | rfl | rfl | rfl | rfl | rfl | rfl | rfl | rfl
    · have hx : x2 = 20 := Int32.toInt_inj.mp (by rw [q1]; decide)
      have h := h.1 hx
      refine K_p (pc2 := 61) (lv2 := [(0, vR 79), (1, vR _), (2, vI _), (3, vI _)]) (st2 := [vR 79]) (fun ad S Q _ k => V_aload_n (pc2 := 61) (dk D_X6_playPart 2 rfl) rfl (V_lg 0 rfl) rfl k) ?_
      refine K_p (pc2 := 62) (lv2 := [(0, vR 79), (1, vR _), (2, vI _), (3, vI _)]) (st2 := [vR _, vR 79]) (fun ad S Q _ k => V_aload_n (pc2 := 62) (dk D_X6_playPart 3 rfl) rfl (V_lg 1 rfl) rfl k) ?_
      obtain ⟨h43, h⟩ := h
      obtain ⟨e39, he40, hc41⟩ := h
      refine K_call (as := [vR 79, vR _]) (st := []) (pc2 := 65) (okL.all _ ⟨(Or.inr ⟨Or.inl ⟨by decide, by decide⟩, by decide⟩), (isH.ok h43 (by decide)), trivial, trivial, trivial⟩) (okS.all _ trivial) (fun ad S Q Qc hC hc k => V_callV (as := [_]) (st := []) (M' := MX6_step) (ci := 6) (pc2 := 65) (dk D_X6_playPart 4 rfl) ml_6_205 mv_X6_step rfl rfl (by decide) rfl (Nat.le_of_ble_eq_true rfl) rfl he40 (hC.k' (fixH 79 6 (by decide) rfl)) hc k) hc41 (kRI.k fun y42 κ44 h mo45 => ?_)
      refine K_if (pa := 213) (pb := 68) (lv2 := [(0, vR 79), (1, vR _), (2, vI _), (3, vI _)]) (st2 := []) (fun ad S Q _ k1 k2 => V_ifeq (tgt := 213) (pc2 := 68) (dk D_X6_playPart 5 rfl) (by decide) rfl (fun q => k1 q) (fun q => k2 q)) (fun q46 => ?_) (fun q46 => ?_)
      · have h := h.1 q46
        exact h
      · have h := h.2 q46
        refine K_p (pc2 := 69) (lv2 := [(0, vR 79), (1, vR _), (2, vI _), (3, vI _)]) (st2 := [vR _]) (fun ad S Q _ k => V_aload_n (pc2 := 69) (dk D_X6_playPart 6 rfl) rfl (V_lg 1 rfl) rfl k) ?_
        refine K_p (pc2 := 70) (lv2 := [(0, vR 79), (1, vR _), (2, vI _), (3, vI _)]) (st2 := [vI _, vR _]) (fun ad S Q _ k => V_iload_n (pc2 := 70) (dk D_X6_playPart 7 rfl) rfl (V_lg 3 rfl) rfl k) ?_
        obtain ⟨e47, he48, hc49⟩ := h
        refine K_call (as := [vR _, vI _]) (st := []) (pc2 := 73) (okL.all _ ⟨(Or.inr ⟨Or.inl ⟨by decide, by decide⟩, by decide⟩), (isH.ok (isH.mo h43 (by decide) mo45) (by decide)), trivial, trivial, trivial⟩) (okS.all _ trivial) (fun ad S Q Qc hC hc k => V_callV (as := [_]) (st := []) (M' := MX10_setPlace) (ci := 10) (pc2 := 73) (dk D_X6_playPart 8 rfl) ml_6_209 mv_X10_setPlace rfl rfl (by decide) rfl (Nat.le_of_ble_eq_true rfl) rfl he48 (hC.k' (isH.mo h43 (by decide) mo45)) hc k) hc49 (kRV.k fun  κ50 h mo51 => ?_)
        refine K_p (pc2 := 213) (lv2 := [(0, vR 79), (1, vR _), (2, vI _), (3, vI _)]) (st2 := []) (fun ad S Q _ k => V_goto (tgt := 213) (dk D_X6_playPart 9 rfl) (by decide) k) ?_
        exact h
    · have hx : x2 = 21 := Int32.toInt_inj.mp (by rw [q1]; decide)
      have h := h.2.1 hx
      refine K_p (pc2 := 77) (lv2 := [(0, vR 79), (1, vR _), (2, vI _), (3, vI _)]) (st2 := [vR 79]) (fun ad S Q _ k => V_aload_n (pc2 := 77) (dk D_X6_playPart 10 rfl) rfl (V_lg 0 rfl) rfl k) ?_
      refine K_getF kc6 (h' := 80) (pc2 := 80) 0 (by decide) (dk D_X6_playPart 11 rfl) fl_6_12 (by decide) (fun _ _ => rfl) rfl (fixH 79 6 (by decide) rfl) (by decide) ?_
      refine K_p (pc2 := 81) (lv2 := [(0, vR 79), (1, vR _), (2, vI _), (3, vI _)]) (st2 := [vR _, vR 80]) (fun ad S Q _ k => V_aload_n (pc2 := 81) (dk D_X6_playPart 12 rfl) rfl (V_lg 1 rfl) rfl k) ?_
      obtain ⟨h52, h⟩ := h
      refine K_getI kc10 (pc2 := 84) 0 (dk D_X6_playPart 13 rfl) fl_6_198 (by decide) (fun _ _ => rfl) rfl h52 ?_
      refine K_p (pc2 := 85) (lv2 := [(0, vR 79), (1, vR _), (2, vI _), (3, vI _)]) (st2 := [vR _, vI _, vR 80]) (fun ad S Q _ k => V_aload_n (pc2 := 85) (dk D_X6_playPart 14 rfl) rfl (V_lg 1 rfl) rfl k) ?_
      obtain ⟨e53, he54, hc55⟩ := h
      refine K_call (as := [vR _]) (st := [vI _, vR 80]) (pc2 := 88) (okL.all _ ⟨(Or.inr ⟨Or.inl ⟨by decide, by decide⟩, by decide⟩), (isH.ok h52 (by decide)), trivial, trivial, trivial⟩) (okS.all _ ⟨trivial, (Or.inr ⟨Or.inl ⟨by decide, by decide⟩, by decide⟩), trivial⟩) (fun ad S Q Qc hC hc k => V_callV (as := []) (st := [_, _]) (M' := MX10_pop) (ci := 10) (pc2 := 88) (dk D_X6_playPart 15 rfl) ml_6_212 mv_X10_pop rfl rfl (by decide) rfl (Nat.le_of_ble_eq_true rfl) rfl he54 (hC.k' h52) hc k) hc55 (kRI.k fun y56 κ57 h mo58 => ?_)
      obtain ⟨e59, he60, hc61⟩ := h
      refine K_call (as := [vR 80, vI _, vI _]) (st := []) (pc2 := 91) (okL.all _ ⟨(Or.inr ⟨Or.inl ⟨by decide, by decide⟩, by decide⟩), (isH.ok (isH.mo h52 (by decide) mo58) (by decide)), trivial, trivial, trivial⟩) (okS.all _ trivial) (fun ad S Q Qc hC hc k => V_callV (as := [_, _]) (st := []) (M' := MX4_add) (ci := 4) (pc2 := 91) (dk D_X6_playPart 16 rfl) ml_6_215 mv_X4_add rfl rfl (by decide) rfl (Nat.le_of_ble_eq_true rfl) rfl he60 (hC.k' (fixH 80 4 (by decide) rfl)) hc k) hc61 (kRV.k fun  κ62 h mo63 => ?_)
      refine K_p (pc2 := 213) (lv2 := [(0, vR 79), (1, vR _), (2, vI _), (3, vI _)]) (st2 := []) (fun ad S Q _ k => V_goto (tgt := 213) (dk D_X6_playPart 17 rfl) (by decide) k) ?_
      exact h
    · have hx : x2 = 22 := Int32.toInt_inj.mp (by rw [q1]; decide)
      have h := h.2.2.1 hx
      refine K_p (pc2 := 95) (lv2 := [(0, vR 79), (1, vR _), (2, vI _), (3, vI _)]) (st2 := [vR _]) (fun ad S Q _ k => V_aload_n (pc2 := 95) (dk D_X6_playPart 18 rfl) rfl (V_lg 1 rfl) rfl k) ?_
      refine K_p (pc2 := 96) (lv2 := [(0, vR 79), (1, vR _), (2, vI _), (3, vI _)]) (st2 := [vR 79, vR _]) (fun ad S Q _ k => V_aload_n (pc2 := 96) (dk D_X6_playPart 19 rfl) rfl (V_lg 0 rfl) rfl k) ?_
      refine K_p (pc2 := 97) (lv2 := [(0, vR 79), (1, vR _), (2, vI _), (3, vI _)]) (st2 := [vR _, vR 79, vR _]) (fun ad S Q _ k => V_aload_n (pc2 := 97) (dk D_X6_playPart 20 rfl) rfl (V_lg 1 rfl) rfl k) ?_
      obtain ⟨h68, h⟩ := h
      obtain ⟨e64, he65, hc66⟩ := h
      refine K_call (as := [vR _]) (st := [vR 79, vR _]) (pc2 := 100) (okL.all _ ⟨(Or.inr ⟨Or.inl ⟨by decide, by decide⟩, by decide⟩), (isH.ok h68 (by decide)), trivial, trivial, trivial⟩) (okS.all _ ⟨(Or.inr ⟨Or.inl ⟨by decide, by decide⟩, by decide⟩), (isH.ok h68 (by decide)), trivial⟩) (fun ad S Q Qc hC hc k => V_callV (as := []) (st := [_, _]) (M' := MX10_pop) (ci := 10) (pc2 := 100) (dk D_X6_playPart 21 rfl) ml_6_212 mv_X10_pop rfl rfl (by decide) rfl (Nat.le_of_ble_eq_true rfl) rfl he65 (hC.k' h68) hc k) hc66 (kRI.k fun y67 κ69 h mo70 => ?_)
      obtain ⟨e71, he72, hc73⟩ := h
      refine K_call (as := [vR 79, vI _]) (st := [vR _]) (pc2 := 103) (okL.all _ ⟨(Or.inr ⟨Or.inl ⟨by decide, by decide⟩, by decide⟩), (isH.ok (isH.mo h68 (by decide) mo70) (by decide)), trivial, trivial, trivial⟩) (okS.all _ ⟨(isH.ok (isH.mo h68 (by decide) mo70) (by decide)), trivial⟩) (fun ad S Q Qc hC hc k => V_callV (as := [_]) (st := [_]) (M' := MX6_find) (ci := 6) (pc2 := 103) (dk D_X6_playPart 22 rfl) ml_6_106 mv_X6_find rfl rfl (by decide) rfl (Nat.le_of_ble_eq_true rfl) rfl he72 (hC.k' (fixH 79 6 (by decide) rfl)) hc k) hc73 (kRR.k fun p74 κ75 h mo76 => ?_)
      obtain ⟨e77, he78, hc79⟩ := h
      refine K_call (as := [vR _]) (st := [vR _]) (pc2 := 106) (okL.all _ ⟨(Or.inr ⟨Or.inl ⟨by decide, by decide⟩, by decide⟩), (isH.ok (isH.mo (isH.mo h68 (by decide) mo70) (by decide) mo76) (by decide)), trivial, trivial, trivial⟩) (okS.all _ ⟨(isH.ok (isH.mo (isH.mo h68 (by decide) mo70) (by decide) mo76) (by decide)), trivial⟩) (fun ad S Q Qc hC hc k => V_callS (as := [_]) (st := [_]) (M' := MX6_stateOf) (pc2 := 106) (dk D_X6_playPart 23 rfl) ml_6_219 mv_X6_stateOf rfl rfl (Nat.le_of_ble_eq_true rfl) rfl he78 hc k) hc79 (kRI.k fun y80 κ81 h mo82 => ?_)
      obtain ⟨e83, he84, hc85⟩ := h
      refine K_call (as := [vR _, vI _]) (st := []) (pc2 := 109) (okL.all _ ⟨(Or.inr ⟨Or.inl ⟨by decide, by decide⟩, by decide⟩), (isH.ok (isH.mo (isH.mo (isH.mo h68 (by decide) mo70) (by decide) mo76) (by decide) mo82) (by decide)), trivial, trivial, trivial⟩) (okS.all _ trivial) (fun ad S Q Qc hC hc k => V_callV (as := [_]) (st := []) (M' := MX10_push) (ci := 10) (pc2 := 109) (dk D_X6_playPart 24 rfl) ml_6_223 mv_X10_push rfl rfl (by decide) rfl (Nat.le_of_ble_eq_true rfl) rfl he84 (hC.k' (isH.mo (isH.mo (isH.mo h68 (by decide) mo70) (by decide) mo76) (by decide) mo82)) hc k) hc85 (kRV.k fun  κ86 h mo87 => ?_)
      refine K_p (pc2 := 213) (lv2 := [(0, vR 79), (1, vR _), (2, vI _), (3, vI _)]) (st2 := []) (fun ad S Q _ k => V_goto (tgt := 213) (dk D_X6_playPart 25 rfl) (by decide) k) ?_
      exact h
    · have hx : x2 = 23 := Int32.toInt_inj.mp (by rw [q1]; decide)
      have h := h.2.2.2.1 hx
      refine K_p (pc2 := 113) (lv2 := [(0, vR 79), (1, vR _), (2, vI _), (3, vI _)]) (st2 := [vR 79]) (fun ad S Q _ k => V_aload_n (pc2 := 113) (dk D_X6_playPart 26 rfl) rfl (V_lg 0 rfl) rfl k) ?_
      refine K_p (pc2 := 114) (lv2 := [(0, vR 79), (1, vR _), (2, vI _), (3, vI _)]) (st2 := [vR _, vR 79]) (fun ad S Q _ k => V_aload_n (pc2 := 114) (dk D_X6_playPart 27 rfl) rfl (V_lg 1 rfl) rfl k) ?_
      refine K_p (pc2 := 115) (lv2 := [(0, vR 79), (1, vR _), (2, vI _), (3, vI _)]) (st2 := [vI _, vR _, vR 79]) (fun ad S Q _ k => V_iload_n (pc2 := 115) (dk D_X6_playPart 28 rfl) rfl (V_lg 3 rfl) rfl k) ?_
      obtain ⟨h91, h⟩ := h
      obtain ⟨e88, he89, hc90⟩ := h
      refine K_call (as := [vR 79, vR _, vI _]) (st := []) (pc2 := 118) (okL.all _ ⟨(Or.inr ⟨Or.inl ⟨by decide, by decide⟩, by decide⟩), (isH.ok h91 (by decide)), trivial, trivial, trivial⟩) (okS.all _ trivial) (fun ad S Q Qc hC hc k => V_callV (as := [_, _]) (st := []) (M' := MX6_makeBy) (ci := 6) (pc2 := 118) (dk D_X6_playPart 29 rfl) ml_6_226 mv_X6_makeBy rfl rfl (by decide) rfl (Nat.le_of_ble_eq_true rfl) rfl he89 (hC.k' (fixH 79 6 (by decide) rfl)) hc k) hc90 (kRV.k fun  κ92 h mo93 => ?_)
      refine K_p (pc2 := 213) (lv2 := [(0, vR 79), (1, vR _), (2, vI _), (3, vI _)]) (st2 := []) (fun ad S Q _ k => V_goto (tgt := 213) (dk D_X6_playPart 30 rfl) (by decide) k) ?_
      exact h
    · have hx : x2 = 24 := Int32.toInt_inj.mp (by rw [q1]; decide)
      have h := h.2.2.2.2.1 hx
      refine K_p (pc2 := 122) (lv2 := [(0, vR 79), (1, vR _), (2, vI _), (3, vI _)]) (st2 := [vR 79]) (fun ad S Q _ k => V_aload_n (pc2 := 122) (dk D_X6_playPart 31 rfl) rfl (V_lg 0 rfl) rfl k) ?_
      refine K_p (pc2 := 123) (lv2 := [(0, vR 79), (1, vR _), (2, vI _), (3, vI _)]) (st2 := [vR _, vR 79]) (fun ad S Q _ k => V_aload_n (pc2 := 123) (dk D_X6_playPart 32 rfl) rfl (V_lg 1 rfl) rfl k) ?_
      refine K_p (pc2 := 124) (lv2 := [(0, vR 79), (1, vR _), (2, vI _), (3, vI _)]) (st2 := [vI _, vR _, vR 79]) (fun ad S Q _ k => V_iload_n (pc2 := 124) (dk D_X6_playPart 33 rfl) rfl (V_lg 3 rfl) rfl k) ?_
      obtain ⟨h97, h⟩ := h
      obtain ⟨e94, he95, hc96⟩ := h
      refine K_call (as := [vR 79, vR _, vI _]) (st := []) (pc2 := 127) (okL.all _ ⟨(Or.inr ⟨Or.inl ⟨by decide, by decide⟩, by decide⟩), (isH.ok h97 (by decide)), trivial, trivial, trivial⟩) (okS.all _ trivial) (fun ad S Q Qc hC hc k => V_callV (as := [_, _]) (st := []) (M' := MX6_callBy) (ci := 6) (pc2 := 127) (dk D_X6_playPart 34 rfl) ml_6_229 mv_X6_callBy rfl rfl (by decide) rfl (Nat.le_of_ble_eq_true rfl) rfl he95 (hC.k' (fixH 79 6 (by decide) rfl)) hc k) hc96 (kRV.k fun  κ98 h mo99 => ?_)
      refine K_p (pc2 := 213) (lv2 := [(0, vR 79), (1, vR _), (2, vI _), (3, vI _)]) (st2 := []) (fun ad S Q _ k => V_goto (tgt := 213) (dk D_X6_playPart 35 rfl) (by decide) k) ?_
      exact h
    · have hx : x2 = 25 := Int32.toInt_inj.mp (by rw [q1]; decide)
      have h := h.2.2.2.2.2.1 hx
      refine K_p (pc2 := 131) (lv2 := [(0, vR 79), (1, vR _), (2, vI _), (3, vI _)]) (st2 := [vR 79]) (fun ad S Q _ k => V_aload_n (pc2 := 131) (dk D_X6_playPart 36 rfl) rfl (V_lg 0 rfl) rfl k) ?_
      refine K_p (pc2 := 132) (lv2 := [(0, vR 79), (1, vR _), (2, vI _), (3, vI _)]) (st2 := [vR _, vR 79]) (fun ad S Q _ k => V_aload_n (pc2 := 132) (dk D_X6_playPart 37 rfl) rfl (V_lg 1 rfl) rfl k) ?_
      refine K_p (pc2 := 133) (lv2 := [(0, vR 79), (1, vR _), (2, vI _), (3, vI _)]) (st2 := [vR _, vR _, vR 79]) (fun ad S Q _ k => V_aload_n (pc2 := 133) (dk D_X6_playPart 38 rfl) rfl (V_lg 1 rfl) rfl k) ?_
      obtain ⟨h104, h⟩ := h
      obtain ⟨e100, he101, hc102⟩ := h
      refine K_call (as := [vR _]) (st := [vR _, vR 79]) (pc2 := 136) (okL.all _ ⟨(Or.inr ⟨Or.inl ⟨by decide, by decide⟩, by decide⟩), (isH.ok h104 (by decide)), trivial, trivial, trivial⟩) (okS.all _ ⟨(isH.ok h104 (by decide)), (Or.inr ⟨Or.inl ⟨by decide, by decide⟩, by decide⟩), trivial⟩) (fun ad S Q Qc hC hc k => V_callV (as := []) (st := [_, _]) (M' := MX10_pop) (ci := 10) (pc2 := 136) (dk D_X6_playPart 39 rfl) ml_6_212 mv_X10_pop rfl rfl (by decide) rfl (Nat.le_of_ble_eq_true rfl) rfl he101 (hC.k' h104) hc k) hc102 (kRI.k fun y103 κ105 h mo106 => ?_)
      obtain ⟨e107, he108, hc109⟩ := h
      refine K_call (as := [vR 79, vR _, vI _]) (st := []) (pc2 := 139) (okL.all _ ⟨(Or.inr ⟨Or.inl ⟨by decide, by decide⟩, by decide⟩), (isH.ok (isH.mo h104 (by decide) mo106) (by decide)), trivial, trivial, trivial⟩) (okS.all _ trivial) (fun ad S Q Qc hC hc k => V_callV (as := [_, _]) (st := []) (M' := MX6_yieldBy) (ci := 6) (pc2 := 139) (dk D_X6_playPart 40 rfl) ml_6_232 mv_X6_yieldBy rfl rfl (by decide) rfl (Nat.le_of_ble_eq_true rfl) rfl he108 (hC.k' (fixH 79 6 (by decide) rfl)) hc k) hc109 (kRV.k fun  κ110 h mo111 => ?_)
      refine K_p (pc2 := 213) (lv2 := [(0, vR 79), (1, vR _), (2, vI _), (3, vI _)]) (st2 := []) (fun ad S Q _ k => V_goto (tgt := 213) (dk D_X6_playPart 41 rfl) (by decide) k) ?_
      exact h
    · have hx : x2 = 26 := Int32.toInt_inj.mp (by rw [q1]; decide)
      have h := h.2.2.2.2.2.2.1 hx
      refine K_p (pc2 := 143) (lv2 := [(0, vR 79), (1, vR _), (2, vI _), (3, vI _)]) (st2 := [vR _]) (fun ad S Q _ k => V_aload_n (pc2 := 143) (dk D_X6_playPart 42 rfl) rfl (V_lg 1 rfl) rfl k) ?_
      obtain ⟨h116, h⟩ := h
      obtain ⟨e112, he113, hc114⟩ := h
      refine K_call (as := [vR _]) (st := []) (pc2 := 146) (okL.all _ ⟨(Or.inr ⟨Or.inl ⟨by decide, by decide⟩, by decide⟩), (isH.ok h116 (by decide)), trivial, trivial, trivial⟩) (okS.all _ trivial) (fun ad S Q Qc hC hc k => V_callV (as := []) (st := []) (M' := MX10_pop) (ci := 10) (pc2 := 146) (dk D_X6_playPart 43 rfl) ml_6_212 mv_X10_pop rfl rfl (by decide) rfl (Nat.le_of_ble_eq_true rfl) rfl he113 (hC.k' h116) hc k) hc114 (kRI.k fun y115 κ117 h mo118 => ?_)
      refine K_p (pc2 := 148) (lv2 := [(0, vR 79), (1, vR _), (2, vI _), (3, vI _), (4, vI _)]) (st2 := []) (fun ad S Q _ k => V_istore (pc2 := 148) (lv2 := [(0, _), (1, _), (2, _), (3, _), (4, _)]) (dk D_X6_playPart 44 rfl) (by decide) rfl rfl k) ?_
      refine K_p (pc2 := 149) (lv2 := [(0, vR 79), (1, vR _), (2, vI _), (3, vI _), (4, vI _)]) (st2 := [vR 79]) (fun ad S Q _ k => V_aload_n (pc2 := 149) (dk D_X6_playPart 45 rfl) rfl (V_lg 0 rfl) rfl k) ?_
      refine K_p (pc2 := 150) (lv2 := [(0, vR 79), (1, vR _), (2, vI _), (3, vI _), (4, vI _)]) (st2 := [vR _, vR 79]) (fun ad S Q _ k => V_aload_n (pc2 := 150) (dk D_X6_playPart 46 rfl) rfl (V_lg 1 rfl) rfl k) ?_
      refine K_p (pc2 := 151) (lv2 := [(0, vR 79), (1, vR _), (2, vI _), (3, vI _), (4, vI _)]) (st2 := [vR 79, vR _, vR 79]) (fun ad S Q _ k => V_aload_n (pc2 := 151) (dk D_X6_playPart 47 rfl) rfl (V_lg 0 rfl) rfl k) ?_
      refine K_p (pc2 := 152) (lv2 := [(0, vR 79), (1, vR _), (2, vI _), (3, vI _), (4, vI _)]) (st2 := [vR _, vR 79, vR _, vR 79]) (fun ad S Q _ k => V_aload_n (pc2 := 152) (dk D_X6_playPart 48 rfl) rfl (V_lg 1 rfl) rfl k) ?_
      obtain ⟨e119, he120, hc121⟩ := h
      refine K_call (as := [vR _]) (st := [vR 79, vR _, vR 79]) (pc2 := 155) (okL.all _ ⟨(Or.inr ⟨Or.inl ⟨by decide, by decide⟩, by decide⟩), (isH.ok (isH.mo h116 (by decide) mo118) (by decide)), trivial, trivial, trivial, trivial⟩) (okS.all _ ⟨(Or.inr ⟨Or.inl ⟨by decide, by decide⟩, by decide⟩), (isH.ok (isH.mo h116 (by decide) mo118) (by decide)), (Or.inr ⟨Or.inl ⟨by decide, by decide⟩, by decide⟩), trivial⟩) (fun ad S Q Qc hC hc k => V_callV (as := []) (st := [_, _, _]) (M' := MX10_pop) (ci := 10) (pc2 := 155) (dk D_X6_playPart 49 rfl) ml_6_212 mv_X10_pop rfl rfl (by decide) rfl (Nat.le_of_ble_eq_true rfl) rfl he120 (hC.k' (isH.mo h116 (by decide) mo118)) hc k) hc121 (kRI.k fun y122 κ123 h mo124 => ?_)
      obtain ⟨e125, he126, hc127⟩ := h
      refine K_call (as := [vR 79, vI _]) (st := [vR _, vR 79]) (pc2 := 158) (okL.all _ ⟨(Or.inr ⟨Or.inl ⟨by decide, by decide⟩, by decide⟩), (isH.ok (isH.mo (isH.mo h116 (by decide) mo118) (by decide) mo124) (by decide)), trivial, trivial, trivial, trivial⟩) (okS.all _ ⟨(isH.ok (isH.mo (isH.mo h116 (by decide) mo118) (by decide) mo124) (by decide)), (Or.inr ⟨Or.inl ⟨by decide, by decide⟩, by decide⟩), trivial⟩) (fun ad S Q Qc hC hc k => V_callV (as := [_]) (st := [_, _]) (M' := MX6_find) (ci := 6) (pc2 := 158) (dk D_X6_playPart 50 rfl) ml_6_106 mv_X6_find rfl rfl (by decide) rfl (Nat.le_of_ble_eq_true rfl) rfl he126 (hC.k' (fixH 79 6 (by decide) rfl)) hc k) hc127 (kRR.k fun p128 κ129 h mo130 => ?_)
      refine K_p (pc2 := 160) (lv2 := [(0, vR 79), (1, vR _), (2, vI _), (3, vI _), (4, vI _)]) (st2 := [vI _, vR _, vR _, vR 79]) (fun ad S Q _ k => V_iload (pc2 := 160) (dk D_X6_playPart 51 rfl) (V_lg 4 rfl) rfl k) ?_
      obtain ⟨e131, he132, hc133⟩ := h
      refine K_call (as := [vR 79, vR _, vR _, vI _]) (st := []) (pc2 := 163) (okL.all _ ⟨(Or.inr ⟨Or.inl ⟨by decide, by decide⟩, by decide⟩), (isH.ok (isH.mo (isH.mo (isH.mo h116 (by decide) mo118) (by decide) mo124) (by decide) mo130) (by decide)), trivial, trivial, trivial, trivial⟩) (okS.all _ trivial) (fun ad S Q Qc hC hc k => V_callV (as := [_, _, _]) (st := []) (M' := MX6_resumeBy) (ci := 6) (pc2 := 163) (dk D_X6_playPart 52 rfl) ml_6_235 mv_X6_resumeBy rfl rfl (by decide) rfl (Nat.le_of_ble_eq_true rfl) rfl he132 (hC.k' (fixH 79 6 (by decide) rfl)) hc k) hc133 (kRV.k fun  κ134 h mo135 => ?_)
      refine K_p (pc2 := 213) (lv2 := [(0, vR 79), (1, vR _), (2, vI _), (3, vI _), (4, vI _)]) (st2 := []) (fun ad S Q _ k => V_goto (tgt := 213) (dk D_X6_playPart 53 rfl) (by decide) k) ?_
      refine K_p (pc2 := 213) (lv2 := [(0, vR 79), (1, vR _), (2, vI _), (3, vI _)]) (st2 := []) (fun ad S Q _ k => V_pick [0, 1, 2, 3] (lv2 := [(0, _), (1, _), (2, _), (3, _)]) rfl k) ?_
      exact h
    · have hx : x2 = 27 := Int32.toInt_inj.mp (by rw [q1]; decide)
      have h := h.2.2.2.2.2.2.2.1 hx
      refine K_p (pc2 := 184) (lv2 := [(0, vR 79), (1, vR _), (2, vI _), (3, vI _)]) (st2 := [vR 79]) (fun ad S Q _ k => V_aload_n (pc2 := 184) (dk D_X6_playPart 63 rfl) rfl (V_lg 0 rfl) rfl k) ?_
      refine K_p (pc2 := 185) (lv2 := [(0, vR 79), (1, vR _), (2, vI _), (3, vI _)]) (st2 := [vR _, vR 79]) (fun ad S Q _ k => V_aload_n (pc2 := 185) (dk D_X6_playPart 64 rfl) rfl (V_lg 1 rfl) rfl k) ?_
      refine K_p (pc2 := 186) (lv2 := [(0, vR 79), (1, vR _), (2, vI _), (3, vI _)]) (st2 := [vI _, vR _, vR 79]) (fun ad S Q _ k => V_iload_n (pc2 := 186) (dk D_X6_playPart 65 rfl) rfl (V_lg 3 rfl) rfl k) ?_
      obtain ⟨h139, h⟩ := h
      obtain ⟨e136, he137, hc138⟩ := h
      refine K_call (as := [vR 79, vR _, vI _]) (st := []) (pc2 := 189) (okL.all _ ⟨(Or.inr ⟨Or.inl ⟨by decide, by decide⟩, by decide⟩), (isH.ok h139 (by decide)), trivial, trivial, trivial⟩) (okS.all _ trivial) (fun ad S Q Qc hC hc k => V_callV (as := [_, _]) (st := []) (M' := MX6_injectBy) (ci := 6) (pc2 := 189) (dk D_X6_playPart 66 rfl) ml_6_242 mv_X6_injectBy rfl rfl (by decide) rfl (Nat.le_of_ble_eq_true rfl) rfl he137 (hC.k' (fixH 79 6 (by decide) rfl)) hc k) hc138 (kRV.k fun  κ140 h mo141 => ?_)
      refine K_p (pc2 := 213) (lv2 := [(0, vR 79), (1, vR _), (2, vI _), (3, vI _)]) (st2 := []) (fun ad S Q _ k => V_goto (tgt := 213) (dk D_X6_playPart 67 rfl) (by decide) k) ?_
      exact h
    · have hx : x2 = 28 := Int32.toInt_inj.mp (by rw [q1]; decide)
      have h := h.2.2.2.2.2.2.2.2.1 hx
      refine K_p (pc2 := 193) (lv2 := [(0, vR 79), (1, vR _), (2, vI _), (3, vI _)]) (st2 := [vR 79]) (fun ad S Q _ k => V_aload_n (pc2 := 193) (dk D_X6_playPart 68 rfl) rfl (V_lg 0 rfl) rfl k) ?_
      refine K_p (pc2 := 194) (lv2 := [(0, vR 79), (1, vR _), (2, vI _), (3, vI _)]) (st2 := [vR _, vR 79]) (fun ad S Q _ k => V_aload_n (pc2 := 194) (dk D_X6_playPart 69 rfl) rfl (V_lg 1 rfl) rfl k) ?_
      obtain ⟨h145, h⟩ := h
      obtain ⟨e142, he143, hc144⟩ := h
      refine K_call (as := [vR 79, vR _]) (st := []) (pc2 := 197) (okL.all _ ⟨(Or.inr ⟨Or.inl ⟨by decide, by decide⟩, by decide⟩), (isH.ok h145 (by decide)), trivial, trivial, trivial⟩) (okS.all _ trivial) (fun ad S Q Qc hC hc k => V_callV (as := [_]) (st := []) (M' := MX6_handBy) (ci := 6) (pc2 := 197) (dk D_X6_playPart 70 rfl) ml_6_245 mv_X6_handBy rfl rfl (by decide) rfl (Nat.le_of_ble_eq_true rfl) rfl he143 (hC.k' (fixH 79 6 (by decide) rfl)) hc k) hc144 (kRV.k fun  κ146 h mo147 => ?_)
      refine K_p (pc2 := 213) (lv2 := [(0, vR 79), (1, vR _), (2, vI _), (3, vI _)]) (st2 := []) (fun ad S Q _ k => V_goto (tgt := 213) (dk D_X6_playPart 71 rfl) (by decide) k) ?_
      exact h
    · have h := h.2.2.2.2.2.2.2.2.2.2 (by rintro (hk | hk | hk | hk | hk | hk | hk | hk | hk | hk) <;> (rw [hk] at q1; revert q1; decide))
      refine K_p (pc2 := 201) (lv2 := [(0, vR 79), (1, vR _), (2, vI _), (3, vI _)]) (st2 := [vR 79]) (fun ad S Q _ k => V_aload_n (pc2 := 201) (dk D_X6_playPart 72 rfl) rfl (V_lg 0 rfl) rfl k) ?_
      refine K_p (pc2 := 202) (lv2 := [(0, vR 79), (1, vR _), (2, vI _), (3, vI _)]) (st2 := [vR _, vR 79]) (fun ad S Q _ k => V_aload_n (pc2 := 202) (dk D_X6_playPart 73 rfl) rfl (V_lg 1 rfl) rfl k) ?_
      refine K_p (pc2 := 203) (lv2 := [(0, vR 79), (1, vR _), (2, vI _), (3, vI _)]) (st2 := [vR 79, vR _, vR 79]) (fun ad S Q _ k => V_aload_n (pc2 := 203) (dk D_X6_playPart 74 rfl) rfl (V_lg 0 rfl) rfl k) ?_
      refine K_p (pc2 := 204) (lv2 := [(0, vR 79), (1, vR _), (2, vI _), (3, vI _)]) (st2 := [vR _, vR 79, vR _, vR 79]) (fun ad S Q _ k => V_aload_n (pc2 := 204) (dk D_X6_playPart 75 rfl) rfl (V_lg 1 rfl) rfl k) ?_
      obtain ⟨h7, h⟩ := h
      obtain ⟨e3, he4, hc5⟩ := h
      refine K_call (as := [vR _]) (st := [vR 79, vR _, vR 79]) (pc2 := 207) (okL.all _ ⟨(Or.inr ⟨Or.inl ⟨by decide, by decide⟩, by decide⟩), (isH.ok h7 (by decide)), trivial, trivial, trivial⟩) (okS.all _ ⟨(Or.inr ⟨Or.inl ⟨by decide, by decide⟩, by decide⟩), (isH.ok h7 (by decide)), (Or.inr ⟨Or.inl ⟨by decide, by decide⟩, by decide⟩), trivial⟩) (fun ad S Q Qc hC hc k => V_callV (as := []) (st := [_, _, _]) (M' := MX10_pop) (ci := 10) (pc2 := 207) (dk D_X6_playPart 76 rfl) ml_6_212 mv_X10_pop rfl rfl (by decide) rfl (Nat.le_of_ble_eq_true rfl) rfl he4 (hC.k' h7) hc k) hc5 (kRI.k fun y6 κ8 h mo9 => ?_)
      obtain ⟨e10, he11, hc12⟩ := h
      refine K_call (as := [vR 79, vI _]) (st := [vR _, vR 79]) (pc2 := 210) (okL.all _ ⟨(Or.inr ⟨Or.inl ⟨by decide, by decide⟩, by decide⟩), (isH.ok (isH.mo h7 (by decide) mo9) (by decide)), trivial, trivial, trivial⟩) (okS.all _ ⟨(isH.ok (isH.mo h7 (by decide) mo9) (by decide)), (Or.inr ⟨Or.inl ⟨by decide, by decide⟩, by decide⟩), trivial⟩) (fun ad S Q Qc hC hc k => V_callV (as := [_]) (st := [_, _]) (M' := MX6_find) (ci := 6) (pc2 := 210) (dk D_X6_playPart 77 rfl) ml_6_106 mv_X6_find rfl rfl (by decide) rfl (Nat.le_of_ble_eq_true rfl) rfl he11 (hC.k' (fixH 79 6 (by decide) rfl)) hc k) hc12 (kRR.k fun p13 κ14 h mo15 => ?_)
      obtain ⟨e16, he17, hc18⟩ := h
      refine K_call (as := [vR 79, vR _, vR _]) (st := []) (pc2 := 213) (okL.all _ ⟨(Or.inr ⟨Or.inl ⟨by decide, by decide⟩, by decide⟩), (isH.ok (isH.mo (isH.mo h7 (by decide) mo9) (by decide) mo15) (by decide)), trivial, trivial, trivial⟩) (okS.all _ trivial) (fun ad S Q Qc hC hc k => V_callV (as := [_, _]) (st := []) (M' := MX6_closeBy) (ci := 6) (pc2 := 213) (dk D_X6_playPart 78 rfl) ml_6_248 mv_X6_closeBy rfl rfl (by decide) rfl (Nat.le_of_ble_eq_true rfl) rfl he17 (hC.k' (fixH 79 6 (by decide) rfl)) hc k) hc18 (kRV.k fun  κ19 h mo20 => ?_)
      exact h
    · have hx : x2 = 30 := Int32.toInt_inj.mp (by rw [q1]; decide)
      have h := h.2.2.2.2.2.2.2.2.2.1 hx
      refine K_p (pc2 := 167) (lv2 := [(0, vR 79), (1, vR _), (2, vI _), (3, vI _)]) (st2 := [vR 79]) (fun ad S Q _ k => V_aload_n (pc2 := 167) (dk D_X6_playPart 54 rfl) rfl (V_lg 0 rfl) rfl k) ?_
      refine K_p (pc2 := 168) (lv2 := [(0, vR 79), (1, vR _), (2, vI _), (3, vI _)]) (st2 := [vR _, vR 79]) (fun ad S Q _ k => V_aload_n (pc2 := 168) (dk D_X6_playPart 55 rfl) rfl (V_lg 1 rfl) rfl k) ?_
      refine K_p (pc2 := 169) (lv2 := [(0, vR 79), (1, vR _), (2, vI _), (3, vI _)]) (st2 := [vR 79, vR _, vR 79]) (fun ad S Q _ k => V_aload_n (pc2 := 169) (dk D_X6_playPart 56 rfl) rfl (V_lg 0 rfl) rfl k) ?_
      refine K_p (pc2 := 170) (lv2 := [(0, vR 79), (1, vR _), (2, vI _), (3, vI _)]) (st2 := [vR _, vR 79, vR _, vR 79]) (fun ad S Q _ k => V_aload_n (pc2 := 170) (dk D_X6_playPart 57 rfl) rfl (V_lg 1 rfl) rfl k) ?_
      obtain ⟨h152, h⟩ := h
      obtain ⟨e148, he149, hc150⟩ := h
      refine K_call (as := [vR _]) (st := [vR 79, vR _, vR 79]) (pc2 := 173) (okL.all _ ⟨(Or.inr ⟨Or.inl ⟨by decide, by decide⟩, by decide⟩), (isH.ok h152 (by decide)), trivial, trivial, trivial⟩) (okS.all _ ⟨(Or.inr ⟨Or.inl ⟨by decide, by decide⟩, by decide⟩), (isH.ok h152 (by decide)), (Or.inr ⟨Or.inl ⟨by decide, by decide⟩, by decide⟩), trivial⟩) (fun ad S Q Qc hC hc k => V_callV (as := []) (st := [_, _, _]) (M' := MX10_peek) (ci := 10) (pc2 := 173) (dk D_X6_playPart 58 rfl) ml_6_239 mv_X10_peek rfl rfl (by decide) rfl (Nat.le_of_ble_eq_true rfl) rfl he149 (hC.k' h152) hc k) hc150 (kRI.k fun y151 κ153 h mo154 => ?_)
      obtain ⟨e155, he156, hc157⟩ := h
      refine K_call (as := [vR 79, vI _]) (st := [vR _, vR 79]) (pc2 := 176) (okL.all _ ⟨(Or.inr ⟨Or.inl ⟨by decide, by decide⟩, by decide⟩), (isH.ok (isH.mo h152 (by decide) mo154) (by decide)), trivial, trivial, trivial⟩) (okS.all _ ⟨(isH.ok (isH.mo h152 (by decide) mo154) (by decide)), (Or.inr ⟨Or.inl ⟨by decide, by decide⟩, by decide⟩), trivial⟩) (fun ad S Q Qc hC hc k => V_callV (as := [_]) (st := [_, _]) (M' := MX6_find) (ci := 6) (pc2 := 176) (dk D_X6_playPart 59 rfl) ml_6_106 mv_X6_find rfl rfl (by decide) rfl (Nat.le_of_ble_eq_true rfl) rfl he156 (hC.k' (fixH 79 6 (by decide) rfl)) hc k) hc157 (kRR.k fun p158 κ159 h mo160 => ?_)
      refine K_p (pc2 := 177) (lv2 := [(0, vR 79), (1, vR _), (2, vI _), (3, vI _)]) (st2 := [vI _, vR _, vR _, vR 79]) (fun ad S Q _ k => V_iconst (x := 0) (pc2 := 177) (dk D_X6_playPart 60 rfl) (by decide) rfl k) ?_
      obtain ⟨e161, he162, hc163⟩ := h
      refine K_call (as := [vR 79, vR _, vR _, vI _]) (st := []) (pc2 := 180) (okL.all _ ⟨(Or.inr ⟨Or.inl ⟨by decide, by decide⟩, by decide⟩), (isH.ok (isH.mo (isH.mo h152 (by decide) mo154) (by decide) mo160) (by decide)), trivial, trivial, trivial⟩) (okS.all _ trivial) (fun ad S Q Qc hC hc k => V_callV (as := [_, _, _]) (st := []) (M' := MX6_resumeBy) (ci := 6) (pc2 := 180) (dk D_X6_playPart 61 rfl) ml_6_235 mv_X6_resumeBy rfl rfl (by decide) rfl (Nat.le_of_ble_eq_true rfl) rfl he162 (hC.k' (fixH 79 6 (by decide) rfl)) hc k) hc163 (kRV.k fun  κ164 h mo165 => ?_)
      refine K_p (pc2 := 213) (lv2 := [(0, vR 79), (1, vR _), (2, vI _), (3, vI _)]) (st2 := []) (fun ad S Q _ k => V_goto (tgt := 213) (dk D_X6_playPart 62 rfl) (by decide) k) ?_
      exact h
theorem k_6_playPart_213 {X : Cx} {d : Nat} {κ : Km} {Q : Res → Km → Prop} (r1 : Nat) (x2 : Int32) (x3 : Int32) (h : Q (.inl none) κ) : K X d MX6_playPart 213 [(0, vR 79), (1, vR r1), (2, vI x2), (3, vI x3)] [] κ Q := by
  exact K_ret (r := .inl none) (fun ad S Q _ k => V_return (dk D_X6_playPart 79 rfl) rfl k) h
theorem k_6_stateOf_0 {X : Cx} {d : Nat} {κ : Km} {Q : Res → Km → Prop} (r0 : Nat) (h : (r0 = 0 ∨ live κ r0) ∧ ((r0 = 0 → K X d MX6_stateOf 13 [(0, vR r0)] [vI 9] κ Q) ∧ (¬ r0 = 0 → (isH κ r0 10) ∧ K X d MX6_stateOf 13 [(0, vR r0)] [vI (kI κ r0 1)] κ Q))) : K X d MX6_stateOf 0 [(0, vR r0)] [] κ Q := by
  refine K_p (pc2 := 1) (lv2 := [(0, vR _)]) (st2 := [vR _]) (fun ad S Q _ k => V_aload_n (pc2 := 1) (dk D_X6_stateOf 0 rfl) rfl (V_lg 0 rfl) rfl k) ?_
  obtain ⟨h2, h⟩ := h
  refine K_ifnonnull (tgt := 9) (pc2 := 4) (dk D_X6_stateOf 1 rfl) (by decide) rfl h2 (fun q1 => ?_) (fun q1 => ?_)
  · have h := h.1 q1
    refine K_p (pc2 := 6) (lv2 := [(0, vR _)]) (st2 := [vI _]) (fun ad S Q _ k => V_bipush (x := 9) (pc2 := 6) (dk D_X6_stateOf 2 rfl) (by decide) rfl k) ?_
    refine K_p (pc2 := 13) (lv2 := [(0, vR _)]) (st2 := [vI _]) (fun ad S Q _ k => V_goto (tgt := 13) (dk D_X6_stateOf 3 rfl) (by decide) k) ?_
    exact h
  · have h := h.2 q1
    refine K_p (pc2 := 10) (lv2 := [(0, vR _)]) (st2 := [vR _]) (fun ad S Q _ k => V_aload_n (pc2 := 10) (dk D_X6_stateOf 4 rfl) rfl (V_lg 0 rfl) rfl k) ?_
    obtain ⟨h3, h⟩ := h
    refine K_getI kc10 (pc2 := 13) 1 (dk D_X6_stateOf 5 rfl) fl_6_131 (by decide) (fun _ _ => rfl) rfl h3 ?_
    exact h
theorem k_6_stateOf_13 {X : Cx} {d : Nat} {κ : Km} {Q : Res → Km → Prop} (r0 : Nat) (t0 : Int32) (h : Q (.inl (some (vI t0))) κ) : K X d MX6_stateOf 13 [(0, vR r0)] [vI t0] κ Q := by
  exact K_ret (r := .inl (some (vI _))) (fun ad S Q _ k => V_ireturn (dk D_X6_stateOf 6 rfl) rfl k) h
theorem k_6_step_0 {X : Cx} {d : Nat} {κ : Km} {Q : Res → Km → Prop} (r1 : Nat) (h : (((kI κ 79 12) < 6000 → ∀ κ2 : Km, κ2 = cI κ 79 12 ((kI κ 79 12) + 1) → (isH κ2 r1 10) ∧ ∀ κ4 : Km, κ4 = cI κ2 r1 6 ((kI κ2 r1 6) + 1) → Q (.inl (some (vI 1))) κ4) ∧ (¬ (kI κ 79 12) < 6000 → ∀ κ5 : Km, κ5 = cI κ 79 17 1 → Q (.inl (some (vI 0))) κ5))) : K X d MX6_step 0 [(0, vR 79), (1, vR r1)] [] κ Q := by
  refine K_p (pc2 := 1) (lv2 := [(0, vR 79), (1, vR _)]) (st2 := [vR 79]) (fun ad S Q _ k => V_aload_n (pc2 := 1) (dk D_X6_step 0 rfl) rfl (V_lg 0 rfl) rfl k) ?_
  refine K_getI kc6 (pc2 := 4) 12 (dk D_X6_step 1 rfl) fl_6_71 (by decide) (fun _ _ => rfl) rfl (fixH 79 6 (by decide) rfl) ?_
  refine K_p (pc2 := 7) (lv2 := [(0, vR 79), (1, vR _)]) (st2 := [vI _, vI _]) (fun ad S Q _ k => V_sipush (x := 6000) (pc2 := 7) (dk D_X6_step 2 rfl) (by decide) rfl k) ?_
  refine K_if (pa := 17) (pb := 10) (lv2 := [(0, vR 79), (1, vR _)]) (st2 := []) (fun ad S Q _ k1 k2 => V_cmplt (tgt := 17) (pc2 := 10) (dk D_X6_step 3 rfl) (by decide) rfl (fun q => k1 q) (fun q => k2 q)) (fun q1 => ?_) (fun q1 => ?_)
  · have h := h.1 q1
    refine K_p (pc2 := 18) (lv2 := [(0, vR 79), (1, vR _)]) (st2 := [vR 79]) (fun ad S Q _ k => V_aload_n (pc2 := 18) (dk D_X6_step 9 rfl) rfl (V_lg 0 rfl) rfl k) ?_
    refine K_p (pc2 := 19) (lv2 := [(0, vR 79), (1, vR _)]) (st2 := [vR 79, vR 79]) (fun ad S Q _ k => V_dup (pc2 := 19) (dk D_X6_step 10 rfl) rfl rfl k) ?_
    refine K_getI kc6 (pc2 := 22) 12 (dk D_X6_step 11 rfl) fl_6_71 (by decide) (fun _ _ => rfl) rfl (fixH 79 6 (by decide) rfl) ?_
    refine K_p (pc2 := 23) (lv2 := [(0, vR 79), (1, vR _)]) (st2 := [vI _, vI _, vR 79]) (fun ad S Q _ k => V_iconst (x := 1) (pc2 := 23) (dk D_X6_step 12 rfl) (by decide) rfl k) ?_
    refine K_p (pc2 := 24) (lv2 := [(0, vR 79), (1, vR _)]) (st2 := [vI _, vR 79]) (fun ad S Q _ k => V_iadd (pc2 := 24) (dk D_X6_step 13 rfl) rfl k) ?_
    refine K_putI kc6 (pc2 := 27) 12 (dk D_X6_step 14 rfl) fl_6_71 (by decide) (Or.inl rfl) rfl rfl (fixH 79 6 (by decide) rfl) (by decide) ?_
    have h := h _ rfl
    refine K_p (pc2 := 28) (lv2 := [(0, vR 79), (1, vR _)]) (st2 := [vR _]) (fun ad S Q _ k => V_aload_n (pc2 := 28) (dk D_X6_step 15 rfl) rfl (V_lg 1 rfl) rfl k) ?_
    refine K_p (pc2 := 29) (lv2 := [(0, vR 79), (1, vR _)]) (st2 := [vR _, vR _]) (fun ad S Q _ k => V_dup (pc2 := 29) (dk D_X6_step 16 rfl) rfl rfl k) ?_
    obtain ⟨h3, h⟩ := h
    refine K_getI kc10 (pc2 := 32) 6 (dk D_X6_step 17 rfl) fl_6_252 (by decide) (fun _ _ => rfl) rfl h3 ?_
    refine K_p (pc2 := 33) (lv2 := [(0, vR 79), (1, vR _)]) (st2 := [vI _, vI _, vR _]) (fun ad S Q _ k => V_iconst (x := 1) (pc2 := 33) (dk D_X6_step 18 rfl) (by decide) rfl k) ?_
    refine K_p (pc2 := 34) (lv2 := [(0, vR 79), (1, vR _)]) (st2 := [vI _, vR _]) (fun ad S Q _ k => V_iadd (pc2 := 34) (dk D_X6_step 19 rfl) rfl k) ?_
    refine K_putI kc10 (pc2 := 37) 6 (dk D_X6_step 20 rfl) fl_6_252 (by decide) (Or.inl rfl) rfl rfl h3 (isH.n69 h3 (by decide)) ?_
    have h := h _ rfl
    refine K_p (pc2 := 38) (lv2 := [(0, vR 79), (1, vR _)]) (st2 := [vI _]) (fun ad S Q _ k => V_iconst (x := 1) (pc2 := 38) (dk D_X6_step 21 rfl) (by decide) rfl k) ?_
    exact K_ret (r := .inl (some (vI _))) (fun ad S Q _ k => V_zreturn (dk D_X6_step 22 rfl) rfl (Or.inr rfl) k) h
  · have h := h.2 q1
    refine K_p (pc2 := 11) (lv2 := [(0, vR 79), (1, vR _)]) (st2 := [vR 79]) (fun ad S Q _ k => V_aload_n (pc2 := 11) (dk D_X6_step 4 rfl) rfl (V_lg 0 rfl) rfl k) ?_
    refine K_p (pc2 := 12) (lv2 := [(0, vR 79), (1, vR _)]) (st2 := [vI _, vR 79]) (fun ad S Q _ k => V_iconst (x := 1) (pc2 := 12) (dk D_X6_step 5 rfl) (by decide) rfl k) ?_
    refine K_putZ kc6 (pc2 := 15) 17 (dk D_X6_step 6 rfl) fl_6_86 (by decide) (Or.inl rfl) rfl rfl (fixH 79 6 (by decide) rfl) (by decide) (Or.inr rfl) ?_
    have h := h _ rfl
    refine K_p (pc2 := 16) (lv2 := [(0, vR 79), (1, vR _)]) (st2 := [vI _]) (fun ad S Q _ k => V_iconst (x := 0) (pc2 := 16) (dk D_X6_step 7 rfl) (by decide) rfl k) ?_
    exact K_ret (r := .inl (some (vI _))) (fun ad S Q _ k => V_zreturn (dk D_X6_step 8 rfl) rfl (Or.inl rfl) k) h
theorem k_6_spend_0 {X : Cx} {d : Nat} {κ : Km} {Q : Res → Km → Prop} (r1 : Nat) (h : (isH κ r1 10) ∧ ∃ e1 : Nat, e1 + 1 ≤ d ∧ KC' X e1 MX6_failAll [vR 79] κ (kRV fun  κ5 => ∃ e7 : Nat, e7 + 1 ≤ d ∧ KC' X e7 MX4_add [vR 82, vI (kI κ5 r1 0), vI 0] κ5 (kRV fun  κ10 => ∀ κ12 : Km, κ12 = cI κ10 79 13 0 → ∀ κ13 : Km, κ13 = cI κ12 79 15 4 → Q (.inl none) κ13))) : K X d MX6_spend 0 [(0, vR 79), (1, vR r1)] [] κ Q := by
  refine K_p (pc2 := 1) (lv2 := [(0, vR 79), (1, vR _)]) (st2 := [vR 79]) (fun ad S Q _ k => V_aload_n (pc2 := 1) (dk D_X6_spend 0 rfl) rfl (V_lg 0 rfl) rfl k) ?_
  obtain ⟨h4, h⟩ := h
  obtain ⟨e1, he2, hc3⟩ := h
  refine K_call (as := [vR 79]) (st := []) (pc2 := 4) (okL.all _ ⟨(Or.inr ⟨Or.inl ⟨by decide, by decide⟩, by decide⟩), (isH.ok h4 (by decide)), trivial⟩) (okS.all _ trivial) (fun ad S Q Qc hC hc k => V_callV (as := []) (st := []) (M' := MX6_failAll) (ci := 6) (pc2 := 4) (dk D_X6_spend 1 rfl) ml_6_57 mv_X6_failAll rfl rfl (by decide) rfl (Nat.le_of_ble_eq_true rfl) rfl he2 (hC.k' (fixH 79 6 (by decide) rfl)) hc k) hc3 (kRV.k fun  κ5 h mo6 => ?_)
  refine K_p (pc2 := 5) (lv2 := [(0, vR 79), (1, vR _)]) (st2 := [vR 79]) (fun ad S Q _ k => V_aload_n (pc2 := 5) (dk D_X6_spend 2 rfl) rfl (V_lg 0 rfl) rfl k) ?_
  refine K_getF kc6 (h' := 82) (pc2 := 8) 1 (by decide) (dk D_X6_spend 3 rfl) fl_6_18 (by decide) (fun _ _ => rfl) rfl (fixH 79 6 (by decide) rfl) (by decide) ?_
  refine K_p (pc2 := 9) (lv2 := [(0, vR 79), (1, vR _)]) (st2 := [vR _, vR 82]) (fun ad S Q _ k => V_aload_n (pc2 := 9) (dk D_X6_spend 4 rfl) rfl (V_lg 1 rfl) rfl k) ?_
  refine K_getI kc10 (pc2 := 12) 0 (dk D_X6_spend 5 rfl) fl_6_198 (by decide) (fun _ _ => rfl) rfl (isH.mo h4 (by decide) mo6) ?_
  refine K_p (pc2 := 13) (lv2 := [(0, vR 79), (1, vR _)]) (st2 := [vI _, vI _, vR 82]) (fun ad S Q _ k => V_iconst (x := 0) (pc2 := 13) (dk D_X6_spend 6 rfl) (by decide) rfl k) ?_
  obtain ⟨e7, he8, hc9⟩ := h
  refine K_call (as := [vR 82, vI _, vI _]) (st := []) (pc2 := 16) (okL.all _ ⟨(Or.inr ⟨Or.inl ⟨by decide, by decide⟩, by decide⟩), (isH.ok (isH.mo h4 (by decide) mo6) (by decide)), trivial⟩) (okS.all _ trivial) (fun ad S Q Qc hC hc k => V_callV (as := [_, _]) (st := []) (M' := MX4_add) (ci := 4) (pc2 := 16) (dk D_X6_spend 7 rfl) ml_6_215 mv_X4_add rfl rfl (by decide) rfl (Nat.le_of_ble_eq_true rfl) rfl he8 (hC.k' (fixH 82 4 (by decide) rfl)) hc k) hc9 (kRV.k fun  κ10 h mo11 => ?_)
  refine K_p (pc2 := 17) (lv2 := [(0, vR 79), (1, vR _)]) (st2 := [vR 79]) (fun ad S Q _ k => V_aload_n (pc2 := 17) (dk D_X6_spend 8 rfl) rfl (V_lg 0 rfl) rfl k) ?_
  refine K_p (pc2 := 18) (lv2 := [(0, vR 79), (1, vR _)]) (st2 := [vI _, vR 79]) (fun ad S Q _ k => V_iconst (x := 0) (pc2 := 18) (dk D_X6_spend 9 rfl) (by decide) rfl k) ?_
  refine K_putI kc6 (pc2 := 21) 13 (dk D_X6_spend 10 rfl) fl_6_74 (by decide) (Or.inl rfl) rfl rfl (fixH 79 6 (by decide) rfl) (by decide) ?_
  have h := h _ rfl
  refine K_p (pc2 := 22) (lv2 := [(0, vR 79), (1, vR _)]) (st2 := [vR 79]) (fun ad S Q _ k => V_aload_n (pc2 := 22) (dk D_X6_spend 11 rfl) rfl (V_lg 0 rfl) rfl k) ?_
  refine K_p (pc2 := 23) (lv2 := [(0, vR 79), (1, vR _)]) (st2 := [vI _, vR 79]) (fun ad S Q _ k => V_iconst (x := 4) (pc2 := 23) (dk D_X6_spend 12 rfl) (by decide) rfl k) ?_
  refine K_putI kc6 (pc2 := 26) 15 (dk D_X6_spend 13 rfl) fl_6_80 (by decide) (Or.inl rfl) rfl rfl (fixH 79 6 (by decide) rfl) (by decide) ?_
  have h := h _ rfl
  exact K_ret (r := .inl none) (fun ad S Q _ k => V_return (dk D_X6_spend 14 rfl) rfl k) h
theorem k_6_makeBy_0 {X : Cx} {d : Nat} {κ : Km} {Q : Res → Km → Prop} (r1 : Nat) (x2 : Int32) (h : (isH κ r1 10) ∧ ∃ e1 : Nat, e1 + 1 ≤ d ∧ KC' X e1 MX10_pop [vR r1] κ (kRI fun y4 κ6 => ∃ e8 : Nat, e8 + 1 ≤ d ∧ KC' X e8 MX6_isFull [vR 79] κ6 (kRI fun y11 κ12 => ((y11 = 0 → ∃ e15 : Nat, e15 + 1 ≤ d ∧ KC' X e15 MX6_make [vR 79, vI x2, vI y4, vI (kI κ12 r1 0)] κ12 (kRI fun y18 κ19 => ∃ e21 : Nat, e21 + 1 ≤ d ∧ KC' X e21 MX10_push [vR r1, vI y18] κ19 (kRV fun  κ24 => K X d MX6_makeBy 36 [(0, vR 79), (1, vR r1), (2, vI x2), (3, vI y4)] [] κ24 Q))) ∧ (¬ y11 = 0 → ∃ e26 : Nat, e26 + 1 ≤ d ∧ KC' X e26 MX6_raise [vR 79, vR r1, vI 13] κ12 (kRV fun  κ29 => K X d MX6_makeBy 36 [(0, vR 79), (1, vR r1), (2, vI x2), (3, vI y4)] [] κ29 Q)))))) : K X d MX6_makeBy 0 [(0, vR 79), (1, vR r1), (2, vI x2)] [] κ Q := by
  refine K_p (pc2 := 1) (lv2 := [(0, vR 79), (1, vR _), (2, vI _)]) (st2 := [vR _]) (fun ad S Q _ k => V_aload_n (pc2 := 1) (dk D_X6_makeBy 0 rfl) rfl (V_lg 1 rfl) rfl k) ?_
  obtain ⟨h5, h⟩ := h
  obtain ⟨e1, he2, hc3⟩ := h
  refine K_call (as := [vR _]) (st := []) (pc2 := 4) (okL.all _ ⟨(Or.inr ⟨Or.inl ⟨by decide, by decide⟩, by decide⟩), (isH.ok h5 (by decide)), trivial, trivial⟩) (okS.all _ trivial) (fun ad S Q Qc hC hc k => V_callV (as := []) (st := []) (M' := MX10_pop) (ci := 10) (pc2 := 4) (dk D_X6_makeBy 1 rfl) ml_6_212 mv_X10_pop rfl rfl (by decide) rfl (Nat.le_of_ble_eq_true rfl) rfl he2 (hC.k' h5) hc k) hc3 (kRI.k fun y4 κ6 h mo7 => ?_)
  refine K_p (pc2 := 5) (lv2 := [(0, vR 79), (1, vR _), (2, vI _), (3, vI _)]) (st2 := []) (fun ad S Q _ k => V_istore_n (pc2 := 5) (lv2 := [(0, _), (1, _), (2, _), (3, _)]) (dk D_X6_makeBy 2 rfl) rfl (by decide) rfl rfl k) ?_
  refine K_p (pc2 := 6) (lv2 := [(0, vR 79), (1, vR _), (2, vI _), (3, vI _)]) (st2 := [vR 79]) (fun ad S Q _ k => V_aload_n (pc2 := 6) (dk D_X6_makeBy 3 rfl) rfl (V_lg 0 rfl) rfl k) ?_
  obtain ⟨e8, he9, hc10⟩ := h
  refine K_call (as := [vR 79]) (st := []) (pc2 := 9) (okL.all _ ⟨(Or.inr ⟨Or.inl ⟨by decide, by decide⟩, by decide⟩), (isH.ok (isH.mo h5 (by decide) mo7) (by decide)), trivial, trivial, trivial⟩) (okS.all _ trivial) (fun ad S Q Qc hC hc k => V_callV (as := []) (st := []) (M' := MX6_isFull) (ci := 6) (pc2 := 9) (dk D_X6_makeBy 4 rfl) ml_6_90 mv_X6_isFull rfl rfl (by decide) rfl (Nat.le_of_ble_eq_true rfl) rfl he9 (hC.k' (fixH 79 6 (by decide) rfl)) hc k) hc10 (kRI.k fun y11 κ12 h mo13 => ?_)
  refine K_if (pa := 22) (pb := 12) (lv2 := [(0, vR 79), (1, vR _), (2, vI _), (3, vI _)]) (st2 := []) (fun ad S Q _ k1 k2 => V_ifeq (tgt := 22) (pc2 := 12) (dk D_X6_makeBy 5 rfl) (by decide) rfl (fun q => k1 q) (fun q => k2 q)) (fun q14 => ?_) (fun q14 => ?_)
  · have h := h.1 q14
    refine K_p (pc2 := 23) (lv2 := [(0, vR 79), (1, vR _), (2, vI _), (3, vI _)]) (st2 := [vR _]) (fun ad S Q _ k => V_aload_n (pc2 := 23) (dk D_X6_makeBy 11 rfl) rfl (V_lg 1 rfl) rfl k) ?_
    refine K_p (pc2 := 24) (lv2 := [(0, vR 79), (1, vR _), (2, vI _), (3, vI _)]) (st2 := [vR 79, vR _]) (fun ad S Q _ k => V_aload_n (pc2 := 24) (dk D_X6_makeBy 12 rfl) rfl (V_lg 0 rfl) rfl k) ?_
    refine K_p (pc2 := 25) (lv2 := [(0, vR 79), (1, vR _), (2, vI _), (3, vI _)]) (st2 := [vI _, vR 79, vR _]) (fun ad S Q _ k => V_iload_n (pc2 := 25) (dk D_X6_makeBy 13 rfl) rfl (V_lg 2 rfl) rfl k) ?_
    refine K_p (pc2 := 26) (lv2 := [(0, vR 79), (1, vR _), (2, vI _), (3, vI _)]) (st2 := [vI _, vI _, vR 79, vR _]) (fun ad S Q _ k => V_iload_n (pc2 := 26) (dk D_X6_makeBy 14 rfl) rfl (V_lg 3 rfl) rfl k) ?_
    refine K_p (pc2 := 27) (lv2 := [(0, vR 79), (1, vR _), (2, vI _), (3, vI _)]) (st2 := [vR _, vI _, vI _, vR 79, vR _]) (fun ad S Q _ k => V_aload_n (pc2 := 27) (dk D_X6_makeBy 15 rfl) rfl (V_lg 1 rfl) rfl k) ?_
    refine K_getI kc10 (pc2 := 30) 0 (dk D_X6_makeBy 16 rfl) fl_6_198 (by decide) (fun _ _ => rfl) rfl (isH.mo (isH.mo h5 (by decide) mo7) (by decide) mo13) ?_
    obtain ⟨e15, he16, hc17⟩ := h
    refine K_call (as := [vR 79, vI _, vI _, vI _]) (st := [vR _]) (pc2 := 33) (okL.all _ ⟨(Or.inr ⟨Or.inl ⟨by decide, by decide⟩, by decide⟩), (isH.ok (isH.mo (isH.mo h5 (by decide) mo7) (by decide) mo13) (by decide)), trivial, trivial, trivial⟩) (okS.all _ ⟨(isH.ok (isH.mo (isH.mo h5 (by decide) mo7) (by decide) mo13) (by decide)), trivial⟩) (fun ad S Q Qc hC hc k => V_callV (as := [_, _, _]) (st := [_]) (M' := MX6_make) (ci := 6) (pc2 := 33) (dk D_X6_makeBy 17 rfl) ml_6_253 mv_X6_make rfl rfl (by decide) rfl (Nat.le_of_ble_eq_true rfl) rfl he16 (hC.k' (fixH 79 6 (by decide) rfl)) hc k) hc17 (kRI.k fun y18 κ19 h mo20 => ?_)
    obtain ⟨e21, he22, hc23⟩ := h
    refine K_call (as := [vR _, vI _]) (st := []) (pc2 := 36) (okL.all _ ⟨(Or.inr ⟨Or.inl ⟨by decide, by decide⟩, by decide⟩), (isH.ok (isH.mo (isH.mo (isH.mo h5 (by decide) mo7) (by decide) mo13) (by decide) mo20) (by decide)), trivial, trivial, trivial⟩) (okS.all _ trivial) (fun ad S Q Qc hC hc k => V_callV (as := [_]) (st := []) (M' := MX10_push) (ci := 10) (pc2 := 36) (dk D_X6_makeBy 18 rfl) ml_6_223 mv_X10_push rfl rfl (by decide) rfl (Nat.le_of_ble_eq_true rfl) rfl he22 (hC.k' (isH.mo (isH.mo (isH.mo h5 (by decide) mo7) (by decide) mo13) (by decide) mo20)) hc k) hc23 (kRV.k fun  κ24 h mo25 => ?_)
    exact h
  · have h := h.2 q14
    refine K_p (pc2 := 13) (lv2 := [(0, vR 79), (1, vR _), (2, vI _), (3, vI _)]) (st2 := [vR 79]) (fun ad S Q _ k => V_aload_n (pc2 := 13) (dk D_X6_makeBy 6 rfl) rfl (V_lg 0 rfl) rfl k) ?_
    refine K_p (pc2 := 14) (lv2 := [(0, vR 79), (1, vR _), (2, vI _), (3, vI _)]) (st2 := [vR _, vR 79]) (fun ad S Q _ k => V_aload_n (pc2 := 14) (dk D_X6_makeBy 7 rfl) rfl (V_lg 1 rfl) rfl k) ?_
    refine K_p (pc2 := 16) (lv2 := [(0, vR 79), (1, vR _), (2, vI _), (3, vI _)]) (st2 := [vI _, vR _, vR 79]) (fun ad S Q _ k => V_bipush (x := 13) (pc2 := 16) (dk D_X6_makeBy 8 rfl) (by decide) rfl k) ?_
    obtain ⟨e26, he27, hc28⟩ := h
    refine K_call (as := [vR 79, vR _, vI _]) (st := []) (pc2 := 19) (okL.all _ ⟨(Or.inr ⟨Or.inl ⟨by decide, by decide⟩, by decide⟩), (isH.ok (isH.mo (isH.mo h5 (by decide) mo7) (by decide) mo13) (by decide)), trivial, trivial, trivial⟩) (okS.all _ trivial) (fun ad S Q Qc hC hc k => V_callV (as := [_, _]) (st := []) (M' := MX6_raise) (ci := 6) (pc2 := 19) (dk D_X6_makeBy 9 rfl) ml_6_195 mv_X6_raise rfl rfl (by decide) rfl (Nat.le_of_ble_eq_true rfl) rfl he27 (hC.k' (fixH 79 6 (by decide) rfl)) hc k) hc28 (kRV.k fun  κ29 h mo30 => ?_)
    refine K_p (pc2 := 36) (lv2 := [(0, vR 79), (1, vR _), (2, vI _), (3, vI _)]) (st2 := []) (fun ad S Q _ k => V_goto (tgt := 36) (dk D_X6_makeBy 10 rfl) (by decide) k) ?_
    exact h
theorem k_6_makeBy_36 {X : Cx} {d : Nat} {κ : Km} {Q : Res → Km → Prop} (r1 : Nat) (x2 : Int32) (x3 : Int32) (h : Q (.inl none) κ) : K X d MX6_makeBy 36 [(0, vR 79), (1, vR r1), (2, vI x2), (3, vI x3)] [] κ Q := by
  exact K_ret (r := .inl none) (fun ad S Q _ k => V_return (dk D_X6_makeBy 19 rfl) rfl k) h
theorem k_6_callBy_0 {X : Cx} {d : Nat} {κ : Km} {Q : Res → Km → Prop} (r1 : Nat) (x2 : Int32) (h : (isH κ r1 10) ∧ ∃ e1 : Nat, e1 + 1 ≤ d ∧ KC' X e1 MX7_at [vR 67, vI x2] κ (kRR fun p4 κ6 => (p4 = 0 ∨ live κ6 p4) ∧ ((p4 = 0 → K X d MX6_callBy 21 [(0, vR 79), (1, vR r1), (2, vI x2), (3, vR p4)] [] κ6 Q) ∧ (¬ p4 = 0 → (isH κ6 p4 0) ∧ ∃ e10 : Nat, e10 + 1 ≤ d ∧ KC' X e10 MX6_step [vR 79, vR r1] κ6 (kRI fun y13 κ15 => ((y13 = 0 → K X d MX6_callBy 21 [(0, vR 79), (1, vR r1), (2, vI x2), (3, vR p4)] [] κ15 Q) ∧ (¬ y13 = 0 → ∃ e18 : Nat, e18 + 1 ≤ d ∧ KC' X e18 MX10_canCall [vR r1] κ15 (kRI fun y21 κ22 => ((y21 = 0 → ∃ e25 : Nat, e25 + 1 ≤ d ∧ KC' X e25 MX6_raise [vR 79, vR r1, vI 12] κ22 (kRV fun  κ28 => K X d MX6_callBy 44 [(0, vR 79), (1, vR r1), (2, vI x2), (3, vR p4)] [] κ28 Q)) ∧ (¬ y21 = 0 → ∃ e30 : Nat, e30 + 1 ≤ d ∧ KC' X e30 MX10_enter [vR r1, vR p4] κ22 (kRV fun  κ33 => K X d MX6_callBy 44 [(0, vR 79), (1, vR r1), (2, vI x2), (3, vR p4)] [] κ33 Q))))))))))) : K X d MX6_callBy 0 [(0, vR 79), (1, vR r1), (2, vI x2)] [] κ Q := by
  refine K_p (pc2 := 1) (lv2 := [(0, vR 79), (1, vR _), (2, vI _)]) (st2 := [vR 79]) (fun ad S Q _ k => V_aload_n (pc2 := 1) (dk D_X6_callBy 0 rfl) rfl (V_lg 0 rfl) rfl k) ?_
  refine K_getF kc6 (h' := 67) (pc2 := 4) 3 (by decide) (dk D_X6_callBy 1 rfl) fl_6_43 (by decide) (fun _ _ => rfl) rfl (fixH 79 6 (by decide) rfl) (by decide) ?_
  refine K_p (pc2 := 5) (lv2 := [(0, vR 79), (1, vR _), (2, vI _)]) (st2 := [vI _, vR 67]) (fun ad S Q _ k => V_iload_n (pc2 := 5) (dk D_X6_callBy 2 rfl) rfl (V_lg 2 rfl) rfl k) ?_
  obtain ⟨h5, h⟩ := h
  obtain ⟨e1, he2, hc3⟩ := h
  refine K_call (as := [vR 67, vI _]) (st := []) (pc2 := 8) (okL.all _ ⟨(Or.inr ⟨Or.inl ⟨by decide, by decide⟩, by decide⟩), (isH.ok h5 (by decide)), trivial, trivial⟩) (okS.all _ trivial) (fun ad S Q Qc hC hc k => V_callV (as := [_]) (st := []) (M' := MX7_at) (ci := 7) (pc2 := 8) (dk D_X6_callBy 3 rfl) ml_6_256 mv_X7_at rfl rfl (by decide) rfl (Nat.le_of_ble_eq_true rfl) rfl he2 (hC.k' (fixH 67 7 (by decide) rfl)) hc k) hc3 (kRR.k fun p4 κ6 h mo7 => ?_)
  refine K_p (pc2 := 9) (lv2 := [(0, vR 79), (1, vR _), (2, vI _), (3, vR _)]) (st2 := []) (fun ad S Q _ k => V_astore_n (pc2 := 9) (lv2 := [(0, _), (1, _), (2, _), (3, _)]) (dk D_X6_callBy 4 rfl) rfl (by decide) rfl rfl k) ?_
  refine K_p (pc2 := 10) (lv2 := [(0, vR 79), (1, vR _), (2, vI _), (3, vR _)]) (st2 := [vR _]) (fun ad S Q _ k => V_aload_n (pc2 := 10) (dk D_X6_callBy 5 rfl) rfl (V_lg 3 rfl) rfl k) ?_
  obtain ⟨h9, h⟩ := h
  refine K_ifnull (tgt := 21) (pc2 := 13) (dk D_X6_callBy 6 rfl) (by decide) rfl h9 (fun q8 => ?_) (fun q8 => ?_)
  · have h := h.1 q8
    exact h
  · have h := h.2 q8
    refine K_p (pc2 := 14) (lv2 := [(0, vR 79), (1, vR _), (2, vI _), (3, vR _)]) (st2 := [vR 79]) (fun ad S Q _ k => V_aload_n (pc2 := 14) (dk D_X6_callBy 7 rfl) rfl (V_lg 0 rfl) rfl k) ?_
    refine K_p (pc2 := 15) (lv2 := [(0, vR 79), (1, vR _), (2, vI _), (3, vR _)]) (st2 := [vR _, vR 79]) (fun ad S Q _ k => V_aload_n (pc2 := 15) (dk D_X6_callBy 8 rfl) rfl (V_lg 1 rfl) rfl k) ?_
    obtain ⟨h14, h⟩ := h
    obtain ⟨e10, he11, hc12⟩ := h
    refine K_call (as := [vR 79, vR _]) (st := []) (pc2 := 18) (okL.all _ ⟨(Or.inr ⟨Or.inl ⟨by decide, by decide⟩, by decide⟩), (isH.ok (isH.mo h5 (by decide) mo7) (by decide)), trivial, (isH.ok h14 (by decide)), trivial⟩) (okS.all _ trivial) (fun ad S Q Qc hC hc k => V_callV (as := [_]) (st := []) (M' := MX6_step) (ci := 6) (pc2 := 18) (dk D_X6_callBy 9 rfl) ml_6_205 mv_X6_step rfl rfl (by decide) rfl (Nat.le_of_ble_eq_true rfl) rfl he11 (hC.k' (fixH 79 6 (by decide) rfl)) hc k) hc12 (kRI.k fun y13 κ15 h mo16 => ?_)
    refine K_if (pa := 21) (pb := 22) (lv2 := [(0, vR 79), (1, vR _), (2, vI _), (3, vR _)]) (st2 := []) (fun ad S Q _ k1 k2 => V_ifne (tgt := 22) (pc2 := 21) (dk D_X6_callBy 10 rfl) (by decide) rfl (fun q => k2 q) (fun q => k1 q)) (fun q17 => ?_) (fun q17 => ?_)
    · have h := h.1 q17
      exact h
    · have h := h.2 q17
      refine K_p (pc2 := 23) (lv2 := [(0, vR 79), (1, vR _), (2, vI _), (3, vR _)]) (st2 := [vR _]) (fun ad S Q _ k => V_aload_n (pc2 := 23) (dk D_X6_callBy 12 rfl) rfl (V_lg 1 rfl) rfl k) ?_
      obtain ⟨e18, he19, hc20⟩ := h
      refine K_call (as := [vR _]) (st := []) (pc2 := 26) (okL.all _ ⟨(Or.inr ⟨Or.inl ⟨by decide, by decide⟩, by decide⟩), (isH.ok (isH.mo (isH.mo h5 (by decide) mo7) (by decide) mo16) (by decide)), trivial, (isH.ok (isH.mo h14 (by decide) mo16) (by decide)), trivial⟩) (okS.all _ trivial) (fun ad S Q Qc hC hc k => V_callV (as := []) (st := []) (M' := MX10_canCall) (ci := 10) (pc2 := 26) (dk D_X6_callBy 13 rfl) ml_6_260 mv_X10_canCall rfl rfl (by decide) rfl (Nat.le_of_ble_eq_true rfl) rfl he19 (hC.k' (isH.mo (isH.mo h5 (by decide) mo7) (by decide) mo16)) hc k) hc20 (kRI.k fun y21 κ22 h mo23 => ?_)
      refine K_if (pa := 37) (pb := 29) (lv2 := [(0, vR 79), (1, vR _), (2, vI _), (3, vR _)]) (st2 := []) (fun ad S Q _ k1 k2 => V_ifeq (tgt := 37) (pc2 := 29) (dk D_X6_callBy 14 rfl) (by decide) rfl (fun q => k1 q) (fun q => k2 q)) (fun q24 => ?_) (fun q24 => ?_)
      · have h := h.1 q24
        refine K_p (pc2 := 38) (lv2 := [(0, vR 79), (1, vR _), (2, vI _), (3, vR _)]) (st2 := [vR 79]) (fun ad S Q _ k => V_aload_n (pc2 := 38) (dk D_X6_callBy 19 rfl) rfl (V_lg 0 rfl) rfl k) ?_
        refine K_p (pc2 := 39) (lv2 := [(0, vR 79), (1, vR _), (2, vI _), (3, vR _)]) (st2 := [vR _, vR 79]) (fun ad S Q _ k => V_aload_n (pc2 := 39) (dk D_X6_callBy 20 rfl) rfl (V_lg 1 rfl) rfl k) ?_
        refine K_p (pc2 := 41) (lv2 := [(0, vR 79), (1, vR _), (2, vI _), (3, vR _)]) (st2 := [vI _, vR _, vR 79]) (fun ad S Q _ k => V_bipush (x := 12) (pc2 := 41) (dk D_X6_callBy 21 rfl) (by decide) rfl k) ?_
        obtain ⟨e25, he26, hc27⟩ := h
        refine K_call (as := [vR 79, vR _, vI _]) (st := []) (pc2 := 44) (okL.all _ ⟨(Or.inr ⟨Or.inl ⟨by decide, by decide⟩, by decide⟩), (isH.ok (isH.mo (isH.mo (isH.mo h5 (by decide) mo7) (by decide) mo16) (by decide) mo23) (by decide)), trivial, (isH.ok (isH.mo (isH.mo h14 (by decide) mo16) (by decide) mo23) (by decide)), trivial⟩) (okS.all _ trivial) (fun ad S Q Qc hC hc k => V_callV (as := [_, _]) (st := []) (M' := MX6_raise) (ci := 6) (pc2 := 44) (dk D_X6_callBy 22 rfl) ml_6_195 mv_X6_raise rfl rfl (by decide) rfl (Nat.le_of_ble_eq_true rfl) rfl he26 (hC.k' (fixH 79 6 (by decide) rfl)) hc k) hc27 (kRV.k fun  κ28 h mo29 => ?_)
        exact h
      · have h := h.2 q24
        refine K_p (pc2 := 30) (lv2 := [(0, vR 79), (1, vR _), (2, vI _), (3, vR _)]) (st2 := [vR _]) (fun ad S Q _ k => V_aload_n (pc2 := 30) (dk D_X6_callBy 15 rfl) rfl (V_lg 1 rfl) rfl k) ?_
        refine K_p (pc2 := 31) (lv2 := [(0, vR 79), (1, vR _), (2, vI _), (3, vR _)]) (st2 := [vR _, vR _]) (fun ad S Q _ k => V_aload_n (pc2 := 31) (dk D_X6_callBy 16 rfl) rfl (V_lg 3 rfl) rfl k) ?_
        obtain ⟨e30, he31, hc32⟩ := h
        refine K_call (as := [vR _, vR _]) (st := []) (pc2 := 34) (okL.all _ ⟨(Or.inr ⟨Or.inl ⟨by decide, by decide⟩, by decide⟩), (isH.ok (isH.mo (isH.mo (isH.mo h5 (by decide) mo7) (by decide) mo16) (by decide) mo23) (by decide)), trivial, (isH.ok (isH.mo (isH.mo h14 (by decide) mo16) (by decide) mo23) (by decide)), trivial⟩) (okS.all _ trivial) (fun ad S Q Qc hC hc k => V_callV (as := [_]) (st := []) (M' := MX10_enter) (ci := 10) (pc2 := 34) (dk D_X6_callBy 17 rfl) ml_6_263 mv_X10_enter rfl rfl (by decide) rfl (Nat.le_of_ble_eq_true rfl) rfl he31 (hC.k' (isH.mo (isH.mo (isH.mo h5 (by decide) mo7) (by decide) mo16) (by decide) mo23)) hc k) hc32 (kRV.k fun  κ33 h mo34 => ?_)
        refine K_p (pc2 := 44) (lv2 := [(0, vR 79), (1, vR _), (2, vI _), (3, vR _)]) (st2 := []) (fun ad S Q _ k => V_goto (tgt := 44) (dk D_X6_callBy 18 rfl) (by decide) k) ?_
        exact h
theorem k_6_callBy_21 {X : Cx} {d : Nat} {κ : Km} {Q : Res → Km → Prop} (r1 : Nat) (x2 : Int32) (r3 : Nat) (h : Q (.inl none) κ) : K X d MX6_callBy 21 [(0, vR 79), (1, vR r1), (2, vI x2), (3, vR r3)] [] κ Q := by
  exact K_ret (r := .inl none) (fun ad S Q _ k => V_return (dk D_X6_callBy 11 rfl) rfl k) h
theorem k_6_callBy_44 {X : Cx} {d : Nat} {κ : Km} {Q : Res → Km → Prop} (r1 : Nat) (x2 : Int32) (r3 : Nat) (h : Q (.inl none) κ) : K X d MX6_callBy 44 [(0, vR 79), (1, vR r1), (2, vI x2), (3, vR r3)] [] κ Q := by
  exact K_ret (r := .inl none) (fun ad S Q _ k => V_return (dk D_X6_callBy 23 rfl) rfl k) h
theorem k_6_yieldBy_0 {X : Cx} {d : Nat} {κ : Km} {Q : Res → Km → Prop} (r1 : Nat) (x2 : Int32) (h : (isH κ r1 10) ∧ (((kI κ r1 11) = 0 → ∀ κ3 : Km, κ3 = cI κ r1 1 1 → ∃ e4 : Nat, e4 + 1 ≤ d ∧ KC' X e4 MX6_goBack [vR 79, vR r1, vI x2, vI 0] κ3 (kRV fun  κ7 => K X d MX6_yieldBy 29 [(0, vR 79), (1, vR r1), (2, vI x2)] [] κ7 Q)) ∧ (¬ (kI κ r1 11) = 0 → ∃ e9 : Nat, e9 + 1 ≤ d ∧ KC' X e9 MX6_raise [vR 79, vR r1, vI 10] κ (kRV fun  κ12 => K X d MX6_yieldBy 29 [(0, vR 79), (1, vR r1), (2, vI x2)] [] κ12 Q)))) : K X d MX6_yieldBy 0 [(0, vR 79), (1, vR r1), (2, vI x2)] [] κ Q := by
  refine K_p (pc2 := 1) (lv2 := [(0, vR 79), (1, vR _), (2, vI _)]) (st2 := [vR _]) (fun ad S Q _ k => V_aload_n (pc2 := 1) (dk D_X6_yieldBy 0 rfl) rfl (V_lg 1 rfl) rfl k) ?_
  obtain ⟨h1, h⟩ := h
  refine K_getI kc10 (pc2 := 4) 11 (dk D_X6_yieldBy 1 rfl) fl_6_134 (by decide) (fun _ _ => rfl) rfl h1 ?_
  refine K_if (pa := 17) (pb := 7) (lv2 := [(0, vR 79), (1, vR _), (2, vI _)]) (st2 := []) (fun ad S Q _ k1 k2 => V_ifeq (tgt := 17) (pc2 := 7) (dk D_X6_yieldBy 2 rfl) (by decide) rfl (fun q => k1 q) (fun q => k2 q)) (fun q2 => ?_) (fun q2 => ?_)
  · have h := h.1 q2
    refine K_p (pc2 := 18) (lv2 := [(0, vR 79), (1, vR _), (2, vI _)]) (st2 := [vR _]) (fun ad S Q _ k => V_aload_n (pc2 := 18) (dk D_X6_yieldBy 8 rfl) rfl (V_lg 1 rfl) rfl k) ?_
    refine K_p (pc2 := 19) (lv2 := [(0, vR 79), (1, vR _), (2, vI _)]) (st2 := [vI _, vR _]) (fun ad S Q _ k => V_iconst (x := 1) (pc2 := 19) (dk D_X6_yieldBy 9 rfl) (by decide) rfl k) ?_
    refine K_putI kc10 (pc2 := 22) 1 (dk D_X6_yieldBy 10 rfl) fl_6_131 (by decide) (Or.inl rfl) rfl rfl h1 (isH.n69 h1 (by decide)) ?_
    have h := h _ rfl
    refine K_p (pc2 := 23) (lv2 := [(0, vR 79), (1, vR _), (2, vI _)]) (st2 := [vR 79]) (fun ad S Q _ k => V_aload_n (pc2 := 23) (dk D_X6_yieldBy 11 rfl) rfl (V_lg 0 rfl) rfl k) ?_
    refine K_p (pc2 := 24) (lv2 := [(0, vR 79), (1, vR _), (2, vI _)]) (st2 := [vR _, vR 79]) (fun ad S Q _ k => V_aload_n (pc2 := 24) (dk D_X6_yieldBy 12 rfl) rfl (V_lg 1 rfl) rfl k) ?_
    refine K_p (pc2 := 25) (lv2 := [(0, vR 79), (1, vR _), (2, vI _)]) (st2 := [vI _, vR _, vR 79]) (fun ad S Q _ k => V_iload_n (pc2 := 25) (dk D_X6_yieldBy 13 rfl) rfl (V_lg 2 rfl) rfl k) ?_
    refine K_p (pc2 := 26) (lv2 := [(0, vR 79), (1, vR _), (2, vI _)]) (st2 := [vI _, vI _, vR _, vR 79]) (fun ad S Q _ k => V_iconst (x := 0) (pc2 := 26) (dk D_X6_yieldBy 14 rfl) (by decide) rfl k) ?_
    obtain ⟨e4, he5, hc6⟩ := h
    refine K_call (as := [vR 79, vR _, vI _, vI _]) (st := []) (pc2 := 29) (okL.all _ ⟨(Or.inr ⟨Or.inl ⟨by decide, by decide⟩, by decide⟩), (isH.ok h1 (by decide)), trivial, trivial⟩) (okS.all _ trivial) (fun ad S Q Qc hC hc k => V_callV (as := [_, _, _]) (st := []) (M' := MX6_goBack) (ci := 6) (pc2 := 29) (dk D_X6_yieldBy 15 rfl) ml_6_267 mv_X6_goBack rfl rfl (by decide) rfl (Nat.le_of_ble_eq_true rfl) rfl he5 (hC.k' (fixH 79 6 (by decide) rfl)) hc k) hc6 (kRV.k fun  κ7 h mo8 => ?_)
    exact h
  · have h := h.2 q2
    refine K_p (pc2 := 8) (lv2 := [(0, vR 79), (1, vR _), (2, vI _)]) (st2 := [vR 79]) (fun ad S Q _ k => V_aload_n (pc2 := 8) (dk D_X6_yieldBy 3 rfl) rfl (V_lg 0 rfl) rfl k) ?_
    refine K_p (pc2 := 9) (lv2 := [(0, vR 79), (1, vR _), (2, vI _)]) (st2 := [vR _, vR 79]) (fun ad S Q _ k => V_aload_n (pc2 := 9) (dk D_X6_yieldBy 4 rfl) rfl (V_lg 1 rfl) rfl k) ?_
    refine K_p (pc2 := 11) (lv2 := [(0, vR 79), (1, vR _), (2, vI _)]) (st2 := [vI _, vR _, vR 79]) (fun ad S Q _ k => V_bipush (x := 10) (pc2 := 11) (dk D_X6_yieldBy 5 rfl) (by decide) rfl k) ?_
    obtain ⟨e9, he10, hc11⟩ := h
    refine K_call (as := [vR 79, vR _, vI _]) (st := []) (pc2 := 14) (okL.all _ ⟨(Or.inr ⟨Or.inl ⟨by decide, by decide⟩, by decide⟩), (isH.ok h1 (by decide)), trivial, trivial⟩) (okS.all _ trivial) (fun ad S Q Qc hC hc k => V_callV (as := [_, _]) (st := []) (M' := MX6_raise) (ci := 6) (pc2 := 14) (dk D_X6_yieldBy 6 rfl) ml_6_195 mv_X6_raise rfl rfl (by decide) rfl (Nat.le_of_ble_eq_true rfl) rfl he10 (hC.k' (fixH 79 6 (by decide) rfl)) hc k) hc11 (kRV.k fun  κ12 h mo13 => ?_)
    refine K_p (pc2 := 29) (lv2 := [(0, vR 79), (1, vR _), (2, vI _)]) (st2 := []) (fun ad S Q _ k => V_goto (tgt := 29) (dk D_X6_yieldBy 7 rfl) (by decide) k) ?_
    exact h
theorem k_6_yieldBy_29 {X : Cx} {d : Nat} {κ : Km} {Q : Res → Km → Prop} (r1 : Nat) (x2 : Int32) (h : Q (.inl none) κ) : K X d MX6_yieldBy 29 [(0, vR 79), (1, vR r1), (2, vI x2)] [] κ Q := by
  exact K_ret (r := .inl none) (fun ad S Q _ k => V_return (dk D_X6_yieldBy 16 rfl) rfl k) h
theorem k_6_resumeBy_0 {X : Cx} {d : Nat} {κ : Km} {Q : Res → Km → Prop} (r1 : Nat) (r2 : Nat) (x3 : Int32) (h : (r2 = 0 ∨ live κ r2) ∧ ((r2 = 0 → K X d MX6_resumeBy 11 [(0, vR 79), (1, vR r1), (2, vR r2), (3, vI x3)] [] κ Q) ∧ (¬ r2 = 0 → (isH κ r2 10) ∧ (isH κ r1 10) ∧ ∃ e3 : Nat, e3 + 1 ≤ d ∧ KC' X e3 MX10_isReady [vR r2] κ (kRI fun y6 κ9 => ((y6 = 0 → K X d MX6_resumeBy 11 [(0, vR 79), (1, vR r1), (2, vR r2), (3, vI x3)] [] κ9 Q) ∧ (¬ y6 = 0 → ∀ κ12 : Km, κ12 = cI κ9 r1 1 3 → ∀ κ13 : Km, κ13 = cI κ12 r2 5 (kI κ12 r1 0) → ∃ e14 : Nat, e14 + 1 ≤ d ∧ KC' X e14 MX6_give [vR 79, vI (kI κ13 r1 0), vR r2, vI x3] κ13 (kRV fun  κ17 => Q (.inl none) κ17))))))) : K X d MX6_resumeBy 0 [(0, vR 79), (1, vR r1), (2, vR r2), (3, vI x3)] [] κ Q := by
  refine K_p (pc2 := 1) (lv2 := [(0, vR 79), (1, vR _), (2, vR _), (3, vI _)]) (st2 := [vR _]) (fun ad S Q _ k => V_aload_n (pc2 := 1) (dk D_X6_resumeBy 0 rfl) rfl (V_lg 2 rfl) rfl k) ?_
  obtain ⟨h2, h⟩ := h
  refine K_ifnull (tgt := 11) (pc2 := 4) (dk D_X6_resumeBy 1 rfl) (by decide) rfl h2 (fun q1 => ?_) (fun q1 => ?_)
  · have h := h.1 q1
    exact h
  · have h := h.2 q1
    refine K_p (pc2 := 5) (lv2 := [(0, vR 79), (1, vR _), (2, vR _), (3, vI _)]) (st2 := [vR _]) (fun ad S Q _ k => V_aload_n (pc2 := 5) (dk D_X6_resumeBy 2 rfl) rfl (V_lg 2 rfl) rfl k) ?_
    obtain ⟨h7, h⟩ := h
    obtain ⟨h8, h⟩ := h
    obtain ⟨e3, he4, hc5⟩ := h
    refine K_call (as := [vR _]) (st := []) (pc2 := 8) (okL.all _ ⟨(Or.inr ⟨Or.inl ⟨by decide, by decide⟩, by decide⟩), (isH.ok h8 (by decide)), (isH.ok h7 (by decide)), trivial, trivial⟩) (okS.all _ trivial) (fun ad S Q Qc hC hc k => V_callV (as := []) (st := []) (M' := MX10_isReady) (ci := 10) (pc2 := 8) (dk D_X6_resumeBy 3 rfl) ml_6_270 mv_X10_isReady rfl rfl (by decide) rfl (Nat.le_of_ble_eq_true rfl) rfl he4 (hC.k' h7) hc k) hc5 (kRI.k fun y6 κ9 h mo10 => ?_)
    refine K_if (pa := 11) (pb := 18) (lv2 := [(0, vR 79), (1, vR _), (2, vR _), (3, vI _)]) (st2 := []) (fun ad S Q _ k1 k2 => V_ifne (tgt := 18) (pc2 := 11) (dk D_X6_resumeBy 4 rfl) (by decide) rfl (fun q => k2 q) (fun q => k1 q)) (fun q11 => ?_) (fun q11 => ?_)
    · have h := h.1 q11
      exact h
    · have h := h.2 q11
      refine K_p (pc2 := 19) (lv2 := [(0, vR 79), (1, vR _), (2, vR _), (3, vI _)]) (st2 := [vR _]) (fun ad S Q _ k => V_aload_n (pc2 := 19) (dk D_X6_resumeBy 10 rfl) rfl (V_lg 1 rfl) rfl k) ?_
      refine K_p (pc2 := 20) (lv2 := [(0, vR 79), (1, vR _), (2, vR _), (3, vI _)]) (st2 := [vI _, vR _]) (fun ad S Q _ k => V_iconst (x := 3) (pc2 := 20) (dk D_X6_resumeBy 11 rfl) (by decide) rfl k) ?_
      refine K_putI kc10 (pc2 := 23) 1 (dk D_X6_resumeBy 12 rfl) fl_6_131 (by decide) (Or.inl rfl) rfl rfl (isH.mo h8 (by decide) mo10) (isH.n69 (isH.mo h8 (by decide) mo10) (by decide)) ?_
      have h := h _ rfl
      refine K_p (pc2 := 24) (lv2 := [(0, vR 79), (1, vR _), (2, vR _), (3, vI _)]) (st2 := [vR _]) (fun ad S Q _ k => V_aload_n (pc2 := 24) (dk D_X6_resumeBy 13 rfl) rfl (V_lg 2 rfl) rfl k) ?_
      refine K_p (pc2 := 25) (lv2 := [(0, vR 79), (1, vR _), (2, vR _), (3, vI _)]) (st2 := [vR _, vR _]) (fun ad S Q _ k => V_aload_n (pc2 := 25) (dk D_X6_resumeBy 14 rfl) rfl (V_lg 1 rfl) rfl k) ?_
      refine K_getI kc10 (pc2 := 28) 0 (dk D_X6_resumeBy 15 rfl) fl_6_198 (by decide) (fun _ _ => rfl) rfl (isH.mo h8 (by decide) mo10) ?_
      refine K_putI kc10 (pc2 := 31) 5 (dk D_X6_resumeBy 16 rfl) fl_6_116 (by decide) (Or.inl rfl) rfl rfl (isH.mo h7 (by decide) mo10) (isH.n69 (isH.mo h7 (by decide) mo10) (by decide)) ?_
      have h := h _ rfl
      refine K_p (pc2 := 32) (lv2 := [(0, vR 79), (1, vR _), (2, vR _), (3, vI _)]) (st2 := [vR 79]) (fun ad S Q _ k => V_aload_n (pc2 := 32) (dk D_X6_resumeBy 17 rfl) rfl (V_lg 0 rfl) rfl k) ?_
      refine K_p (pc2 := 33) (lv2 := [(0, vR 79), (1, vR _), (2, vR _), (3, vI _)]) (st2 := [vR _, vR 79]) (fun ad S Q _ k => V_aload_n (pc2 := 33) (dk D_X6_resumeBy 18 rfl) rfl (V_lg 1 rfl) rfl k) ?_
      refine K_getI kc10 (pc2 := 36) 0 (dk D_X6_resumeBy 19 rfl) fl_6_198 (by decide) (fun _ _ => rfl) rfl (isH.mo h8 (by decide) mo10) ?_
      refine K_p (pc2 := 37) (lv2 := [(0, vR 79), (1, vR _), (2, vR _), (3, vI _)]) (st2 := [vR _, vI _, vR 79]) (fun ad S Q _ k => V_aload_n (pc2 := 37) (dk D_X6_resumeBy 20 rfl) rfl (V_lg 2 rfl) rfl k) ?_
      refine K_p (pc2 := 38) (lv2 := [(0, vR 79), (1, vR _), (2, vR _), (3, vI _)]) (st2 := [vI _, vR _, vI _, vR 79]) (fun ad S Q _ k => V_iload_n (pc2 := 38) (dk D_X6_resumeBy 21 rfl) rfl (V_lg 3 rfl) rfl k) ?_
      obtain ⟨e14, he15, hc16⟩ := h
      refine K_call (as := [vR 79, vI _, vR _, vI _]) (st := []) (pc2 := 41) (okL.all _ ⟨(Or.inr ⟨Or.inl ⟨by decide, by decide⟩, by decide⟩), (isH.ok (isH.mo h8 (by decide) mo10) (by decide)), (isH.ok (isH.mo h7 (by decide) mo10) (by decide)), trivial, trivial⟩) (okS.all _ trivial) (fun ad S Q Qc hC hc k => V_callV (as := [_, _, _]) (st := []) (M' := MX6_give) (ci := 6) (pc2 := 41) (dk D_X6_resumeBy 22 rfl) ml_6_119 mv_X6_give rfl rfl (by decide) rfl (Nat.le_of_ble_eq_true rfl) rfl he15 (hC.k' (fixH 79 6 (by decide) rfl)) hc k) hc16 (kRV.k fun  κ17 h mo18 => ?_)
      exact K_ret (r := .inl none) (fun ad S Q _ k => V_return (dk D_X6_resumeBy 23 rfl) rfl k) h
theorem k_6_resumeBy_11 {X : Cx} {d : Nat} {κ : Km} {Q : Res → Km → Prop} (r1 : Nat) (r2 : Nat) (x3 : Int32) (h : (isH κ r1 10) ∧ (isH κ r2 10) ∧ ∃ e1 : Nat, e1 + 1 ≤ d ∧ KC' X e1 MX6_misuse [vR 79, vR r1, vR r2] κ (kRV fun  κ6 => Q (.inl none) κ6)) : K X d MX6_resumeBy 11 [(0, vR 79), (1, vR r1), (2, vR r2), (3, vI x3)] [] κ Q := by
  refine K_p (pc2 := 12) (lv2 := [(0, vR 79), (1, vR _), (2, vR _), (3, vI _)]) (st2 := [vR 79]) (fun ad S Q _ k => V_aload_n (pc2 := 12) (dk D_X6_resumeBy 5 rfl) rfl (V_lg 0 rfl) rfl k) ?_
  refine K_p (pc2 := 13) (lv2 := [(0, vR 79), (1, vR _), (2, vR _), (3, vI _)]) (st2 := [vR _, vR 79]) (fun ad S Q _ k => V_aload_n (pc2 := 13) (dk D_X6_resumeBy 6 rfl) rfl (V_lg 1 rfl) rfl k) ?_
  refine K_p (pc2 := 14) (lv2 := [(0, vR 79), (1, vR _), (2, vR _), (3, vI _)]) (st2 := [vR _, vR _, vR 79]) (fun ad S Q _ k => V_aload_n (pc2 := 14) (dk D_X6_resumeBy 7 rfl) rfl (V_lg 2 rfl) rfl k) ?_
  obtain ⟨h4, h⟩ := h
  obtain ⟨h5, h⟩ := h
  obtain ⟨e1, he2, hc3⟩ := h
  refine K_call (as := [vR 79, vR _, vR _]) (st := []) (pc2 := 17) (okL.all _ ⟨(Or.inr ⟨Or.inl ⟨by decide, by decide⟩, by decide⟩), (isH.ok h4 (by decide)), (isH.ok h5 (by decide)), trivial, trivial⟩) (okS.all _ trivial) (fun ad S Q Qc hC hc k => V_callV (as := [_, _]) (st := []) (M' := MX6_misuse) (ci := 6) (pc2 := 17) (dk D_X6_resumeBy 8 rfl) ml_6_273 mv_X6_misuse rfl rfl (by decide) rfl (Nat.le_of_ble_eq_true rfl) rfl he2 (hC.k' (fixH 79 6 (by decide) rfl)) hc k) hc3 (kRV.k fun  κ6 h mo7 => ?_)
  exact K_ret (r := .inl none) (fun ad S Q _ k => V_return (dk D_X6_resumeBy 9 rfl) rfl k) h
theorem k_6_handBy_0 {X : Cx} {d : Nat} {κ : Km} {Q : Res → Km → Prop} (r1 : Nat) (h : (isH κ r1 10) ∧ ∃ e1 : Nat, e1 + 1 ≤ d ∧ KC' X e1 MX10_pop [vR r1] κ (kRI fun y4 κ6 => ∃ e8 : Nat, e8 + 1 ≤ d ∧ KC' X e8 MX10_pop [vR r1] κ6 (kRI fun y11 κ12 => ∃ e14 : Nat, e14 + 1 ≤ d ∧ KC' X e14 MX6_find [vR 79, vI y11] κ12 (kRR fun p17 κ18 => (((kI κ18 r1 11) = 0 → (p17 = 0 ∨ live κ18 p17) ∧ ((p17 = 0 → K X d MX6_handBy 42 [(0, vR 79), (1, vR r1), (2, vI y4), (3, vR p17)] [] κ18 Q) ∧ (¬ p17 = 0 → (isH κ18 p17 10) ∧ ∃ e23 : Nat, e23 + 1 ≤ d ∧ KC' X e23 MX10_isReady [vR p17] κ18 (kRI fun y26 κ28 => ((y26 = 0 → K X d MX6_handBy 42 [(0, vR 79), (1, vR r1), (2, vI y4), (3, vR p17)] [] κ28 Q) ∧ (¬ y26 = 0 → ∀ κ31 : Km, κ31 = cI κ28 r1 1 1 → ∀ κ32 : Km, κ32 = cI κ31 p17 5 (kI κ31 r1 5) → ∃ e33 : Nat, e33 + 1 ≤ d ∧ KC' X e33 MX6_give [vR 79, vI (kI κ32 r1 0), vR p17, vI y4] κ32 (kRV fun  κ36 => K X d MX6_handBy 74 [(0, vR 79), (1, vR r1), (2, vI y4), (3, vR p17)] [] κ36 Q))))))) ∧ (¬ (kI κ18 r1 11) = 0 → (isH κ18 p17 10) ∧ ∃ e38 : Nat, e38 + 1 ≤ d ∧ KC' X e38 MX6_raise [vR 79, vR r1, vI 10] κ18 (kRV fun  κ42 => K X d MX6_handBy 74 [(0, vR 79), (1, vR r1), (2, vI y4), (3, vR p17)] [] κ42 Q))))))) : K X d MX6_handBy 0 [(0, vR 79), (1, vR r1)] [] κ Q := by
  refine K_p (pc2 := 1) (lv2 := [(0, vR 79), (1, vR _)]) (st2 := [vR _]) (fun ad S Q _ k => V_aload_n (pc2 := 1) (dk D_X6_handBy 0 rfl) rfl (V_lg 1 rfl) rfl k) ?_
  obtain ⟨h5, h⟩ := h
  obtain ⟨e1, he2, hc3⟩ := h
  refine K_call (as := [vR _]) (st := []) (pc2 := 4) (okL.all _ ⟨(Or.inr ⟨Or.inl ⟨by decide, by decide⟩, by decide⟩), (isH.ok h5 (by decide)), trivial⟩) (okS.all _ trivial) (fun ad S Q Qc hC hc k => V_callV (as := []) (st := []) (M' := MX10_pop) (ci := 10) (pc2 := 4) (dk D_X6_handBy 1 rfl) ml_6_212 mv_X10_pop rfl rfl (by decide) rfl (Nat.le_of_ble_eq_true rfl) rfl he2 (hC.k' h5) hc k) hc3 (kRI.k fun y4 κ6 h mo7 => ?_)
  refine K_p (pc2 := 5) (lv2 := [(0, vR 79), (1, vR _), (2, vI _)]) (st2 := []) (fun ad S Q _ k => V_istore_n (pc2 := 5) (lv2 := [(0, _), (1, _), (2, _)]) (dk D_X6_handBy 2 rfl) rfl (by decide) rfl rfl k) ?_
  refine K_p (pc2 := 6) (lv2 := [(0, vR 79), (1, vR _), (2, vI _)]) (st2 := [vR 79]) (fun ad S Q _ k => V_aload_n (pc2 := 6) (dk D_X6_handBy 3 rfl) rfl (V_lg 0 rfl) rfl k) ?_
  refine K_p (pc2 := 7) (lv2 := [(0, vR 79), (1, vR _), (2, vI _)]) (st2 := [vR _, vR 79]) (fun ad S Q _ k => V_aload_n (pc2 := 7) (dk D_X6_handBy 4 rfl) rfl (V_lg 1 rfl) rfl k) ?_
  obtain ⟨e8, he9, hc10⟩ := h
  refine K_call (as := [vR _]) (st := [vR 79]) (pc2 := 10) (okL.all _ ⟨(Or.inr ⟨Or.inl ⟨by decide, by decide⟩, by decide⟩), (isH.ok (isH.mo h5 (by decide) mo7) (by decide)), trivial, trivial⟩) (okS.all _ ⟨(Or.inr ⟨Or.inl ⟨by decide, by decide⟩, by decide⟩), trivial⟩) (fun ad S Q Qc hC hc k => V_callV (as := []) (st := [_]) (M' := MX10_pop) (ci := 10) (pc2 := 10) (dk D_X6_handBy 5 rfl) ml_6_212 mv_X10_pop rfl rfl (by decide) rfl (Nat.le_of_ble_eq_true rfl) rfl he9 (hC.k' (isH.mo h5 (by decide) mo7)) hc k) hc10 (kRI.k fun y11 κ12 h mo13 => ?_)
  obtain ⟨e14, he15, hc16⟩ := h
  refine K_call (as := [vR 79, vI _]) (st := []) (pc2 := 13) (okL.all _ ⟨(Or.inr ⟨Or.inl ⟨by decide, by decide⟩, by decide⟩), (isH.ok (isH.mo (isH.mo h5 (by decide) mo7) (by decide) mo13) (by decide)), trivial, trivial⟩) (okS.all _ trivial) (fun ad S Q Qc hC hc k => V_callV (as := [_]) (st := []) (M' := MX6_find) (ci := 6) (pc2 := 13) (dk D_X6_handBy 6 rfl) ml_6_106 mv_X6_find rfl rfl (by decide) rfl (Nat.le_of_ble_eq_true rfl) rfl he15 (hC.k' (fixH 79 6 (by decide) rfl)) hc k) hc16 (kRR.k fun p17 κ18 h mo19 => ?_)
  refine K_p (pc2 := 14) (lv2 := [(0, vR 79), (1, vR _), (2, vI _), (3, vR _)]) (st2 := []) (fun ad S Q _ k => V_astore_n (pc2 := 14) (lv2 := [(0, _), (1, _), (2, _), (3, _)]) (dk D_X6_handBy 7 rfl) rfl (by decide) rfl rfl k) ?_
  refine K_p (pc2 := 15) (lv2 := [(0, vR 79), (1, vR _), (2, vI _), (3, vR _)]) (st2 := [vR _]) (fun ad S Q _ k => V_aload_n (pc2 := 15) (dk D_X6_handBy 8 rfl) rfl (V_lg 1 rfl) rfl k) ?_
  refine K_getI kc10 (pc2 := 18) 11 (dk D_X6_handBy 9 rfl) fl_6_134 (by decide) (fun _ _ => rfl) rfl (isH.mo (isH.mo (isH.mo h5 (by decide) mo7) (by decide) mo13) (by decide) mo19) ?_
  refine K_if (pa := 31) (pb := 21) (lv2 := [(0, vR 79), (1, vR _), (2, vI _), (3, vR _)]) (st2 := []) (fun ad S Q _ k1 k2 => V_ifeq (tgt := 31) (pc2 := 21) (dk D_X6_handBy 10 rfl) (by decide) rfl (fun q => k1 q) (fun q => k2 q)) (fun q20 => ?_) (fun q20 => ?_)
  · have h := h.1 q20
    refine K_p (pc2 := 32) (lv2 := [(0, vR 79), (1, vR _), (2, vI _), (3, vR _)]) (st2 := [vR _]) (fun ad S Q _ k => V_aload_n (pc2 := 32) (dk D_X6_handBy 16 rfl) rfl (V_lg 3 rfl) rfl k) ?_
    obtain ⟨h22, h⟩ := h
    refine K_ifnull (tgt := 42) (pc2 := 35) (dk D_X6_handBy 17 rfl) (by decide) rfl h22 (fun q21 => ?_) (fun q21 => ?_)
    · have h := h.1 q21
      exact h
    · have h := h.2 q21
      refine K_p (pc2 := 36) (lv2 := [(0, vR 79), (1, vR _), (2, vI _), (3, vR _)]) (st2 := [vR _]) (fun ad S Q _ k => V_aload_n (pc2 := 36) (dk D_X6_handBy 18 rfl) rfl (V_lg 3 rfl) rfl k) ?_
      obtain ⟨h27, h⟩ := h
      obtain ⟨e23, he24, hc25⟩ := h
      refine K_call (as := [vR _]) (st := []) (pc2 := 39) (okL.all _ ⟨(Or.inr ⟨Or.inl ⟨by decide, by decide⟩, by decide⟩), (isH.ok (isH.mo (isH.mo (isH.mo h5 (by decide) mo7) (by decide) mo13) (by decide) mo19) (by decide)), trivial, (isH.ok h27 (by decide)), trivial⟩) (okS.all _ trivial) (fun ad S Q Qc hC hc k => V_callV (as := []) (st := []) (M' := MX10_isReady) (ci := 10) (pc2 := 39) (dk D_X6_handBy 19 rfl) ml_6_270 mv_X10_isReady rfl rfl (by decide) rfl (Nat.le_of_ble_eq_true rfl) rfl he24 (hC.k' h27) hc k) hc25 (kRI.k fun y26 κ28 h mo29 => ?_)
      refine K_if (pa := 42) (pb := 51) (lv2 := [(0, vR 79), (1, vR _), (2, vI _), (3, vR _)]) (st2 := []) (fun ad S Q _ k1 k2 => V_ifne (tgt := 51) (pc2 := 42) (dk D_X6_handBy 20 rfl) (by decide) rfl (fun q => k2 q) (fun q => k1 q)) (fun q30 => ?_) (fun q30 => ?_)
      · have h := h.1 q30
        exact h
      · have h := h.2 q30
        refine K_p (pc2 := 52) (lv2 := [(0, vR 79), (1, vR _), (2, vI _), (3, vR _)]) (st2 := [vR _]) (fun ad S Q _ k => V_aload_n (pc2 := 52) (dk D_X6_handBy 26 rfl) rfl (V_lg 1 rfl) rfl k) ?_
        refine K_p (pc2 := 53) (lv2 := [(0, vR 79), (1, vR _), (2, vI _), (3, vR _)]) (st2 := [vI _, vR _]) (fun ad S Q _ k => V_iconst (x := 1) (pc2 := 53) (dk D_X6_handBy 27 rfl) (by decide) rfl k) ?_
        refine K_putI kc10 (pc2 := 56) 1 (dk D_X6_handBy 28 rfl) fl_6_131 (by decide) (Or.inl rfl) rfl rfl (isH.mo (isH.mo (isH.mo (isH.mo h5 (by decide) mo7) (by decide) mo13) (by decide) mo19) (by decide) mo29) (isH.n69 (isH.mo (isH.mo (isH.mo (isH.mo h5 (by decide) mo7) (by decide) mo13) (by decide) mo19) (by decide) mo29) (by decide)) ?_
        have h := h _ rfl
        refine K_p (pc2 := 57) (lv2 := [(0, vR 79), (1, vR _), (2, vI _), (3, vR _)]) (st2 := [vR _]) (fun ad S Q _ k => V_aload_n (pc2 := 57) (dk D_X6_handBy 29 rfl) rfl (V_lg 3 rfl) rfl k) ?_
        refine K_p (pc2 := 58) (lv2 := [(0, vR 79), (1, vR _), (2, vI _), (3, vR _)]) (st2 := [vR _, vR _]) (fun ad S Q _ k => V_aload_n (pc2 := 58) (dk D_X6_handBy 30 rfl) rfl (V_lg 1 rfl) rfl k) ?_
        refine K_getI kc10 (pc2 := 61) 5 (dk D_X6_handBy 31 rfl) fl_6_116 (by decide) (fun _ _ => rfl) rfl (isH.mo (isH.mo (isH.mo (isH.mo h5 (by decide) mo7) (by decide) mo13) (by decide) mo19) (by decide) mo29) ?_
        refine K_putI kc10 (pc2 := 64) 5 (dk D_X6_handBy 32 rfl) fl_6_116 (by decide) (Or.inl rfl) rfl rfl (isH.mo h27 (by decide) mo29) (isH.n69 (isH.mo h27 (by decide) mo29) (by decide)) ?_
        have h := h _ rfl
        refine K_p (pc2 := 65) (lv2 := [(0, vR 79), (1, vR _), (2, vI _), (3, vR _)]) (st2 := [vR 79]) (fun ad S Q _ k => V_aload_n (pc2 := 65) (dk D_X6_handBy 33 rfl) rfl (V_lg 0 rfl) rfl k) ?_
        refine K_p (pc2 := 66) (lv2 := [(0, vR 79), (1, vR _), (2, vI _), (3, vR _)]) (st2 := [vR _, vR 79]) (fun ad S Q _ k => V_aload_n (pc2 := 66) (dk D_X6_handBy 34 rfl) rfl (V_lg 1 rfl) rfl k) ?_
        refine K_getI kc10 (pc2 := 69) 0 (dk D_X6_handBy 35 rfl) fl_6_198 (by decide) (fun _ _ => rfl) rfl (isH.mo (isH.mo (isH.mo (isH.mo h5 (by decide) mo7) (by decide) mo13) (by decide) mo19) (by decide) mo29) ?_
        refine K_p (pc2 := 70) (lv2 := [(0, vR 79), (1, vR _), (2, vI _), (3, vR _)]) (st2 := [vR _, vI _, vR 79]) (fun ad S Q _ k => V_aload_n (pc2 := 70) (dk D_X6_handBy 36 rfl) rfl (V_lg 3 rfl) rfl k) ?_
        refine K_p (pc2 := 71) (lv2 := [(0, vR 79), (1, vR _), (2, vI _), (3, vR _)]) (st2 := [vI _, vR _, vI _, vR 79]) (fun ad S Q _ k => V_iload_n (pc2 := 71) (dk D_X6_handBy 37 rfl) rfl (V_lg 2 rfl) rfl k) ?_
        obtain ⟨e33, he34, hc35⟩ := h
        refine K_call (as := [vR 79, vI _, vR _, vI _]) (st := []) (pc2 := 74) (okL.all _ ⟨(Or.inr ⟨Or.inl ⟨by decide, by decide⟩, by decide⟩), (isH.ok (isH.mo (isH.mo (isH.mo (isH.mo h5 (by decide) mo7) (by decide) mo13) (by decide) mo19) (by decide) mo29) (by decide)), trivial, (isH.ok (isH.mo h27 (by decide) mo29) (by decide)), trivial⟩) (okS.all _ trivial) (fun ad S Q Qc hC hc k => V_callV (as := [_, _, _]) (st := []) (M' := MX6_give) (ci := 6) (pc2 := 74) (dk D_X6_handBy 38 rfl) ml_6_119 mv_X6_give rfl rfl (by decide) rfl (Nat.le_of_ble_eq_true rfl) rfl he34 (hC.k' (fixH 79 6 (by decide) rfl)) hc k) hc35 (kRV.k fun  κ36 h mo37 => ?_)
        exact h
  · have h := h.2 q20
    refine K_p (pc2 := 22) (lv2 := [(0, vR 79), (1, vR _), (2, vI _), (3, vR _)]) (st2 := [vR 79]) (fun ad S Q _ k => V_aload_n (pc2 := 22) (dk D_X6_handBy 11 rfl) rfl (V_lg 0 rfl) rfl k) ?_
    refine K_p (pc2 := 23) (lv2 := [(0, vR 79), (1, vR _), (2, vI _), (3, vR _)]) (st2 := [vR _, vR 79]) (fun ad S Q _ k => V_aload_n (pc2 := 23) (dk D_X6_handBy 12 rfl) rfl (V_lg 1 rfl) rfl k) ?_
    refine K_p (pc2 := 25) (lv2 := [(0, vR 79), (1, vR _), (2, vI _), (3, vR _)]) (st2 := [vI _, vR _, vR 79]) (fun ad S Q _ k => V_bipush (x := 10) (pc2 := 25) (dk D_X6_handBy 13 rfl) (by decide) rfl k) ?_
    obtain ⟨h41, h⟩ := h
    obtain ⟨e38, he39, hc40⟩ := h
    refine K_call (as := [vR 79, vR _, vI _]) (st := []) (pc2 := 28) (okL.all _ ⟨(Or.inr ⟨Or.inl ⟨by decide, by decide⟩, by decide⟩), (isH.ok (isH.mo (isH.mo (isH.mo h5 (by decide) mo7) (by decide) mo13) (by decide) mo19) (by decide)), trivial, (isH.ok h41 (by decide)), trivial⟩) (okS.all _ trivial) (fun ad S Q Qc hC hc k => V_callV (as := [_, _]) (st := []) (M' := MX6_raise) (ci := 6) (pc2 := 28) (dk D_X6_handBy 14 rfl) ml_6_195 mv_X6_raise rfl rfl (by decide) rfl (Nat.le_of_ble_eq_true rfl) rfl he39 (hC.k' (fixH 79 6 (by decide) rfl)) hc k) hc40 (kRV.k fun  κ42 h mo43 => ?_)
    refine K_p (pc2 := 74) (lv2 := [(0, vR 79), (1, vR _), (2, vI _), (3, vR _)]) (st2 := []) (fun ad S Q _ k => V_goto (tgt := 74) (dk D_X6_handBy 15 rfl) (by decide) k) ?_
    exact h
theorem k_6_handBy_42 {X : Cx} {d : Nat} {κ : Km} {Q : Res → Km → Prop} (r1 : Nat) (x2 : Int32) (r3 : Nat) (h : (isH κ r1 10) ∧ (isH κ r3 10) ∧ ∃ e1 : Nat, e1 + 1 ≤ d ∧ KC' X e1 MX6_misuse [vR 79, vR r1, vR r3] κ (kRV fun  κ6 => K X d MX6_handBy 74 [(0, vR 79), (1, vR r1), (2, vI x2), (3, vR r3)] [] κ6 Q)) : K X d MX6_handBy 42 [(0, vR 79), (1, vR r1), (2, vI x2), (3, vR r3)] [] κ Q := by
  refine K_p (pc2 := 43) (lv2 := [(0, vR 79), (1, vR _), (2, vI _), (3, vR _)]) (st2 := [vR 79]) (fun ad S Q _ k => V_aload_n (pc2 := 43) (dk D_X6_handBy 21 rfl) rfl (V_lg 0 rfl) rfl k) ?_
  refine K_p (pc2 := 44) (lv2 := [(0, vR 79), (1, vR _), (2, vI _), (3, vR _)]) (st2 := [vR _, vR 79]) (fun ad S Q _ k => V_aload_n (pc2 := 44) (dk D_X6_handBy 22 rfl) rfl (V_lg 1 rfl) rfl k) ?_
  refine K_p (pc2 := 45) (lv2 := [(0, vR 79), (1, vR _), (2, vI _), (3, vR _)]) (st2 := [vR _, vR _, vR 79]) (fun ad S Q _ k => V_aload_n (pc2 := 45) (dk D_X6_handBy 23 rfl) rfl (V_lg 3 rfl) rfl k) ?_
  obtain ⟨h4, h⟩ := h
  obtain ⟨h5, h⟩ := h
  obtain ⟨e1, he2, hc3⟩ := h
  refine K_call (as := [vR 79, vR _, vR _]) (st := []) (pc2 := 48) (okL.all _ ⟨(Or.inr ⟨Or.inl ⟨by decide, by decide⟩, by decide⟩), (isH.ok h4 (by decide)), trivial, (isH.ok h5 (by decide)), trivial⟩) (okS.all _ trivial) (fun ad S Q Qc hC hc k => V_callV (as := [_, _]) (st := []) (M' := MX6_misuse) (ci := 6) (pc2 := 48) (dk D_X6_handBy 24 rfl) ml_6_273 mv_X6_misuse rfl rfl (by decide) rfl (Nat.le_of_ble_eq_true rfl) rfl he2 (hC.k' (fixH 79 6 (by decide) rfl)) hc k) hc3 (kRV.k fun  κ6 h mo7 => ?_)
  refine K_p (pc2 := 74) (lv2 := [(0, vR 79), (1, vR _), (2, vI _), (3, vR _)]) (st2 := []) (fun ad S Q _ k => V_goto (tgt := 74) (dk D_X6_handBy 25 rfl) (by decide) k) ?_
  exact h
theorem k_6_handBy_74 {X : Cx} {d : Nat} {κ : Km} {Q : Res → Km → Prop} (r1 : Nat) (x2 : Int32) (r3 : Nat) (h : Q (.inl none) κ) : K X d MX6_handBy 74 [(0, vR 79), (1, vR r1), (2, vI x2), (3, vR r3)] [] κ Q := by
  exact K_ret (r := .inl none) (fun ad S Q _ k => V_return (dk D_X6_handBy 39 rfl) rfl k) h
theorem k_6_injectBy_0 {X : Cx} {d : Nat} {κ : Km} {Q : Res → Km → Prop} (r1 : Nat) (x2 : Int32) (h : (isH κ r1 10) ∧ ∃ e1 : Nat, e1 + 1 ≤ d ∧ KC' X e1 MX10_pop [vR r1] κ (kRI fun y4 κ6 => ∃ e8 : Nat, e8 + 1 ≤ d ∧ KC' X e8 MX10_pop [vR r1] κ6 (kRI fun y11 κ12 => ∃ e14 : Nat, e14 + 1 ≤ d ∧ KC' X e14 MX6_find [vR 79, vI y11] κ12 (kRR fun p17 κ18 => (p17 = 0 ∨ live κ18 p17) ∧ ((p17 = 0 → K X d MX6_injectBy 28 [(0, vR 79), (1, vR r1), (2, vI x2), (3, vI y4), (4, vR p17)] [] κ18 Q) ∧ (¬ p17 = 0 → (isH κ18 p17 10) ∧ ∃ e22 : Nat, e22 + 1 ≤ d ∧ KC' X e22 MX10_isReady [vR p17] κ18 (kRI fun y25 κ27 => ((y25 = 0 → K X d MX6_injectBy 28 [(0, vR 79), (1, vR r1), (2, vI x2), (3, vI y4), (4, vR p17)] [] κ27 Q) ∧ (¬ y25 = 0 → (((kI κ27 p17 1) = 1 → ∀ κ31 : Km, κ31 = cI κ27 r1 1 3 → K X d MX6_injectBy 50 [(0, vR 79), (1, vR r1), (2, vI x2), (3, vI y4), (4, vR p17)] [] κ31 Q) ∧ (¬ (kI κ27 p17 1) = 1 → K X d MX6_injectBy 50 [(0, vR 79), (1, vR r1), (2, vI x2), (3, vI y4), (4, vR p17)] [] κ27 Q))))))))))) : K X d MX6_injectBy 0 [(0, vR 79), (1, vR r1), (2, vI x2)] [] κ Q := by
  refine K_p (pc2 := 1) (lv2 := [(0, vR 79), (1, vR _), (2, vI _)]) (st2 := [vR _]) (fun ad S Q _ k => V_aload_n (pc2 := 1) (dk D_X6_injectBy 0 rfl) rfl (V_lg 1 rfl) rfl k) ?_
  obtain ⟨h5, h⟩ := h
  obtain ⟨e1, he2, hc3⟩ := h
  refine K_call (as := [vR _]) (st := []) (pc2 := 4) (okL.all _ ⟨(Or.inr ⟨Or.inl ⟨by decide, by decide⟩, by decide⟩), (isH.ok h5 (by decide)), trivial, trivial⟩) (okS.all _ trivial) (fun ad S Q Qc hC hc k => V_callV (as := []) (st := []) (M' := MX10_pop) (ci := 10) (pc2 := 4) (dk D_X6_injectBy 1 rfl) ml_6_212 mv_X10_pop rfl rfl (by decide) rfl (Nat.le_of_ble_eq_true rfl) rfl he2 (hC.k' h5) hc k) hc3 (kRI.k fun y4 κ6 h mo7 => ?_)
  refine K_p (pc2 := 5) (lv2 := [(0, vR 79), (1, vR _), (2, vI _), (3, vI _)]) (st2 := []) (fun ad S Q _ k => V_istore_n (pc2 := 5) (lv2 := [(0, _), (1, _), (2, _), (3, _)]) (dk D_X6_injectBy 2 rfl) rfl (by decide) rfl rfl k) ?_
  refine K_p (pc2 := 6) (lv2 := [(0, vR 79), (1, vR _), (2, vI _), (3, vI _)]) (st2 := [vR 79]) (fun ad S Q _ k => V_aload_n (pc2 := 6) (dk D_X6_injectBy 3 rfl) rfl (V_lg 0 rfl) rfl k) ?_
  refine K_p (pc2 := 7) (lv2 := [(0, vR 79), (1, vR _), (2, vI _), (3, vI _)]) (st2 := [vR _, vR 79]) (fun ad S Q _ k => V_aload_n (pc2 := 7) (dk D_X6_injectBy 4 rfl) rfl (V_lg 1 rfl) rfl k) ?_
  obtain ⟨e8, he9, hc10⟩ := h
  refine K_call (as := [vR _]) (st := [vR 79]) (pc2 := 10) (okL.all _ ⟨(Or.inr ⟨Or.inl ⟨by decide, by decide⟩, by decide⟩), (isH.ok (isH.mo h5 (by decide) mo7) (by decide)), trivial, trivial, trivial⟩) (okS.all _ ⟨(Or.inr ⟨Or.inl ⟨by decide, by decide⟩, by decide⟩), trivial⟩) (fun ad S Q Qc hC hc k => V_callV (as := []) (st := [_]) (M' := MX10_pop) (ci := 10) (pc2 := 10) (dk D_X6_injectBy 5 rfl) ml_6_212 mv_X10_pop rfl rfl (by decide) rfl (Nat.le_of_ble_eq_true rfl) rfl he9 (hC.k' (isH.mo h5 (by decide) mo7)) hc k) hc10 (kRI.k fun y11 κ12 h mo13 => ?_)
  obtain ⟨e14, he15, hc16⟩ := h
  refine K_call (as := [vR 79, vI _]) (st := []) (pc2 := 13) (okL.all _ ⟨(Or.inr ⟨Or.inl ⟨by decide, by decide⟩, by decide⟩), (isH.ok (isH.mo (isH.mo h5 (by decide) mo7) (by decide) mo13) (by decide)), trivial, trivial, trivial⟩) (okS.all _ trivial) (fun ad S Q Qc hC hc k => V_callV (as := [_]) (st := []) (M' := MX6_find) (ci := 6) (pc2 := 13) (dk D_X6_injectBy 6 rfl) ml_6_106 mv_X6_find rfl rfl (by decide) rfl (Nat.le_of_ble_eq_true rfl) rfl he15 (hC.k' (fixH 79 6 (by decide) rfl)) hc k) hc16 (kRR.k fun p17 κ18 h mo19 => ?_)
  refine K_p (pc2 := 15) (lv2 := [(0, vR 79), (1, vR _), (2, vI _), (3, vI _), (4, vR _)]) (st2 := []) (fun ad S Q _ k => V_astore (pc2 := 15) (lv2 := [(0, _), (1, _), (2, _), (3, _), (4, _)]) (dk D_X6_injectBy 7 rfl) (by decide) rfl rfl k) ?_
  refine K_p (pc2 := 17) (lv2 := [(0, vR 79), (1, vR _), (2, vI _), (3, vI _), (4, vR _)]) (st2 := [vR _]) (fun ad S Q _ k => V_aload (pc2 := 17) (dk D_X6_injectBy 8 rfl) (V_lg 4 rfl) rfl k) ?_
  obtain ⟨h21, h⟩ := h
  refine K_ifnull (tgt := 28) (pc2 := 20) (dk D_X6_injectBy 9 rfl) (by decide) rfl h21 (fun q20 => ?_) (fun q20 => ?_)
  · have h := h.1 q20
    exact h
  · have h := h.2 q20
    refine K_p (pc2 := 22) (lv2 := [(0, vR 79), (1, vR _), (2, vI _), (3, vI _), (4, vR _)]) (st2 := [vR _]) (fun ad S Q _ k => V_aload (pc2 := 22) (dk D_X6_injectBy 10 rfl) (V_lg 4 rfl) rfl k) ?_
    obtain ⟨h26, h⟩ := h
    obtain ⟨e22, he23, hc24⟩ := h
    refine K_call (as := [vR _]) (st := []) (pc2 := 25) (okL.all _ ⟨(Or.inr ⟨Or.inl ⟨by decide, by decide⟩, by decide⟩), (isH.ok (isH.mo (isH.mo (isH.mo h5 (by decide) mo7) (by decide) mo13) (by decide) mo19) (by decide)), trivial, trivial, (isH.ok h26 (by decide)), trivial⟩) (okS.all _ trivial) (fun ad S Q Qc hC hc k => V_callV (as := []) (st := []) (M' := MX10_isReady) (ci := 10) (pc2 := 25) (dk D_X6_injectBy 11 rfl) ml_6_270 mv_X10_isReady rfl rfl (by decide) rfl (Nat.le_of_ble_eq_true rfl) rfl he23 (hC.k' h26) hc k) hc24 (kRI.k fun y25 κ27 h mo28 => ?_)
    refine K_if (pa := 28) (pb := 36) (lv2 := [(0, vR 79), (1, vR _), (2, vI _), (3, vI _), (4, vR _)]) (st2 := []) (fun ad S Q _ k1 k2 => V_ifne (tgt := 36) (pc2 := 28) (dk D_X6_injectBy 12 rfl) (by decide) rfl (fun q => k2 q) (fun q => k1 q)) (fun q29 => ?_) (fun q29 => ?_)
    · have h := h.1 q29
      exact h
    · have h := h.2 q29
      refine K_p (pc2 := 38) (lv2 := [(0, vR 79), (1, vR _), (2, vI _), (3, vI _), (4, vR _)]) (st2 := [vR _]) (fun ad S Q _ k => V_aload (pc2 := 38) (dk D_X6_injectBy 18 rfl) (V_lg 4 rfl) rfl k) ?_
      refine K_getI kc10 (pc2 := 41) 1 (dk D_X6_injectBy 19 rfl) fl_6_131 (by decide) (fun _ _ => rfl) rfl (isH.mo h26 (by decide) mo28) ?_
      refine K_p (pc2 := 42) (lv2 := [(0, vR 79), (1, vR _), (2, vI _), (3, vI _), (4, vR _)]) (st2 := [vI _, vI _]) (fun ad S Q _ k => V_iconst (x := 1) (pc2 := 42) (dk D_X6_injectBy 20 rfl) (by decide) rfl k) ?_
      refine K_if (pa := 45) (pb := 50) (lv2 := [(0, vR 79), (1, vR _), (2, vI _), (3, vI _), (4, vR _)]) (st2 := []) (fun ad S Q _ k1 k2 => V_cmpne (tgt := 50) (pc2 := 45) (dk D_X6_injectBy 21 rfl) (by decide) rfl (fun q => k2 q) (fun q => k1 q)) (fun q30 => ?_) (fun q30 => ?_)
      · have h := h.1 q30
        refine K_p (pc2 := 46) (lv2 := [(0, vR 79), (1, vR _), (2, vI _), (3, vI _), (4, vR _)]) (st2 := [vR _]) (fun ad S Q _ k => V_aload_n (pc2 := 46) (dk D_X6_injectBy 22 rfl) rfl (V_lg 1 rfl) rfl k) ?_
        refine K_p (pc2 := 47) (lv2 := [(0, vR 79), (1, vR _), (2, vI _), (3, vI _), (4, vR _)]) (st2 := [vI _, vR _]) (fun ad S Q _ k => V_iconst (x := 3) (pc2 := 47) (dk D_X6_injectBy 23 rfl) (by decide) rfl k) ?_
        refine K_putI kc10 (pc2 := 50) 1 (dk D_X6_injectBy 24 rfl) fl_6_131 (by decide) (Or.inl rfl) rfl rfl (isH.mo (isH.mo (isH.mo (isH.mo h5 (by decide) mo7) (by decide) mo13) (by decide) mo19) (by decide) mo28) (isH.n69 (isH.mo (isH.mo (isH.mo (isH.mo h5 (by decide) mo7) (by decide) mo13) (by decide) mo19) (by decide) mo28) (by decide)) ?_
        have h := h _ rfl
        exact h
      · have h := h.2 q30
        exact h
theorem k_6_injectBy_28 {X : Cx} {d : Nat} {κ : Km} {Q : Res → Km → Prop} (r1 : Nat) (x2 : Int32) (x3 : Int32) (r4 : Nat) (h : (isH κ r1 10) ∧ (isH κ r4 10) ∧ ∃ e1 : Nat, e1 + 1 ≤ d ∧ KC' X e1 MX6_misuse [vR 79, vR r1, vR r4] κ (kRV fun  κ6 => Q (.inl none) κ6)) : K X d MX6_injectBy 28 [(0, vR 79), (1, vR r1), (2, vI x2), (3, vI x3), (4, vR r4)] [] κ Q := by
  refine K_p (pc2 := 29) (lv2 := [(0, vR 79), (1, vR _), (2, vI _), (3, vI _), (4, vR _)]) (st2 := [vR 79]) (fun ad S Q _ k => V_aload_n (pc2 := 29) (dk D_X6_injectBy 13 rfl) rfl (V_lg 0 rfl) rfl k) ?_
  refine K_p (pc2 := 30) (lv2 := [(0, vR 79), (1, vR _), (2, vI _), (3, vI _), (4, vR _)]) (st2 := [vR _, vR 79]) (fun ad S Q _ k => V_aload_n (pc2 := 30) (dk D_X6_injectBy 14 rfl) rfl (V_lg 1 rfl) rfl k) ?_
  refine K_p (pc2 := 32) (lv2 := [(0, vR 79), (1, vR _), (2, vI _), (3, vI _), (4, vR _)]) (st2 := [vR _, vR _, vR 79]) (fun ad S Q _ k => V_aload (pc2 := 32) (dk D_X6_injectBy 15 rfl) (V_lg 4 rfl) rfl k) ?_
  obtain ⟨h4, h⟩ := h
  obtain ⟨h5, h⟩ := h
  obtain ⟨e1, he2, hc3⟩ := h
  refine K_call (as := [vR 79, vR _, vR _]) (st := []) (pc2 := 35) (okL.all _ ⟨(Or.inr ⟨Or.inl ⟨by decide, by decide⟩, by decide⟩), (isH.ok h4 (by decide)), trivial, trivial, (isH.ok h5 (by decide)), trivial⟩) (okS.all _ trivial) (fun ad S Q Qc hC hc k => V_callV (as := [_, _]) (st := []) (M' := MX6_misuse) (ci := 6) (pc2 := 35) (dk D_X6_injectBy 16 rfl) ml_6_273 mv_X6_misuse rfl rfl (by decide) rfl (Nat.le_of_ble_eq_true rfl) rfl he2 (hC.k' (fixH 79 6 (by decide) rfl)) hc k) hc3 (kRV.k fun  κ6 h mo7 => ?_)
  exact K_ret (r := .inl none) (fun ad S Q _ k => V_return (dk D_X6_injectBy 17 rfl) rfl k) h
theorem k_6_injectBy_50 {X : Cx} {d : Nat} {κ : Km} {Q : Res → Km → Prop} (r1 : Nat) (x2 : Int32) (x3 : Int32) (r4 : Nat) (h : (isH κ r1 10) ∧ (isH κ r4 10) ∧ ∃ e2 : Nat, e2 + 1 ≤ d ∧ KC' X e2 MX10_place [vR r1] κ (kRI fun y5 κ7 => ∃ e9 : Nat, e9 + 1 ≤ d ∧ KC' X e9 MX2_make [vR 84, vI x2, vI x3, vI (kI κ r1 0), vI y5, vI 0] κ7 (kRI fun y12 κ13 => ∃ e15 : Nat, e15 + 1 ≤ d ∧ KC' X e15 MX6_throwInto [vR 79, vR r4, vI (kI κ r1 0), vI y12] κ13 (kRV fun  κ18 => Q (.inl none) κ18)))) : K X d MX6_injectBy 50 [(0, vR 79), (1, vR r1), (2, vI x2), (3, vI x3), (4, vR r4)] [] κ Q := by
  refine K_p (pc2 := 51) (lv2 := [(0, vR 79), (1, vR _), (2, vI _), (3, vI _), (4, vR _)]) (st2 := [vR 79]) (fun ad S Q _ k => V_aload_n (pc2 := 51) (dk D_X6_injectBy 25 rfl) rfl (V_lg 0 rfl) rfl k) ?_
  refine K_p (pc2 := 53) (lv2 := [(0, vR 79), (1, vR _), (2, vI _), (3, vI _), (4, vR _)]) (st2 := [vR _, vR 79]) (fun ad S Q _ k => V_aload (pc2 := 53) (dk D_X6_injectBy 26 rfl) (V_lg 4 rfl) rfl k) ?_
  refine K_p (pc2 := 54) (lv2 := [(0, vR 79), (1, vR _), (2, vI _), (3, vI _), (4, vR _)]) (st2 := [vR _, vR _, vR 79]) (fun ad S Q _ k => V_aload_n (pc2 := 54) (dk D_X6_injectBy 27 rfl) rfl (V_lg 1 rfl) rfl k) ?_
  obtain ⟨h1, h⟩ := h
  refine K_getI kc10 (pc2 := 57) 0 (dk D_X6_injectBy 28 rfl) fl_6_198 (by decide) (fun _ _ => rfl) rfl h1 ?_
  refine K_p (pc2 := 58) (lv2 := [(0, vR 79), (1, vR _), (2, vI _), (3, vI _), (4, vR _)]) (st2 := [vR 79, vI _, vR _, vR 79]) (fun ad S Q _ k => V_aload_n (pc2 := 58) (dk D_X6_injectBy 29 rfl) rfl (V_lg 0 rfl) rfl k) ?_
  refine K_getF kc6 (h' := 84) (pc2 := 61) 2 (by decide) (dk D_X6_injectBy 30 rfl) fl_6_24 (by decide) (fun _ _ => rfl) rfl (fixH 79 6 (by decide) rfl) (by decide) ?_
  refine K_p (pc2 := 62) (lv2 := [(0, vR 79), (1, vR _), (2, vI _), (3, vI _), (4, vR _)]) (st2 := [vI _, vR 84, vI _, vR _, vR 79]) (fun ad S Q _ k => V_iload_n (pc2 := 62) (dk D_X6_injectBy 31 rfl) rfl (V_lg 2 rfl) rfl k) ?_
  refine K_p (pc2 := 63) (lv2 := [(0, vR 79), (1, vR _), (2, vI _), (3, vI _), (4, vR _)]) (st2 := [vI _, vI _, vR 84, vI _, vR _, vR 79]) (fun ad S Q _ k => V_iload_n (pc2 := 63) (dk D_X6_injectBy 32 rfl) rfl (V_lg 3 rfl) rfl k) ?_
  refine K_p (pc2 := 64) (lv2 := [(0, vR 79), (1, vR _), (2, vI _), (3, vI _), (4, vR _)]) (st2 := [vR _, vI _, vI _, vR 84, vI _, vR _, vR 79]) (fun ad S Q _ k => V_aload_n (pc2 := 64) (dk D_X6_injectBy 33 rfl) rfl (V_lg 1 rfl) rfl k) ?_
  refine K_getI kc10 (pc2 := 67) 0 (dk D_X6_injectBy 34 rfl) fl_6_198 (by decide) (fun _ _ => rfl) rfl h1 ?_
  refine K_p (pc2 := 68) (lv2 := [(0, vR 79), (1, vR _), (2, vI _), (3, vI _), (4, vR _)]) (st2 := [vR _, vI _, vI _, vI _, vR 84, vI _, vR _, vR 79]) (fun ad S Q _ k => V_aload_n (pc2 := 68) (dk D_X6_injectBy 35 rfl) rfl (V_lg 1 rfl) rfl k) ?_
  obtain ⟨h6, h⟩ := h
  obtain ⟨e2, he3, hc4⟩ := h
  refine K_call (as := [vR _]) (st := [vI _, vI _, vI _, vR 84, vI _, vR _, vR 79]) (pc2 := 71) (okL.all _ ⟨(Or.inr ⟨Or.inl ⟨by decide, by decide⟩, by decide⟩), (isH.ok h1 (by decide)), trivial, trivial, (isH.ok h6 (by decide)), trivial⟩) (okS.all _ ⟨trivial, trivial, trivial, (Or.inr ⟨Or.inl ⟨by decide, by decide⟩, by decide⟩), trivial, (isH.ok h6 (by decide)), (Or.inr ⟨Or.inl ⟨by decide, by decide⟩, by decide⟩), trivial⟩) (fun ad S Q Qc hC hc k => V_callV (as := []) (st := [_, _, _, _, _, _, _]) (M' := MX10_place) (ci := 10) (pc2 := 71) (dk D_X6_injectBy 36 rfl) ml_6_201 mv_X10_place rfl rfl (by decide) rfl (Nat.le_of_ble_eq_true rfl) rfl he3 (hC.k' h1) hc k) hc4 (kRI.k fun y5 κ7 h mo8 => ?_)
  refine K_p (pc2 := 72) (lv2 := [(0, vR 79), (1, vR _), (2, vI _), (3, vI _), (4, vR _)]) (st2 := [vI _, vI _, vI _, vI _, vI _, vR 84, vI _, vR _, vR 79]) (fun ad S Q _ k => V_iconst (x := 0) (pc2 := 72) (dk D_X6_injectBy 37 rfl) (by decide) rfl k) ?_
  obtain ⟨e9, he10, hc11⟩ := h
  refine K_call (as := [vR 84, vI _, vI _, vI _, vI _, vI _]) (st := [vI _, vR _, vR 79]) (pc2 := 75) (okL.all _ ⟨(Or.inr ⟨Or.inl ⟨by decide, by decide⟩, by decide⟩), (isH.ok (isH.mo h1 (by decide) mo8) (by decide)), trivial, trivial, (isH.ok (isH.mo h6 (by decide) mo8) (by decide)), trivial⟩) (okS.all _ ⟨trivial, (isH.ok (isH.mo h6 (by decide) mo8) (by decide)), (Or.inr ⟨Or.inl ⟨by decide, by decide⟩, by decide⟩), trivial⟩) (fun ad S Q Qc hC hc k => V_callV (as := [_, _, _, _, _]) (st := [_, _, _]) (M' := MX2_make) (ci := 2) (pc2 := 75) (dk D_X6_injectBy 38 rfl) ml_6_123 mv_X2_make rfl rfl (by decide) rfl (Nat.le_of_ble_eq_true rfl) rfl he10 (hC.k' (fixH 84 2 (by decide) rfl)) hc k) hc11 (kRI.k fun y12 κ13 h mo14 => ?_)
  obtain ⟨e15, he16, hc17⟩ := h
  refine K_call (as := [vR 79, vR _, vI _, vI _]) (st := []) (pc2 := 78) (okL.all _ ⟨(Or.inr ⟨Or.inl ⟨by decide, by decide⟩, by decide⟩), (isH.ok (isH.mo (isH.mo h1 (by decide) mo8) (by decide) mo14) (by decide)), trivial, trivial, (isH.ok (isH.mo (isH.mo h6 (by decide) mo8) (by decide) mo14) (by decide)), trivial⟩) (okS.all _ trivial) (fun ad S Q Qc hC hc k => V_callV (as := [_, _, _]) (st := []) (M' := MX6_throwInto) (ci := 6) (pc2 := 78) (dk D_X6_injectBy 39 rfl) ml_6_127 mv_X6_throwInto rfl rfl (by decide) rfl (Nat.le_of_ble_eq_true rfl) rfl he16 (hC.k' (fixH 79 6 (by decide) rfl)) hc k) hc17 (kRV.k fun  κ18 h mo19 => ?_)
  exact K_ret (r := .inl none) (fun ad S Q _ k => V_return (dk D_X6_injectBy 40 rfl) rfl k) h
theorem k_6_closeBy_0 {X : Cx} {d : Nat} {κ : Km} {Q : Res → Km → Prop} (r1 : Nat) (r2 : Nat) (h : (r2 = 0 ∨ live κ r2) ∧ ((r2 = 0 → K X d MX6_closeBy 20 [(0, vR 79), (1, vR r1), (2, vR r2)] [] κ Q) ∧ (¬ r2 = 0 → (isH κ r2 10) ∧ (((kI κ r2 1) = 2 → K X d MX6_closeBy 20 [(0, vR 79), (1, vR r1), (2, vR r2)] [] κ Q) ∧ (¬ (kI κ r2 1) = 2 → (((kI κ r2 1) = 3 → K X d MX6_closeBy 20 [(0, vR 79), (1, vR r1), (2, vR r2)] [] κ Q) ∧ (¬ (kI κ r2 1) = 3 → (((kI κ r2 1) = 0 → (isH κ r1 10) ∧ ∃ e7 : Nat, e7 + 1 ≤ d ∧ KC' X e7 MX6_end [vR 79, vR r2, vI 6] κ (kRV fun  κ11 => K X d MX6_closeBy 92 [(0, vR 79), (1, vR r1), (2, vR r2)] [] κ11 Q)) ∧ (¬ (kI κ r2 1) = 0 → (((kI κ r2 1) = 1 → (isH κ r1 10) ∧ ∀ κ15 : Km, κ15 = cI κ r1 1 3 → ∀ κ16 : Km, κ16 = cI κ15 r2 11 1 → ∃ e17 : Nat, e17 + 1 ≤ d ∧ KC' X e17 MX10_place [vR r1] κ16 (kRI fun y20 κ21 => ∃ e23 : Nat, e23 + 1 ≤ d ∧ KC' X e23 MX2_make [vR 84, vI 14, vI 0, vI (kI κ16 r1 0), vI y20, vI 0] κ21 (kRI fun y26 κ27 => ∃ e29 : Nat, e29 + 1 ≤ d ∧ KC' X e29 MX6_throwInto [vR 79, vR r2, vI (kI κ16 r1 0), vI y26] κ27 (kRV fun  κ32 => K X d MX6_closeBy 92 [(0, vR 79), (1, vR r1), (2, vR r2)] [] κ32 Q)))) ∧ (¬ (kI κ r2 1) = 1 → K X d MX6_closeBy 92 [(0, vR 79), (1, vR r1), (2, vR r2)] [] κ Q))))))))))) : K X d MX6_closeBy 0 [(0, vR 79), (1, vR r1), (2, vR r2)] [] κ Q := by
  refine K_p (pc2 := 1) (lv2 := [(0, vR 79), (1, vR _), (2, vR _)]) (st2 := [vR _]) (fun ad S Q _ k => V_aload_n (pc2 := 1) (dk D_X6_closeBy 0 rfl) rfl (V_lg 2 rfl) rfl k) ?_
  obtain ⟨h2, h⟩ := h
  refine K_ifnull (tgt := 20) (pc2 := 4) (dk D_X6_closeBy 1 rfl) (by decide) rfl h2 (fun q1 => ?_) (fun q1 => ?_)
  · have h := h.1 q1
    exact h
  · have h := h.2 q1
    refine K_p (pc2 := 5) (lv2 := [(0, vR 79), (1, vR _), (2, vR _)]) (st2 := [vR _]) (fun ad S Q _ k => V_aload_n (pc2 := 5) (dk D_X6_closeBy 2 rfl) rfl (V_lg 2 rfl) rfl k) ?_
    obtain ⟨h3, h⟩ := h
    refine K_getI kc10 (pc2 := 8) 1 (dk D_X6_closeBy 3 rfl) fl_6_131 (by decide) (fun _ _ => rfl) rfl h3 ?_
    refine K_p (pc2 := 9) (lv2 := [(0, vR 79), (1, vR _), (2, vR _)]) (st2 := [vI _, vI _]) (fun ad S Q _ k => V_iconst (x := 2) (pc2 := 9) (dk D_X6_closeBy 4 rfl) (by decide) rfl k) ?_
    refine K_if (pa := 20) (pb := 12) (lv2 := [(0, vR 79), (1, vR _), (2, vR _)]) (st2 := []) (fun ad S Q _ k1 k2 => V_cmpeq (tgt := 20) (pc2 := 12) (dk D_X6_closeBy 5 rfl) (by decide) rfl (fun q => k1 q) (fun q => k2 q)) (fun q4 => ?_) (fun q4 => ?_)
    · have h := h.1 q4
      exact h
    · have h := h.2 q4
      refine K_p (pc2 := 13) (lv2 := [(0, vR 79), (1, vR _), (2, vR _)]) (st2 := [vR _]) (fun ad S Q _ k => V_aload_n (pc2 := 13) (dk D_X6_closeBy 6 rfl) rfl (V_lg 2 rfl) rfl k) ?_
      refine K_getI kc10 (pc2 := 16) 1 (dk D_X6_closeBy 7 rfl) fl_6_131 (by decide) (fun _ _ => rfl) rfl h3 ?_
      refine K_p (pc2 := 17) (lv2 := [(0, vR 79), (1, vR _), (2, vR _)]) (st2 := [vI _, vI _]) (fun ad S Q _ k => V_iconst (x := 3) (pc2 := 17) (dk D_X6_closeBy 8 rfl) (by decide) rfl k) ?_
      refine K_if (pa := 20) (pb := 29) (lv2 := [(0, vR 79), (1, vR _), (2, vR _)]) (st2 := []) (fun ad S Q _ k1 k2 => V_cmpne (tgt := 29) (pc2 := 20) (dk D_X6_closeBy 9 rfl) (by decide) rfl (fun q => k2 q) (fun q => k1 q)) (fun q5 => ?_) (fun q5 => ?_)
      · have h := h.1 q5
        exact h
      · have h := h.2 q5
        refine K_p (pc2 := 30) (lv2 := [(0, vR 79), (1, vR _), (2, vR _)]) (st2 := [vR _]) (fun ad S Q _ k => V_aload_n (pc2 := 30) (dk D_X6_closeBy 15 rfl) rfl (V_lg 2 rfl) rfl k) ?_
        refine K_getI kc10 (pc2 := 33) 1 (dk D_X6_closeBy 16 rfl) fl_6_131 (by decide) (fun _ _ => rfl) rfl h3 ?_
        refine K_if (pa := 36) (pb := 46) (lv2 := [(0, vR 79), (1, vR _), (2, vR _)]) (st2 := []) (fun ad S Q _ k1 k2 => V_ifne (tgt := 46) (pc2 := 36) (dk D_X6_closeBy 17 rfl) (by decide) rfl (fun q => k2 q) (fun q => k1 q)) (fun q6 => ?_) (fun q6 => ?_)
        · have h := h.1 q6
          refine K_p (pc2 := 37) (lv2 := [(0, vR 79), (1, vR _), (2, vR _)]) (st2 := [vR 79]) (fun ad S Q _ k => V_aload_n (pc2 := 37) (dk D_X6_closeBy 18 rfl) rfl (V_lg 0 rfl) rfl k) ?_
          refine K_p (pc2 := 38) (lv2 := [(0, vR 79), (1, vR _), (2, vR _)]) (st2 := [vR _, vR 79]) (fun ad S Q _ k => V_aload_n (pc2 := 38) (dk D_X6_closeBy 19 rfl) rfl (V_lg 2 rfl) rfl k) ?_
          refine K_p (pc2 := 40) (lv2 := [(0, vR 79), (1, vR _), (2, vR _)]) (st2 := [vI _, vR _, vR 79]) (fun ad S Q _ k => V_bipush (x := 6) (pc2 := 40) (dk D_X6_closeBy 20 rfl) (by decide) rfl k) ?_
          obtain ⟨h10, h⟩ := h
          obtain ⟨e7, he8, hc9⟩ := h
          refine K_call (as := [vR 79, vR _, vI _]) (st := []) (pc2 := 43) (okL.all _ ⟨(Or.inr ⟨Or.inl ⟨by decide, by decide⟩, by decide⟩), (isH.ok h10 (by decide)), (isH.ok h3 (by decide)), trivial⟩) (okS.all _ trivial) (fun ad S Q Qc hC hc k => V_callV (as := [_, _]) (st := []) (M' := MX6_end) (ci := 6) (pc2 := 43) (dk D_X6_closeBy 21 rfl) ml_6_113 mv_X6_end rfl rfl (by decide) rfl (Nat.le_of_ble_eq_true rfl) rfl he8 (hC.k' (fixH 79 6 (by decide) rfl)) hc k) hc9 (kRV.k fun  κ11 h mo12 => ?_)
          refine K_p (pc2 := 92) (lv2 := [(0, vR 79), (1, vR _), (2, vR _)]) (st2 := []) (fun ad S Q _ k => V_goto (tgt := 92) (dk D_X6_closeBy 22 rfl) (by decide) k) ?_
          exact h
        · have h := h.2 q6
          refine K_p (pc2 := 47) (lv2 := [(0, vR 79), (1, vR _), (2, vR _)]) (st2 := [vR _]) (fun ad S Q _ k => V_aload_n (pc2 := 47) (dk D_X6_closeBy 23 rfl) rfl (V_lg 2 rfl) rfl k) ?_
          refine K_getI kc10 (pc2 := 50) 1 (dk D_X6_closeBy 24 rfl) fl_6_131 (by decide) (fun _ _ => rfl) rfl h3 ?_
          refine K_p (pc2 := 51) (lv2 := [(0, vR 79), (1, vR _), (2, vR _)]) (st2 := [vI _, vI _]) (fun ad S Q _ k => V_iconst (x := 1) (pc2 := 51) (dk D_X6_closeBy 25 rfl) (by decide) rfl k) ?_
          refine K_if (pa := 54) (pb := 92) (lv2 := [(0, vR 79), (1, vR _), (2, vR _)]) (st2 := []) (fun ad S Q _ k1 k2 => V_cmpne (tgt := 92) (pc2 := 54) (dk D_X6_closeBy 26 rfl) (by decide) rfl (fun q => k2 q) (fun q => k1 q)) (fun q13 => ?_) (fun q13 => ?_)
          · have h := h.1 q13
            refine K_p (pc2 := 55) (lv2 := [(0, vR 79), (1, vR _), (2, vR _)]) (st2 := [vR _]) (fun ad S Q _ k => V_aload_n (pc2 := 55) (dk D_X6_closeBy 27 rfl) rfl (V_lg 1 rfl) rfl k) ?_
            refine K_p (pc2 := 56) (lv2 := [(0, vR 79), (1, vR _), (2, vR _)]) (st2 := [vI _, vR _]) (fun ad S Q _ k => V_iconst (x := 3) (pc2 := 56) (dk D_X6_closeBy 28 rfl) (by decide) rfl k) ?_
            obtain ⟨h14, h⟩ := h
            refine K_putI kc10 (pc2 := 59) 1 (dk D_X6_closeBy 29 rfl) fl_6_131 (by decide) (Or.inl rfl) rfl rfl h14 (isH.n69 h14 (by decide)) ?_
            have h := h _ rfl
            refine K_p (pc2 := 60) (lv2 := [(0, vR 79), (1, vR _), (2, vR _)]) (st2 := [vR _]) (fun ad S Q _ k => V_aload_n (pc2 := 60) (dk D_X6_closeBy 30 rfl) rfl (V_lg 2 rfl) rfl k) ?_
            refine K_p (pc2 := 61) (lv2 := [(0, vR 79), (1, vR _), (2, vR _)]) (st2 := [vI _, vR _]) (fun ad S Q _ k => V_iconst (x := 1) (pc2 := 61) (dk D_X6_closeBy 31 rfl) (by decide) rfl k) ?_
            refine K_putZ kc10 (pc2 := 64) 11 (dk D_X6_closeBy 32 rfl) fl_6_134 (by decide) (Or.inl rfl) rfl rfl h3 (isH.n69 h3 (by decide)) (Or.inr rfl) ?_
            have h := h _ rfl
            refine K_p (pc2 := 65) (lv2 := [(0, vR 79), (1, vR _), (2, vR _)]) (st2 := [vR 79]) (fun ad S Q _ k => V_aload_n (pc2 := 65) (dk D_X6_closeBy 33 rfl) rfl (V_lg 0 rfl) rfl k) ?_
            refine K_p (pc2 := 66) (lv2 := [(0, vR 79), (1, vR _), (2, vR _)]) (st2 := [vR _, vR 79]) (fun ad S Q _ k => V_aload_n (pc2 := 66) (dk D_X6_closeBy 34 rfl) rfl (V_lg 2 rfl) rfl k) ?_
            refine K_p (pc2 := 67) (lv2 := [(0, vR 79), (1, vR _), (2, vR _)]) (st2 := [vR _, vR _, vR 79]) (fun ad S Q _ k => V_aload_n (pc2 := 67) (dk D_X6_closeBy 35 rfl) rfl (V_lg 1 rfl) rfl k) ?_
            refine K_getI kc10 (pc2 := 70) 0 (dk D_X6_closeBy 36 rfl) fl_6_198 (by decide) (fun _ _ => rfl) rfl h14 ?_
            refine K_p (pc2 := 71) (lv2 := [(0, vR 79), (1, vR _), (2, vR _)]) (st2 := [vR 79, vI _, vR _, vR 79]) (fun ad S Q _ k => V_aload_n (pc2 := 71) (dk D_X6_closeBy 37 rfl) rfl (V_lg 0 rfl) rfl k) ?_
            refine K_getF kc6 (h' := 84) (pc2 := 74) 2 (by decide) (dk D_X6_closeBy 38 rfl) fl_6_24 (by decide) (fun _ _ => rfl) rfl (fixH 79 6 (by decide) rfl) (by decide) ?_
            refine K_p (pc2 := 76) (lv2 := [(0, vR 79), (1, vR _), (2, vR _)]) (st2 := [vI _, vR 84, vI _, vR _, vR 79]) (fun ad S Q _ k => V_bipush (x := 14) (pc2 := 76) (dk D_X6_closeBy 39 rfl) (by decide) rfl k) ?_
            refine K_p (pc2 := 77) (lv2 := [(0, vR 79), (1, vR _), (2, vR _)]) (st2 := [vI _, vI _, vR 84, vI _, vR _, vR 79]) (fun ad S Q _ k => V_iconst (x := 0) (pc2 := 77) (dk D_X6_closeBy 40 rfl) (by decide) rfl k) ?_
            refine K_p (pc2 := 78) (lv2 := [(0, vR 79), (1, vR _), (2, vR _)]) (st2 := [vR _, vI _, vI _, vR 84, vI _, vR _, vR 79]) (fun ad S Q _ k => V_aload_n (pc2 := 78) (dk D_X6_closeBy 41 rfl) rfl (V_lg 1 rfl) rfl k) ?_
            refine K_getI kc10 (pc2 := 81) 0 (dk D_X6_closeBy 42 rfl) fl_6_198 (by decide) (fun _ _ => rfl) rfl h14 ?_
            refine K_p (pc2 := 82) (lv2 := [(0, vR 79), (1, vR _), (2, vR _)]) (st2 := [vR _, vI _, vI _, vI _, vR 84, vI _, vR _, vR 79]) (fun ad S Q _ k => V_aload_n (pc2 := 82) (dk D_X6_closeBy 43 rfl) rfl (V_lg 1 rfl) rfl k) ?_
            obtain ⟨e17, he18, hc19⟩ := h
            refine K_call (as := [vR _]) (st := [vI _, vI _, vI _, vR 84, vI _, vR _, vR 79]) (pc2 := 85) (okL.all _ ⟨(Or.inr ⟨Or.inl ⟨by decide, by decide⟩, by decide⟩), (isH.ok h14 (by decide)), (isH.ok h3 (by decide)), trivial⟩) (okS.all _ ⟨trivial, trivial, trivial, (Or.inr ⟨Or.inl ⟨by decide, by decide⟩, by decide⟩), trivial, (isH.ok h3 (by decide)), (Or.inr ⟨Or.inl ⟨by decide, by decide⟩, by decide⟩), trivial⟩) (fun ad S Q Qc hC hc k => V_callV (as := []) (st := [_, _, _, _, _, _, _]) (M' := MX10_place) (ci := 10) (pc2 := 85) (dk D_X6_closeBy 44 rfl) ml_6_201 mv_X10_place rfl rfl (by decide) rfl (Nat.le_of_ble_eq_true rfl) rfl he18 (hC.k' h14) hc k) hc19 (kRI.k fun y20 κ21 h mo22 => ?_)
            refine K_p (pc2 := 86) (lv2 := [(0, vR 79), (1, vR _), (2, vR _)]) (st2 := [vI _, vI _, vI _, vI _, vI _, vR 84, vI _, vR _, vR 79]) (fun ad S Q _ k => V_iconst (x := 0) (pc2 := 86) (dk D_X6_closeBy 45 rfl) (by decide) rfl k) ?_
            obtain ⟨e23, he24, hc25⟩ := h
            refine K_call (as := [vR 84, vI _, vI _, vI _, vI _, vI _]) (st := [vI _, vR _, vR 79]) (pc2 := 89) (okL.all _ ⟨(Or.inr ⟨Or.inl ⟨by decide, by decide⟩, by decide⟩), (isH.ok (isH.mo h14 (by decide) mo22) (by decide)), (isH.ok (isH.mo h3 (by decide) mo22) (by decide)), trivial⟩) (okS.all _ ⟨trivial, (isH.ok (isH.mo h3 (by decide) mo22) (by decide)), (Or.inr ⟨Or.inl ⟨by decide, by decide⟩, by decide⟩), trivial⟩) (fun ad S Q Qc hC hc k => V_callV (as := [_, _, _, _, _]) (st := [_, _, _]) (M' := MX2_make) (ci := 2) (pc2 := 89) (dk D_X6_closeBy 46 rfl) ml_6_123 mv_X2_make rfl rfl (by decide) rfl (Nat.le_of_ble_eq_true rfl) rfl he24 (hC.k' (fixH 84 2 (by decide) rfl)) hc k) hc25 (kRI.k fun y26 κ27 h mo28 => ?_)
            obtain ⟨e29, he30, hc31⟩ := h
            refine K_call (as := [vR 79, vR _, vI _, vI _]) (st := []) (pc2 := 92) (okL.all _ ⟨(Or.inr ⟨Or.inl ⟨by decide, by decide⟩, by decide⟩), (isH.ok (isH.mo (isH.mo h14 (by decide) mo22) (by decide) mo28) (by decide)), (isH.ok (isH.mo (isH.mo h3 (by decide) mo22) (by decide) mo28) (by decide)), trivial⟩) (okS.all _ trivial) (fun ad S Q Qc hC hc k => V_callV (as := [_, _, _]) (st := []) (M' := MX6_throwInto) (ci := 6) (pc2 := 92) (dk D_X6_closeBy 47 rfl) ml_6_127 mv_X6_throwInto rfl rfl (by decide) rfl (Nat.le_of_ble_eq_true rfl) rfl he30 (hC.k' (fixH 79 6 (by decide) rfl)) hc k) hc31 (kRV.k fun  κ32 h mo33 => ?_)
            exact h
          · have h := h.2 q13
            exact h
theorem k_6_closeBy_20 {X : Cx} {d : Nat} {κ : Km} {Q : Res → Km → Prop} (r1 : Nat) (r2 : Nat) (h : (isH κ r1 10) ∧ (isH κ r2 10) ∧ ∃ e1 : Nat, e1 + 1 ≤ d ∧ KC' X e1 MX6_misuse [vR 79, vR r1, vR r2] κ (kRV fun  κ6 => K X d MX6_closeBy 92 [(0, vR 79), (1, vR r1), (2, vR r2)] [] κ6 Q)) : K X d MX6_closeBy 20 [(0, vR 79), (1, vR r1), (2, vR r2)] [] κ Q := by
  refine K_p (pc2 := 21) (lv2 := [(0, vR 79), (1, vR _), (2, vR _)]) (st2 := [vR 79]) (fun ad S Q _ k => V_aload_n (pc2 := 21) (dk D_X6_closeBy 10 rfl) rfl (V_lg 0 rfl) rfl k) ?_
  refine K_p (pc2 := 22) (lv2 := [(0, vR 79), (1, vR _), (2, vR _)]) (st2 := [vR _, vR 79]) (fun ad S Q _ k => V_aload_n (pc2 := 22) (dk D_X6_closeBy 11 rfl) rfl (V_lg 1 rfl) rfl k) ?_
  refine K_p (pc2 := 23) (lv2 := [(0, vR 79), (1, vR _), (2, vR _)]) (st2 := [vR _, vR _, vR 79]) (fun ad S Q _ k => V_aload_n (pc2 := 23) (dk D_X6_closeBy 12 rfl) rfl (V_lg 2 rfl) rfl k) ?_
  obtain ⟨h4, h⟩ := h
  obtain ⟨h5, h⟩ := h
  obtain ⟨e1, he2, hc3⟩ := h
  refine K_call (as := [vR 79, vR _, vR _]) (st := []) (pc2 := 26) (okL.all _ ⟨(Or.inr ⟨Or.inl ⟨by decide, by decide⟩, by decide⟩), (isH.ok h4 (by decide)), (isH.ok h5 (by decide)), trivial⟩) (okS.all _ trivial) (fun ad S Q Qc hC hc k => V_callV (as := [_, _]) (st := []) (M' := MX6_misuse) (ci := 6) (pc2 := 26) (dk D_X6_closeBy 13 rfl) ml_6_273 mv_X6_misuse rfl rfl (by decide) rfl (Nat.le_of_ble_eq_true rfl) rfl he2 (hC.k' (fixH 79 6 (by decide) rfl)) hc k) hc3 (kRV.k fun  κ6 h mo7 => ?_)
  refine K_p (pc2 := 92) (lv2 := [(0, vR 79), (1, vR _), (2, vR _)]) (st2 := []) (fun ad S Q _ k => V_goto (tgt := 92) (dk D_X6_closeBy 14 rfl) (by decide) k) ?_
  exact h
theorem k_6_closeBy_92 {X : Cx} {d : Nat} {κ : Km} {Q : Res → Km → Prop} (r1 : Nat) (r2 : Nat) (h : Q (.inl none) κ) : K X d MX6_closeBy 92 [(0, vR 79), (1, vR r1), (2, vR r2)] [] κ Q := by
  exact K_ret (r := .inl none) (fun ad S Q _ k => V_return (dk D_X6_closeBy 48 rfl) rfl k) h
theorem k_6_misuse_0 {X : Cx} {d : Nat} {κ : Km} {Q : Res → Km → Prop} (r1 : Nat) (r2 : Nat) (h : (isH κ r1 10) ∧ (isH κ r2 10) ∧ ∃ e1 : Nat, e1 + 1 ≤ d ∧ KC' X e1 MX6_raise [vR 79, vR r1, vI 10] κ (kRV fun  κ6 => ((r2 = 0 → K X d MX6_misuse 25 [(0, vR 79), (1, vR r1), (2, vR r2)] [] κ6 Q) ∧ (¬ r2 = 0 → ∃ e9 : Nat, e9 + 1 ≤ d ∧ KC' X e9 MX10_isReady [vR r2] κ6 (kRI fun y12 κ13 => ((y12 = 0 → ∃ e16 : Nat, e16 + 1 ≤ d ∧ KC' X e16 MX10_isOver [vR r2] κ13 (kRI fun y19 κ20 => ((y19 = 0 → ∀ κ23 : Km, κ23 = cI κ20 79 9 0 → K X d MX6_misuse 36 [(0, vR 79), (1, vR r1), (2, vR r2), (3, vR r1), (4, vI 0)] [] κ23 Q) ∧ (¬ y19 = 0 → K X d MX6_misuse 25 [(0, vR 79), (1, vR r1), (2, vR r2)] [] κ20 Q)))) ∧ (¬ y12 = 0 → K X d MX6_misuse 25 [(0, vR 79), (1, vR r1), (2, vR r2)] [] κ13 Q))))))) : K X d MX6_misuse 0 [(0, vR 79), (1, vR r1), (2, vR r2)] [] κ Q := by
  refine K_p (pc2 := 1) (lv2 := [(0, vR 79), (1, vR _), (2, vR _)]) (st2 := [vR 79]) (fun ad S Q _ k => V_aload_n (pc2 := 1) (dk D_X6_misuse 0 rfl) rfl (V_lg 0 rfl) rfl k) ?_
  refine K_p (pc2 := 2) (lv2 := [(0, vR 79), (1, vR _), (2, vR _)]) (st2 := [vR _, vR 79]) (fun ad S Q _ k => V_aload_n (pc2 := 2) (dk D_X6_misuse 1 rfl) rfl (V_lg 1 rfl) rfl k) ?_
  refine K_p (pc2 := 4) (lv2 := [(0, vR 79), (1, vR _), (2, vR _)]) (st2 := [vI _, vR _, vR 79]) (fun ad S Q _ k => V_bipush (x := 10) (pc2 := 4) (dk D_X6_misuse 2 rfl) (by decide) rfl k) ?_
  obtain ⟨h4, h⟩ := h
  obtain ⟨h5, h⟩ := h
  obtain ⟨e1, he2, hc3⟩ := h
  refine K_call (as := [vR 79, vR _, vI _]) (st := []) (pc2 := 7) (okL.all _ ⟨(Or.inr ⟨Or.inl ⟨by decide, by decide⟩, by decide⟩), (isH.ok h4 (by decide)), (isH.ok h5 (by decide)), trivial⟩) (okS.all _ trivial) (fun ad S Q Qc hC hc k => V_callV (as := [_, _]) (st := []) (M' := MX6_raise) (ci := 6) (pc2 := 7) (dk D_X6_misuse 3 rfl) ml_6_195 mv_X6_raise rfl rfl (by decide) rfl (Nat.le_of_ble_eq_true rfl) rfl he2 (hC.k' (fixH 79 6 (by decide) rfl)) hc k) hc3 (kRV.k fun  κ6 h mo7 => ?_)
  refine K_p (pc2 := 8) (lv2 := [(0, vR 79), (1, vR _), (2, vR _)]) (st2 := [vR _]) (fun ad S Q _ k => V_aload_n (pc2 := 8) (dk D_X6_misuse 4 rfl) rfl (V_lg 2 rfl) rfl k) ?_
  refine K_ifnull (tgt := 25) (pc2 := 11) (dk D_X6_misuse 5 rfl) (by decide) rfl (Or.inr (isH.mo h5 (by decide) mo7).1) (fun q8 => ?_) (fun q8 => ?_)
  · have h := h.1 q8
    exact h
  · have h := h.2 q8
    refine K_p (pc2 := 12) (lv2 := [(0, vR 79), (1, vR _), (2, vR _)]) (st2 := [vR _]) (fun ad S Q _ k => V_aload_n (pc2 := 12) (dk D_X6_misuse 6 rfl) rfl (V_lg 2 rfl) rfl k) ?_
    obtain ⟨e9, he10, hc11⟩ := h
    refine K_call (as := [vR _]) (st := []) (pc2 := 15) (okL.all _ ⟨(Or.inr ⟨Or.inl ⟨by decide, by decide⟩, by decide⟩), (isH.ok (isH.mo h4 (by decide) mo7) (by decide)), (isH.ok (isH.mo h5 (by decide) mo7) (by decide)), trivial⟩) (okS.all _ trivial) (fun ad S Q Qc hC hc k => V_callV (as := []) (st := []) (M' := MX10_isReady) (ci := 10) (pc2 := 15) (dk D_X6_misuse 7 rfl) ml_6_270 mv_X10_isReady rfl rfl (by decide) rfl (Nat.le_of_ble_eq_true rfl) rfl he10 (hC.k' (isH.mo h5 (by decide) mo7)) hc k) hc11 (kRI.k fun y12 κ13 h mo14 => ?_)
    refine K_if (pa := 18) (pb := 25) (lv2 := [(0, vR 79), (1, vR _), (2, vR _)]) (st2 := []) (fun ad S Q _ k1 k2 => V_ifne (tgt := 25) (pc2 := 18) (dk D_X6_misuse 8 rfl) (by decide) rfl (fun q => k2 q) (fun q => k1 q)) (fun q15 => ?_) (fun q15 => ?_)
    · have h := h.1 q15
      refine K_p (pc2 := 19) (lv2 := [(0, vR 79), (1, vR _), (2, vR _)]) (st2 := [vR _]) (fun ad S Q _ k => V_aload_n (pc2 := 19) (dk D_X6_misuse 9 rfl) rfl (V_lg 2 rfl) rfl k) ?_
      obtain ⟨e16, he17, hc18⟩ := h
      refine K_call (as := [vR _]) (st := []) (pc2 := 22) (okL.all _ ⟨(Or.inr ⟨Or.inl ⟨by decide, by decide⟩, by decide⟩), (isH.ok (isH.mo (isH.mo h4 (by decide) mo7) (by decide) mo14) (by decide)), (isH.ok (isH.mo (isH.mo h5 (by decide) mo7) (by decide) mo14) (by decide)), trivial⟩) (okS.all _ trivial) (fun ad S Q Qc hC hc k => V_callV (as := []) (st := []) (M' := MX10_isOver) (ci := 10) (pc2 := 22) (dk D_X6_misuse 10 rfl) ml_6_110 mv_X10_isOver rfl rfl (by decide) rfl (Nat.le_of_ble_eq_true rfl) rfl he17 (hC.k' (isH.mo (isH.mo h5 (by decide) mo7) (by decide) mo14)) hc k) hc18 (kRI.k fun y19 κ20 h mo21 => ?_)
      refine K_if (pa := 26) (pb := 25) (lv2 := [(0, vR 79), (1, vR _), (2, vR _)]) (st2 := []) (fun ad S Q _ k1 k2 => V_ifeq (tgt := 26) (pc2 := 25) (dk D_X6_misuse 11 rfl) (by decide) rfl (fun q => k1 q) (fun q => k2 q)) (fun q22 => ?_) (fun q22 => ?_)
      · have h := h.1 q22
        refine K_p (pc2 := 27) (lv2 := [(0, vR 79), (1, vR _), (2, vR _)]) (st2 := [vR 79]) (fun ad S Q _ k => V_aload_n (pc2 := 27) (dk D_X6_misuse 13 rfl) rfl (V_lg 0 rfl) rfl k) ?_
        refine K_p (pc2 := 28) (lv2 := [(0, vR 79), (1, vR _), (2, vR _)]) (st2 := [vI _, vR 79]) (fun ad S Q _ k => V_iconst (x := 0) (pc2 := 28) (dk D_X6_misuse 14 rfl) (by decide) rfl k) ?_
        refine K_putI kc6 (pc2 := 31) 9 (dk D_X6_misuse 15 rfl) fl_6_61 (by decide) (Or.inl rfl) rfl rfl (fixH 79 6 (by decide) rfl) (by decide) ?_
        have h := h _ rfl
        refine K_p (pc2 := 32) (lv2 := [(0, vR 79), (1, vR _), (2, vR _)]) (st2 := [vR _]) (fun ad S Q _ k => V_aload_n (pc2 := 32) (dk D_X6_misuse 16 rfl) rfl (V_lg 1 rfl) rfl k) ?_
        refine K_p (pc2 := 33) (lv2 := [(0, vR 79), (1, vR _), (2, vR _), (3, vR _)]) (st2 := []) (fun ad S Q _ k => V_astore_n (pc2 := 33) (lv2 := [(0, _), (1, _), (2, _), (3, _)]) (dk D_X6_misuse 17 rfl) rfl (by decide) rfl rfl k) ?_
        refine K_p (pc2 := 34) (lv2 := [(0, vR 79), (1, vR _), (2, vR _), (3, vR _)]) (st2 := [vI _]) (fun ad S Q _ k => V_iconst (x := 0) (pc2 := 34) (dk D_X6_misuse 18 rfl) (by decide) rfl k) ?_
        refine K_p (pc2 := 36) (lv2 := [(0, vR 79), (1, vR _), (2, vR _), (3, vR _), (4, vI _)]) (st2 := []) (fun ad S Q _ k => V_istore (pc2 := 36) (lv2 := [(0, _), (1, _), (2, _), (3, _), (4, _)]) (dk D_X6_misuse 19 rfl) (by decide) rfl rfl k) ?_
        exact h
      · have h := h.2 q22
        exact h
    · have h := h.2 q15
      exact h
theorem k_6_misuse_25 {X : Cx} {d : Nat} {κ : Km} {Q : Res → Km → Prop} (r1 : Nat) (r2 : Nat) (h : Q (.inl none) κ) : K X d MX6_misuse 25 [(0, vR 79), (1, vR r1), (2, vR r2)] [] κ Q := by
  exact K_ret (r := .inl none) (fun ad S Q _ k => V_return (dk D_X6_misuse 12 rfl) rfl k) h
theorem k_6_misuse_36 {X : Cx} {d : Nat} {κ : Km} {Q : Res → Km → Prop} (r1 : Nat) (r2 : Nat) (r3 : Nat) (x4 : Int32) (h : ((12 ≤ x4 → K X d MX6_misuse 90 [(0, vR 79), (1, vR r1), (2, vR r2), (3, vR r3), (4, vI x4)] [] κ Q) ∧ (¬ 12 ≤ x4 → (r3 = 0 ∨ live κ r3) ∧ ((r3 = 0 → K X d MX6_misuse 90 [(0, vR 79), (1, vR r1), (2, vR r2), (3, vR r3), (4, vI x4)] [] κ Q) ∧ (¬ r3 = 0 → (isH κ r3 10) ∧ (vp_in x4 (kW κ 91)) ∧ ∀ κ6 : Km, κ6 = cI κ 91 ((x4 : Int32).toNatClampNeg) (kI κ r3 0) → ∀ κ7 : Km, κ7 = cI κ6 79 9 (x4 + 1) → (r2 = 0 ∨ live κ7 r2) ∧ ((r3 = r2 → K X d MX6_misuse 83 [(0, vR 79), (1, vR r1), (2, vR r2), (3, vR r3), (4, vI x4)] [vR 0] κ7 Q) ∧ (¬ r3 = r2 → (isH κ7 r1 10) ∧ (isH κ7 r2 10) ∧ ∃ e10 : Nat, e10 + 1 ≤ d ∧ KC' X e10 MX6_find [vR 79, vI (kI κ7 r3 5)] κ7 (kRR fun p13 κ16 => K X d MX6_misuse 83 [(0, vR 79), (1, vR r1), (2, vR r2), (3, vR r3), (4, vI x4)] [vR p13] κ16 Q)))))))) : K X d MX6_misuse 36 [(0, vR 79), (1, vR r1), (2, vR r2), (3, vR r3), (4, vI x4)] [] κ Q := by
  refine K_p (pc2 := 38) (lv2 := [(0, vR 79), (1, vR _), (2, vR _), (3, vR _), (4, vI _)]) (st2 := [vI _]) (fun ad S Q _ k => V_iload (pc2 := 38) (dk D_X6_misuse 20 rfl) (V_lg 4 rfl) rfl k) ?_
  refine K_p (pc2 := 40) (lv2 := [(0, vR 79), (1, vR _), (2, vR _), (3, vR _), (4, vI _)]) (st2 := [vI _, vI _]) (fun ad S Q _ k => V_bipush (x := 12) (pc2 := 40) (dk D_X6_misuse 21 rfl) (by decide) rfl k) ?_
  refine K_if (pa := 90) (pb := 43) (lv2 := [(0, vR 79), (1, vR _), (2, vR _), (3, vR _), (4, vI _)]) (st2 := []) (fun ad S Q _ k1 k2 => V_cmpge (tgt := 90) (pc2 := 43) (dk D_X6_misuse 22 rfl) (by decide) rfl (fun q => k1 q) (fun q => k2 q)) (fun q1 => ?_) (fun q1 => ?_)
  · have h := h.1 q1
    exact h
  · have h := h.2 q1
    refine K_p (pc2 := 44) (lv2 := [(0, vR 79), (1, vR _), (2, vR _), (3, vR _), (4, vI _)]) (st2 := [vR _]) (fun ad S Q _ k => V_aload_n (pc2 := 44) (dk D_X6_misuse 23 rfl) rfl (V_lg 3 rfl) rfl k) ?_
    obtain ⟨h3, h⟩ := h
    refine K_ifnull (tgt := 90) (pc2 := 47) (dk D_X6_misuse 24 rfl) (by decide) rfl h3 (fun q2 => ?_) (fun q2 => ?_)
    · have h := h.1 q2
      exact h
    · have h := h.2 q2
      refine K_p (pc2 := 48) (lv2 := [(0, vR 79), (1, vR _), (2, vR _), (3, vR _), (4, vI _)]) (st2 := [vR 79]) (fun ad S Q _ k => V_aload_n (pc2 := 48) (dk D_X6_misuse 25 rfl) rfl (V_lg 0 rfl) rfl k) ?_
      refine K_getF kc6 (h' := 91) (pc2 := 51) 7 (by decide) (dk D_X6_misuse 26 rfl) fl_6_40 (by decide) (fun _ _ => rfl) rfl (fixH 79 6 (by decide) rfl) (by decide) ?_
      refine K_p (pc2 := 53) (lv2 := [(0, vR 79), (1, vR _), (2, vR _), (3, vR _), (4, vI _)]) (st2 := [vI _, vR 91]) (fun ad S Q _ k => V_iload (pc2 := 53) (dk D_X6_misuse 27 rfl) (V_lg 4 rfl) rfl k) ?_
      refine K_p (pc2 := 54) (lv2 := [(0, vR 79), (1, vR _), (2, vR _), (3, vR _), (4, vI _)]) (st2 := [vR _, vI _, vR 91]) (fun ad S Q _ k => V_aload_n (pc2 := 54) (dk D_X6_misuse 28 rfl) rfl (V_lg 3 rfl) rfl k) ?_
      obtain ⟨h4, h⟩ := h
      refine K_getI kc10 (pc2 := 57) 0 (dk D_X6_misuse 29 rfl) fl_6_198 (by decide) (fun _ _ => rfl) rfl h4 ?_
      obtain ⟨h5, h⟩ := h
      refine K_iast (pc2 := 58) (dk D_X6_misuse 30 rfl) rfl (fixH 91 21 (by decide) rfl) h5 ?_
      have h := h _ rfl
      refine K_p (pc2 := 59) (lv2 := [(0, vR 79), (1, vR _), (2, vR _), (3, vR _), (4, vI _)]) (st2 := [vR 79]) (fun ad S Q _ k => V_aload_n (pc2 := 59) (dk D_X6_misuse 31 rfl) rfl (V_lg 0 rfl) rfl k) ?_
      refine K_p (pc2 := 61) (lv2 := [(0, vR 79), (1, vR _), (2, vR _), (3, vR _), (4, vI _)]) (st2 := [vI _, vR 79]) (fun ad S Q _ k => V_iload (pc2 := 61) (dk D_X6_misuse 32 rfl) (V_lg 4 rfl) rfl k) ?_
      refine K_p (pc2 := 62) (lv2 := [(0, vR 79), (1, vR _), (2, vR _), (3, vR _), (4, vI _)]) (st2 := [vI _, vI _, vR 79]) (fun ad S Q _ k => V_iconst (x := 1) (pc2 := 62) (dk D_X6_misuse 33 rfl) (by decide) rfl k) ?_
      refine K_p (pc2 := 63) (lv2 := [(0, vR 79), (1, vR _), (2, vR _), (3, vR _), (4, vI _)]) (st2 := [vI _, vR 79]) (fun ad S Q _ k => V_iadd (pc2 := 63) (dk D_X6_misuse 34 rfl) rfl k) ?_
      refine K_putI kc6 (pc2 := 66) 9 (dk D_X6_misuse 35 rfl) fl_6_61 (by decide) (Or.inl rfl) rfl rfl (fixH 79 6 (by decide) rfl) (by decide) ?_
      have h := h _ rfl
      refine K_p (pc2 := 67) (lv2 := [(0, vR 79), (1, vR _), (2, vR _), (3, vR _), (4, vI _)]) (st2 := [vR _]) (fun ad S Q _ k => V_aload_n (pc2 := 67) (dk D_X6_misuse 36 rfl) rfl (V_lg 3 rfl) rfl k) ?_
      refine K_p (pc2 := 68) (lv2 := [(0, vR 79), (1, vR _), (2, vR _), (3, vR _), (4, vI _)]) (st2 := [vR _, vR _]) (fun ad S Q _ k => V_aload_n (pc2 := 68) (dk D_X6_misuse 37 rfl) rfl (V_lg 2 rfl) rfl k) ?_
      obtain ⟨h9, h⟩ := h
      refine K_acmpne (tgt := 75) (pc2 := 71) (dk D_X6_misuse 38 rfl) (by decide) rfl (Or.inr h4.1) h9 (fun q8 => ?_) (fun q8 => ?_)
      · have h := h.1 q8
        refine K_p (pc2 := 72) (lv2 := [(0, vR 79), (1, vR _), (2, vR _), (3, vR _), (4, vI _)]) (st2 := [vR 0]) (fun ad S Q _ k => V_null (pc2 := 72) (dk D_X6_misuse 39 rfl) rfl k) ?_
        refine K_p (pc2 := 83) (lv2 := [(0, vR 79), (1, vR _), (2, vR _), (3, vR _), (4, vI _)]) (st2 := [vR 0]) (fun ad S Q _ k => V_goto (tgt := 83) (dk D_X6_misuse 40 rfl) (by decide) k) ?_
        exact h
      · have h := h.2 q8
        refine K_p (pc2 := 76) (lv2 := [(0, vR 79), (1, vR _), (2, vR _), (3, vR _), (4, vI _)]) (st2 := [vR 79]) (fun ad S Q _ k => V_aload_n (pc2 := 76) (dk D_X6_misuse 41 rfl) rfl (V_lg 0 rfl) rfl k) ?_
        refine K_p (pc2 := 77) (lv2 := [(0, vR 79), (1, vR _), (2, vR _), (3, vR _), (4, vI _)]) (st2 := [vR _, vR 79]) (fun ad S Q _ k => V_aload_n (pc2 := 77) (dk D_X6_misuse 42 rfl) rfl (V_lg 3 rfl) rfl k) ?_
        refine K_getI kc10 (pc2 := 80) 5 (dk D_X6_misuse 43 rfl) fl_6_116 (by decide) (fun _ _ => rfl) rfl h4 ?_
        obtain ⟨h14, h⟩ := h
        obtain ⟨h15, h⟩ := h
        obtain ⟨e10, he11, hc12⟩ := h
        refine K_call (as := [vR 79, vI _]) (st := []) (pc2 := 83) (okL.all _ ⟨(Or.inr ⟨Or.inl ⟨by decide, by decide⟩, by decide⟩), (isH.ok h14 (by decide)), (isH.ok h15 (by decide)), (isH.ok h4 (by decide)), trivial, trivial⟩) (okS.all _ trivial) (fun ad S Q Qc hC hc k => V_callV (as := [_]) (st := []) (M' := MX6_find) (ci := 6) (pc2 := 83) (dk D_X6_misuse 44 rfl) ml_6_106 mv_X6_find rfl rfl (by decide) rfl (Nat.le_of_ble_eq_true rfl) rfl he11 (hC.k' (fixH 79 6 (by decide) rfl)) hc k) hc12 (kRR.k fun p13 κ16 h mo17 => ?_)
        exact h
theorem k_6_misuse_83 {X : Cx} {d : Nat} {κ : Km} {Q : Res → Km → Prop} (r1 : Nat) (r2 : Nat) (r3 : Nat) (x4 : Int32) (t0 : Nat) (h : K X d MX6_misuse 36 [(0, vR 79), (1, vR r1), (2, vR r2), (3, vR t0), (4, vI (x4 + 1))] [] κ Q) : K X d MX6_misuse 83 [(0, vR 79), (1, vR r1), (2, vR r2), (3, vR r3), (4, vI x4)] [vR t0] κ Q := by
  refine K_p (pc2 := 84) (lv2 := [(0, vR 79), (1, vR _), (2, vR _), (3, vR _), (4, vI _)]) (st2 := []) (fun ad S Q _ k => V_astore_n (pc2 := 84) (lv2 := [(0, _), (1, _), (2, _), (3, _), (4, _)]) (dk D_X6_misuse 45 rfl) rfl (by decide) rfl rfl k) ?_
  refine K_p (pc2 := 87) (lv2 := [(0, vR 79), (1, vR _), (2, vR _), (3, vR _), (4, vI _)]) (st2 := []) (fun ad S Q _ k => V_iinc (y := _ + 1) (pc2 := 87) (lv2 := [(0, _), (1, _), (2, _), (3, _), (4, _)]) (dk D_X6_misuse 46 rfl) (V_lg 4 rfl) rfl (by decide) rfl rfl k) ?_
  refine K_p (pc2 := 36) (lv2 := [(0, vR 79), (1, vR _), (2, vR _), (3, vR _), (4, vI _)]) (st2 := []) (fun ad S Q _ k => V_goto (tgt := 36) (dk D_X6_misuse 47 rfl) (by decide) k) ?_
  exact h
theorem k_6_misuse_90 {X : Cx} {d : Nat} {κ : Km} {Q : Res → Km → Prop} (r1 : Nat) (r2 : Nat) (r3 : Nat) (x4 : Int32) (h : Q (.inl none) κ) : K X d MX6_misuse 90 [(0, vR 79), (1, vR r1), (2, vR r2), (3, vR r3), (4, vI x4)] [] κ Q := by
  exact K_ret (r := .inl none) (fun ad S Q _ k => V_return (dk D_X6_misuse 48 rfl) rfl k) h
theorem k_6_throwInto_0 {X : Cx} {d : Nat} {κ : Km} {Q : Res → Km → Prop} (r1 : Nat) (x2 : Int32) (x3 : Int32) (h : ∀ κ1 : Km, κ1 = cI κ 79 14 x3 → (isH κ1 r1 10) ∧ (((kI κ1 r1 1) = 0 → ∃ e4 : Nat, e4 + 1 ≤ d ∧ KC' X e4 MX6_end [vR 79, vR r1, vI 5] κ1 (kRV fun  κ7 => ((x2 = 0 → ∃ e10 : Nat, e10 + 1 ≤ d ∧ KC' X e10 MX6_comeOut [vR 79] κ7 (kRV fun  κ13 => K X d MX6_throwInto 26 [(0, vR 79), (1, vR r1), (2, vI x2), (3, vI x3)] [] κ13 Q)) ∧ (¬ x2 = 0 → K X d MX6_throwInto 26 [(0, vR 79), (1, vR r1), (2, vI x2), (3, vI x3)] [] κ7 Q)))) ∧ (¬ (kI κ1 r1 1) = 0 → ∃ e15 : Nat, e15 + 1 ≤ d ∧ KC' X e15 MX4_add [vR 82, vI x2, vI (kI κ1 r1 0)] κ1 (kRV fun  κ18 => ∀ κ20 : Km, κ20 = cI κ18 79 13 (kI κ18 r1 0) → ∀ κ21 : Km, κ21 = cI κ20 r1 5 x2 → ∀ κ22 : Km, κ22 = cI κ21 r1 1 2 → Q (.inl none) κ22)))) : K X d MX6_throwInto 0 [(0, vR 79), (1, vR r1), (2, vI x2), (3, vI x3)] [] κ Q := by
  refine K_p (pc2 := 1) (lv2 := [(0, vR 79), (1, vR _), (2, vI _), (3, vI _)]) (st2 := [vR 79]) (fun ad S Q _ k => V_aload_n (pc2 := 1) (dk D_X6_throwInto 0 rfl) rfl (V_lg 0 rfl) rfl k) ?_
  refine K_p (pc2 := 2) (lv2 := [(0, vR 79), (1, vR _), (2, vI _), (3, vI _)]) (st2 := [vI _, vR 79]) (fun ad S Q _ k => V_iload_n (pc2 := 2) (dk D_X6_throwInto 1 rfl) rfl (V_lg 3 rfl) rfl k) ?_
  refine K_putI kc6 (pc2 := 5) 14 (dk D_X6_throwInto 2 rfl) fl_6_77 (by decide) (Or.inl rfl) rfl rfl (fixH 79 6 (by decide) rfl) (by decide) ?_
  have h := h _ rfl
  refine K_p (pc2 := 6) (lv2 := [(0, vR 79), (1, vR _), (2, vI _), (3, vI _)]) (st2 := [vR _]) (fun ad S Q _ k => V_aload_n (pc2 := 6) (dk D_X6_throwInto 3 rfl) rfl (V_lg 1 rfl) rfl k) ?_
  obtain ⟨h2, h⟩ := h
  refine K_getI kc10 (pc2 := 9) 1 (dk D_X6_throwInto 4 rfl) fl_6_131 (by decide) (fun _ _ => rfl) rfl h2 ?_
  refine K_if (pa := 12) (pb := 27) (lv2 := [(0, vR 79), (1, vR _), (2, vI _), (3, vI _)]) (st2 := []) (fun ad S Q _ k1 k2 => V_ifne (tgt := 27) (pc2 := 12) (dk D_X6_throwInto 5 rfl) (by decide) rfl (fun q => k2 q) (fun q => k1 q)) (fun q3 => ?_) (fun q3 => ?_)
  · have h := h.1 q3
    refine K_p (pc2 := 13) (lv2 := [(0, vR 79), (1, vR _), (2, vI _), (3, vI _)]) (st2 := [vR 79]) (fun ad S Q _ k => V_aload_n (pc2 := 13) (dk D_X6_throwInto 6 rfl) rfl (V_lg 0 rfl) rfl k) ?_
    refine K_p (pc2 := 14) (lv2 := [(0, vR 79), (1, vR _), (2, vI _), (3, vI _)]) (st2 := [vR _, vR 79]) (fun ad S Q _ k => V_aload_n (pc2 := 14) (dk D_X6_throwInto 7 rfl) rfl (V_lg 1 rfl) rfl k) ?_
    refine K_p (pc2 := 15) (lv2 := [(0, vR 79), (1, vR _), (2, vI _), (3, vI _)]) (st2 := [vI _, vR _, vR 79]) (fun ad S Q _ k => V_iconst (x := 5) (pc2 := 15) (dk D_X6_throwInto 8 rfl) (by decide) rfl k) ?_
    obtain ⟨e4, he5, hc6⟩ := h
    refine K_call (as := [vR 79, vR _, vI _]) (st := []) (pc2 := 18) (okL.all _ ⟨(Or.inr ⟨Or.inl ⟨by decide, by decide⟩, by decide⟩), (isH.ok h2 (by decide)), trivial, trivial, trivial⟩) (okS.all _ trivial) (fun ad S Q Qc hC hc k => V_callV (as := [_, _]) (st := []) (M' := MX6_end) (ci := 6) (pc2 := 18) (dk D_X6_throwInto 9 rfl) ml_6_113 mv_X6_end rfl rfl (by decide) rfl (Nat.le_of_ble_eq_true rfl) rfl he5 (hC.k' (fixH 79 6 (by decide) rfl)) hc k) hc6 (kRV.k fun  κ7 h mo8 => ?_)
    refine K_p (pc2 := 19) (lv2 := [(0, vR 79), (1, vR _), (2, vI _), (3, vI _)]) (st2 := [vI _]) (fun ad S Q _ k => V_iload_n (pc2 := 19) (dk D_X6_throwInto 10 rfl) rfl (V_lg 2 rfl) rfl k) ?_
    refine K_if (pa := 22) (pb := 26) (lv2 := [(0, vR 79), (1, vR _), (2, vI _), (3, vI _)]) (st2 := []) (fun ad S Q _ k1 k2 => V_ifne (tgt := 26) (pc2 := 22) (dk D_X6_throwInto 11 rfl) (by decide) rfl (fun q => k2 q) (fun q => k1 q)) (fun q9 => ?_) (fun q9 => ?_)
    · have h := h.1 q9
      refine K_p (pc2 := 23) (lv2 := [(0, vR 79), (1, vR _), (2, vI _), (3, vI _)]) (st2 := [vR 79]) (fun ad S Q _ k => V_aload_n (pc2 := 23) (dk D_X6_throwInto 12 rfl) rfl (V_lg 0 rfl) rfl k) ?_
      obtain ⟨e10, he11, hc12⟩ := h
      refine K_call (as := [vR 79]) (st := []) (pc2 := 26) (okL.all _ ⟨(Or.inr ⟨Or.inl ⟨by decide, by decide⟩, by decide⟩), (isH.ok (isH.mo h2 (by decide) mo8) (by decide)), trivial, trivial, trivial⟩) (okS.all _ trivial) (fun ad S Q Qc hC hc k => V_callV (as := []) (st := []) (M' := MX6_comeOut) (ci := 6) (pc2 := 26) (dk D_X6_throwInto 13 rfl) ml_6_287 mv_X6_comeOut rfl rfl (by decide) rfl (Nat.le_of_ble_eq_true rfl) rfl he11 (hC.k' (fixH 79 6 (by decide) rfl)) hc k) hc12 (kRV.k fun  κ13 h mo14 => ?_)
      exact h
    · have h := h.2 q9
      exact h
  · have h := h.2 q3
    refine K_p (pc2 := 28) (lv2 := [(0, vR 79), (1, vR _), (2, vI _), (3, vI _)]) (st2 := [vR 79]) (fun ad S Q _ k => V_aload_n (pc2 := 28) (dk D_X6_throwInto 15 rfl) rfl (V_lg 0 rfl) rfl k) ?_
    refine K_getF kc6 (h' := 82) (pc2 := 31) 1 (by decide) (dk D_X6_throwInto 16 rfl) fl_6_18 (by decide) (fun _ _ => rfl) rfl (fixH 79 6 (by decide) rfl) (by decide) ?_
    refine K_p (pc2 := 32) (lv2 := [(0, vR 79), (1, vR _), (2, vI _), (3, vI _)]) (st2 := [vI _, vR 82]) (fun ad S Q _ k => V_iload_n (pc2 := 32) (dk D_X6_throwInto 17 rfl) rfl (V_lg 2 rfl) rfl k) ?_
    refine K_p (pc2 := 33) (lv2 := [(0, vR 79), (1, vR _), (2, vI _), (3, vI _)]) (st2 := [vR _, vI _, vR 82]) (fun ad S Q _ k => V_aload_n (pc2 := 33) (dk D_X6_throwInto 18 rfl) rfl (V_lg 1 rfl) rfl k) ?_
    refine K_getI kc10 (pc2 := 36) 0 (dk D_X6_throwInto 19 rfl) fl_6_198 (by decide) (fun _ _ => rfl) rfl h2 ?_
    obtain ⟨e15, he16, hc17⟩ := h
    refine K_call (as := [vR 82, vI _, vI _]) (st := []) (pc2 := 39) (okL.all _ ⟨(Or.inr ⟨Or.inl ⟨by decide, by decide⟩, by decide⟩), (isH.ok h2 (by decide)), trivial, trivial, trivial⟩) (okS.all _ trivial) (fun ad S Q Qc hC hc k => V_callV (as := [_, _]) (st := []) (M' := MX4_add) (ci := 4) (pc2 := 39) (dk D_X6_throwInto 20 rfl) ml_6_215 mv_X4_add rfl rfl (by decide) rfl (Nat.le_of_ble_eq_true rfl) rfl he16 (hC.k' (fixH 82 4 (by decide) rfl)) hc k) hc17 (kRV.k fun  κ18 h mo19 => ?_)
    refine K_p (pc2 := 40) (lv2 := [(0, vR 79), (1, vR _), (2, vI _), (3, vI _)]) (st2 := [vR 79]) (fun ad S Q _ k => V_aload_n (pc2 := 40) (dk D_X6_throwInto 21 rfl) rfl (V_lg 0 rfl) rfl k) ?_
    refine K_p (pc2 := 41) (lv2 := [(0, vR 79), (1, vR _), (2, vI _), (3, vI _)]) (st2 := [vR _, vR 79]) (fun ad S Q _ k => V_aload_n (pc2 := 41) (dk D_X6_throwInto 22 rfl) rfl (V_lg 1 rfl) rfl k) ?_
    refine K_getI kc10 (pc2 := 44) 0 (dk D_X6_throwInto 23 rfl) fl_6_198 (by decide) (fun _ _ => rfl) rfl (isH.mo h2 (by decide) mo19) ?_
    refine K_putI kc6 (pc2 := 47) 13 (dk D_X6_throwInto 24 rfl) fl_6_74 (by decide) (Or.inl rfl) rfl rfl (fixH 79 6 (by decide) rfl) (by decide) ?_
    have h := h _ rfl
    refine K_p (pc2 := 48) (lv2 := [(0, vR 79), (1, vR _), (2, vI _), (3, vI _)]) (st2 := [vR _]) (fun ad S Q _ k => V_aload_n (pc2 := 48) (dk D_X6_throwInto 25 rfl) rfl (V_lg 1 rfl) rfl k) ?_
    refine K_p (pc2 := 49) (lv2 := [(0, vR 79), (1, vR _), (2, vI _), (3, vI _)]) (st2 := [vI _, vR _]) (fun ad S Q _ k => V_iload_n (pc2 := 49) (dk D_X6_throwInto 26 rfl) rfl (V_lg 2 rfl) rfl k) ?_
    refine K_putI kc10 (pc2 := 52) 5 (dk D_X6_throwInto 27 rfl) fl_6_116 (by decide) (Or.inl rfl) rfl rfl (isH.mo h2 (by decide) mo19) (isH.n69 (isH.mo h2 (by decide) mo19) (by decide)) ?_
    have h := h _ rfl
    refine K_p (pc2 := 53) (lv2 := [(0, vR 79), (1, vR _), (2, vI _), (3, vI _)]) (st2 := [vR _]) (fun ad S Q _ k => V_aload_n (pc2 := 53) (dk D_X6_throwInto 28 rfl) rfl (V_lg 1 rfl) rfl k) ?_
    refine K_p (pc2 := 54) (lv2 := [(0, vR 79), (1, vR _), (2, vI _), (3, vI _)]) (st2 := [vI _, vR _]) (fun ad S Q _ k => V_iconst (x := 2) (pc2 := 54) (dk D_X6_throwInto 29 rfl) (by decide) rfl k) ?_
    refine K_putI kc10 (pc2 := 57) 1 (dk D_X6_throwInto 30 rfl) fl_6_131 (by decide) (Or.inl rfl) rfl rfl (isH.mo h2 (by decide) mo19) (isH.n69 (isH.mo h2 (by decide) mo19) (by decide)) ?_
    have h := h _ rfl
    exact K_ret (r := .inl none) (fun ad S Q _ k => V_return (dk D_X6_throwInto 31 rfl) rfl k) h
theorem k_6_throwInto_26 {X : Cx} {d : Nat} {κ : Km} {Q : Res → Km → Prop} (r1 : Nat) (x2 : Int32) (x3 : Int32) (h : Q (.inl none) κ) : K X d MX6_throwInto 26 [(0, vR 79), (1, vR r1), (2, vI x2), (3, vI x3)] [] κ Q := by
  exact K_ret (r := .inl none) (fun ad S Q _ k => V_return (dk D_X6_throwInto 14 rfl) rfl k) h
theorem k_6_goBack_0 {X : Cx} {d : Nat} {κ : Km} {Q : Res → Km → Prop} (r1 : Nat) (x2 : Int32) (x3 : Int32) (h : (isH κ r1 10) ∧ ∃ e2 : Nat, e2 + 1 ≤ d ∧ KC' X e2 MX4_add [vR 82, vI (kI κ r1 0), vI (kI κ r1 5)] κ (kRV fun  κ5 => ∀ κ7 : Km, κ7 = cI κ5 79 13 (kI κ5 r1 5) → ∃ e8 : Nat, e8 + 1 ≤ d ∧ KC' X e8 MX6_find [vR 79, vI (kI κ7 79 13)] κ7 (kRR fun p11 κ12 => (p11 = 0 ∨ live κ12 p11) ∧ ((p11 = 0 → ∀ κ16 : Km, κ16 = cI κ12 79 13 0 → ∀ κ17 : Km, κ17 = cI κ16 79 15 x3 → (((kI κ17 r1 11) = 0 → K X d MX6_goBack 64 [(0, vR 79), (1, vR r1), (2, vI x2), (3, vI x3), (4, vR p11)] [vI x2, vR 79] κ17 Q) ∧ (¬ (kI κ17 r1 11) = 0 → K X d MX6_goBack 64 [(0, vR 79), (1, vR r1), (2, vI x2), (3, vI x3), (4, vR p11)] [vI (kI κ17 79 16), vR 79] κ17 Q))) ∧ (¬ p11 = 0 → (isH κ12 p11 10) ∧ ∀ κ20 : Km, κ20 = cI κ12 p11 1 2 → ∃ e21 : Nat, e21 + 1 ≤ d ∧ KC' X e21 MX1_act [vR 68, vI ((kI κ20 p11 9) - 1)] κ20 (kRI fun y24 κ25 => ((y24 = 30 → ((x3 = 1 → ∃ e29 : Nat, e29 + 1 ≤ d ∧ KC' X e29 MX10_pop [vR p11] κ25 (kRI fun y32 κ33 => ∃ e35 : Nat, e35 + 1 ≤ d ∧ KC' X e35 MX1_argument [vR 68, vI ((kI κ33 p11 9) - 1)] κ33 (kRI fun y38 κ39 => ∀ κ41 : Km, κ41 = cI κ39 p11 9 y38 → K X d MX6_goBack 143 [(0, vR 79), (1, vR r1), (2, vI x2), (3, vI x3), (4, vR p11), (5, vI y24)] [] κ41 Q))) ∧ (¬ x3 = 1 → K X d MX6_goBack 130 [(0, vR 79), (1, vR r1), (2, vI x2), (3, vI x3), (4, vR p11), (5, vI y24)] [] κ25 Q))) ∧ (¬ y24 = 30 → K X d MX6_goBack 130 [(0, vR 79), (1, vR r1), (2, vI x2), (3, vI x3), (4, vR p11), (5, vI y24)] [] κ25 Q)))))))) : K X d MX6_goBack 0 [(0, vR 79), (1, vR r1), (2, vI x2), (3, vI x3)] [] κ Q := by
  refine K_p (pc2 := 1) (lv2 := [(0, vR 79), (1, vR _), (2, vI _), (3, vI _)]) (st2 := [vR 79]) (fun ad S Q _ k => V_aload_n (pc2 := 1) (dk D_X6_goBack 0 rfl) rfl (V_lg 0 rfl) rfl k) ?_
  refine K_getF kc6 (h' := 82) (pc2 := 4) 1 (by decide) (dk D_X6_goBack 1 rfl) fl_6_18 (by decide) (fun _ _ => rfl) rfl (fixH 79 6 (by decide) rfl) (by decide) ?_
  refine K_p (pc2 := 5) (lv2 := [(0, vR 79), (1, vR _), (2, vI _), (3, vI _)]) (st2 := [vR _, vR 82]) (fun ad S Q _ k => V_aload_n (pc2 := 5) (dk D_X6_goBack 2 rfl) rfl (V_lg 1 rfl) rfl k) ?_
  obtain ⟨h1, h⟩ := h
  refine K_getI kc10 (pc2 := 8) 0 (dk D_X6_goBack 3 rfl) fl_6_198 (by decide) (fun _ _ => rfl) rfl h1 ?_
  refine K_p (pc2 := 9) (lv2 := [(0, vR 79), (1, vR _), (2, vI _), (3, vI _)]) (st2 := [vR _, vI _, vR 82]) (fun ad S Q _ k => V_aload_n (pc2 := 9) (dk D_X6_goBack 4 rfl) rfl (V_lg 1 rfl) rfl k) ?_
  refine K_getI kc10 (pc2 := 12) 5 (dk D_X6_goBack 5 rfl) fl_6_116 (by decide) (fun _ _ => rfl) rfl h1 ?_
  obtain ⟨e2, he3, hc4⟩ := h
  refine K_call (as := [vR 82, vI _, vI _]) (st := []) (pc2 := 15) (okL.all _ ⟨(Or.inr ⟨Or.inl ⟨by decide, by decide⟩, by decide⟩), (isH.ok h1 (by decide)), trivial, trivial, trivial⟩) (okS.all _ trivial) (fun ad S Q Qc hC hc k => V_callV (as := [_, _]) (st := []) (M' := MX4_add) (ci := 4) (pc2 := 15) (dk D_X6_goBack 6 rfl) ml_6_215 mv_X4_add rfl rfl (by decide) rfl (Nat.le_of_ble_eq_true rfl) rfl he3 (hC.k' (fixH 82 4 (by decide) rfl)) hc k) hc4 (kRV.k fun  κ5 h mo6 => ?_)
  refine K_p (pc2 := 16) (lv2 := [(0, vR 79), (1, vR _), (2, vI _), (3, vI _)]) (st2 := [vR 79]) (fun ad S Q _ k => V_aload_n (pc2 := 16) (dk D_X6_goBack 7 rfl) rfl (V_lg 0 rfl) rfl k) ?_
  refine K_p (pc2 := 17) (lv2 := [(0, vR 79), (1, vR _), (2, vI _), (3, vI _)]) (st2 := [vR _, vR 79]) (fun ad S Q _ k => V_aload_n (pc2 := 17) (dk D_X6_goBack 8 rfl) rfl (V_lg 1 rfl) rfl k) ?_
  refine K_getI kc10 (pc2 := 20) 5 (dk D_X6_goBack 9 rfl) fl_6_116 (by decide) (fun _ _ => rfl) rfl (isH.mo h1 (by decide) mo6) ?_
  refine K_putI kc6 (pc2 := 23) 13 (dk D_X6_goBack 10 rfl) fl_6_74 (by decide) (Or.inl rfl) rfl rfl (fixH 79 6 (by decide) rfl) (by decide) ?_
  have h := h _ rfl
  refine K_p (pc2 := 24) (lv2 := [(0, vR 79), (1, vR _), (2, vI _), (3, vI _)]) (st2 := [vR 79]) (fun ad S Q _ k => V_aload_n (pc2 := 24) (dk D_X6_goBack 11 rfl) rfl (V_lg 0 rfl) rfl k) ?_
  refine K_p (pc2 := 25) (lv2 := [(0, vR 79), (1, vR _), (2, vI _), (3, vI _)]) (st2 := [vR 79, vR 79]) (fun ad S Q _ k => V_aload_n (pc2 := 25) (dk D_X6_goBack 12 rfl) rfl (V_lg 0 rfl) rfl k) ?_
  refine K_getI kc6 (pc2 := 28) 13 (dk D_X6_goBack 13 rfl) fl_6_74 (by decide) (fun _ _ => rfl) rfl (fixH 79 6 (by decide) rfl) ?_
  obtain ⟨e8, he9, hc10⟩ := h
  refine K_call (as := [vR 79, vI _]) (st := []) (pc2 := 31) (okL.all _ ⟨(Or.inr ⟨Or.inl ⟨by decide, by decide⟩, by decide⟩), (isH.ok (isH.mo h1 (by decide) mo6) (by decide)), trivial, trivial, trivial⟩) (okS.all _ trivial) (fun ad S Q Qc hC hc k => V_callV (as := [_]) (st := []) (M' := MX6_find) (ci := 6) (pc2 := 31) (dk D_X6_goBack 14 rfl) ml_6_106 mv_X6_find rfl rfl (by decide) rfl (Nat.le_of_ble_eq_true rfl) rfl he9 (hC.k' (fixH 79 6 (by decide) rfl)) hc k) hc10 (kRR.k fun p11 κ12 h mo13 => ?_)
  refine K_p (pc2 := 33) (lv2 := [(0, vR 79), (1, vR _), (2, vI _), (3, vI _), (4, vR _)]) (st2 := []) (fun ad S Q _ k => V_astore (pc2 := 33) (lv2 := [(0, _), (1, _), (2, _), (3, _), (4, _)]) (dk D_X6_goBack 15 rfl) (by decide) rfl rfl k) ?_
  refine K_p (pc2 := 35) (lv2 := [(0, vR 79), (1, vR _), (2, vI _), (3, vI _), (4, vR _)]) (st2 := [vR _]) (fun ad S Q _ k => V_aload (pc2 := 35) (dk D_X6_goBack 16 rfl) (V_lg 4 rfl) rfl k) ?_
  obtain ⟨h15, h⟩ := h
  refine K_ifnonnull (tgt := 68) (pc2 := 38) (dk D_X6_goBack 17 rfl) (by decide) rfl h15 (fun q14 => ?_) (fun q14 => ?_)
  · have h := h.1 q14
    refine K_p (pc2 := 39) (lv2 := [(0, vR 79), (1, vR _), (2, vI _), (3, vI _), (4, vR _)]) (st2 := [vR 79]) (fun ad S Q _ k => V_aload_n (pc2 := 39) (dk D_X6_goBack 18 rfl) rfl (V_lg 0 rfl) rfl k) ?_
    refine K_p (pc2 := 40) (lv2 := [(0, vR 79), (1, vR _), (2, vI _), (3, vI _), (4, vR _)]) (st2 := [vI _, vR 79]) (fun ad S Q _ k => V_iconst (x := 0) (pc2 := 40) (dk D_X6_goBack 19 rfl) (by decide) rfl k) ?_
    refine K_putI kc6 (pc2 := 43) 13 (dk D_X6_goBack 20 rfl) fl_6_74 (by decide) (Or.inl rfl) rfl rfl (fixH 79 6 (by decide) rfl) (by decide) ?_
    have h := h _ rfl
    refine K_p (pc2 := 44) (lv2 := [(0, vR 79), (1, vR _), (2, vI _), (3, vI _), (4, vR _)]) (st2 := [vR 79]) (fun ad S Q _ k => V_aload_n (pc2 := 44) (dk D_X6_goBack 21 rfl) rfl (V_lg 0 rfl) rfl k) ?_
    refine K_p (pc2 := 45) (lv2 := [(0, vR 79), (1, vR _), (2, vI _), (3, vI _), (4, vR _)]) (st2 := [vI _, vR 79]) (fun ad S Q _ k => V_iload_n (pc2 := 45) (dk D_X6_goBack 22 rfl) rfl (V_lg 3 rfl) rfl k) ?_
    refine K_putI kc6 (pc2 := 48) 15 (dk D_X6_goBack 23 rfl) fl_6_80 (by decide) (Or.inl rfl) rfl rfl (fixH 79 6 (by decide) rfl) (by decide) ?_
    have h := h _ rfl
    refine K_p (pc2 := 49) (lv2 := [(0, vR 79), (1, vR _), (2, vI _), (3, vI _), (4, vR _)]) (st2 := [vR 79]) (fun ad S Q _ k => V_aload_n (pc2 := 49) (dk D_X6_goBack 24 rfl) rfl (V_lg 0 rfl) rfl k) ?_
    refine K_p (pc2 := 50) (lv2 := [(0, vR 79), (1, vR _), (2, vI _), (3, vI _), (4, vR _)]) (st2 := [vR _, vR 79]) (fun ad S Q _ k => V_aload_n (pc2 := 50) (dk D_X6_goBack 25 rfl) rfl (V_lg 1 rfl) rfl k) ?_
    refine K_getI kc10 (pc2 := 53) 11 (dk D_X6_goBack 26 rfl) fl_6_134 (by decide) (fun _ _ => rfl) rfl (isH.mo (isH.mo h1 (by decide) mo6) (by decide) mo13) ?_
    refine K_if (pa := 63) (pb := 56) (lv2 := [(0, vR 79), (1, vR _), (2, vI _), (3, vI _), (4, vR _)]) (st2 := [vR 79]) (fun ad S Q _ k1 k2 => V_ifeq (tgt := 63) (pc2 := 56) (dk D_X6_goBack 27 rfl) (by decide) rfl (fun q => k1 q) (fun q => k2 q)) (fun q18 => ?_) (fun q18 => ?_)
    · have h := h.1 q18
      refine K_p (pc2 := 64) (lv2 := [(0, vR 79), (1, vR _), (2, vI _), (3, vI _), (4, vR _)]) (st2 := [vI _, vR 79]) (fun ad S Q _ k => V_iload_n (pc2 := 64) (dk D_X6_goBack 31 rfl) rfl (V_lg 2 rfl) rfl k) ?_
      exact h
    · have h := h.2 q18
      refine K_p (pc2 := 57) (lv2 := [(0, vR 79), (1, vR _), (2, vI _), (3, vI _), (4, vR _)]) (st2 := [vR 79, vR 79]) (fun ad S Q _ k => V_aload_n (pc2 := 57) (dk D_X6_goBack 28 rfl) rfl (V_lg 0 rfl) rfl k) ?_
      refine K_getI kc6 (pc2 := 60) 16 (dk D_X6_goBack 29 rfl) fl_6_83 (by decide) (fun _ _ => rfl) rfl (fixH 79 6 (by decide) rfl) ?_
      refine K_p (pc2 := 64) (lv2 := [(0, vR 79), (1, vR _), (2, vI _), (3, vI _), (4, vR _)]) (st2 := [vI _, vR 79]) (fun ad S Q _ k => V_goto (tgt := 64) (dk D_X6_goBack 30 rfl) (by decide) k) ?_
      exact h
  · have h := h.2 q14
    refine K_p (pc2 := 70) (lv2 := [(0, vR 79), (1, vR _), (2, vI _), (3, vI _), (4, vR _)]) (st2 := [vR _]) (fun ad S Q _ k => V_aload (pc2 := 70) (dk D_X6_goBack 34 rfl) (V_lg 4 rfl) rfl k) ?_
    refine K_p (pc2 := 71) (lv2 := [(0, vR 79), (1, vR _), (2, vI _), (3, vI _), (4, vR _)]) (st2 := [vI _, vR _]) (fun ad S Q _ k => V_iconst (x := 2) (pc2 := 71) (dk D_X6_goBack 35 rfl) (by decide) rfl k) ?_
    obtain ⟨h19, h⟩ := h
    refine K_putI kc10 (pc2 := 74) 1 (dk D_X6_goBack 36 rfl) fl_6_131 (by decide) (Or.inl rfl) rfl rfl h19 (isH.n69 h19 (by decide)) ?_
    have h := h _ rfl
    refine K_p (pc2 := 75) (lv2 := [(0, vR 79), (1, vR _), (2, vI _), (3, vI _), (4, vR _)]) (st2 := [vR 79]) (fun ad S Q _ k => V_aload_n (pc2 := 75) (dk D_X6_goBack 37 rfl) rfl (V_lg 0 rfl) rfl k) ?_
    refine K_getF kc6 (h' := 68) (pc2 := 78) 4 (by decide) (dk D_X6_goBack 38 rfl) fl_6_53 (by decide) (fun _ _ => rfl) rfl (fixH 79 6 (by decide) rfl) (by decide) ?_
    refine K_p (pc2 := 80) (lv2 := [(0, vR 79), (1, vR _), (2, vI _), (3, vI _), (4, vR _)]) (st2 := [vR _, vR 68]) (fun ad S Q _ k => V_aload (pc2 := 80) (dk D_X6_goBack 39 rfl) (V_lg 4 rfl) rfl k) ?_
    refine K_getI kc10 (pc2 := 83) 9 (dk D_X6_goBack 40 rfl) fl_6_175 (by decide) (fun _ _ => rfl) rfl h19 ?_
    refine K_p (pc2 := 84) (lv2 := [(0, vR 79), (1, vR _), (2, vI _), (3, vI _), (4, vR _)]) (st2 := [vI _, vI _, vR 68]) (fun ad S Q _ k => V_iconst (x := 1) (pc2 := 84) (dk D_X6_goBack 41 rfl) (by decide) rfl k) ?_
    refine K_p (pc2 := 85) (lv2 := [(0, vR 79), (1, vR _), (2, vI _), (3, vI _), (4, vR _)]) (st2 := [vI _, vR 68]) (fun ad S Q _ k => V_isub (pc2 := 85) (dk D_X6_goBack 42 rfl) rfl k) ?_
    obtain ⟨e21, he22, hc23⟩ := h
    refine K_call (as := [vR 68, vI _]) (st := []) (pc2 := 88) (okL.all _ ⟨(Or.inr ⟨Or.inl ⟨by decide, by decide⟩, by decide⟩), (isH.ok (isH.mo (isH.mo h1 (by decide) mo6) (by decide) mo13) (by decide)), trivial, trivial, (isH.ok h19 (by decide)), trivial⟩) (okS.all _ trivial) (fun ad S Q Qc hC hc k => V_callV (as := [_]) (st := []) (M' := MX1_act) (ci := 1) (pc2 := 88) (dk D_X6_goBack 43 rfl) ml_6_178 mv_X1_act rfl rfl (by decide) rfl (Nat.le_of_ble_eq_true rfl) rfl he22 (hC.k' (fixH 68 1 (by decide) rfl)) hc k) hc23 (kRI.k fun y24 κ25 h mo26 => ?_)
    refine K_p (pc2 := 90) (lv2 := [(0, vR 79), (1, vR _), (2, vI _), (3, vI _), (4, vR _), (5, vI _)]) (st2 := []) (fun ad S Q _ k => V_istore (pc2 := 90) (lv2 := [(0, _), (1, _), (2, _), (3, _), (4, _), (5, _)]) (dk D_X6_goBack 44 rfl) (by decide) rfl rfl k) ?_
    refine K_p (pc2 := 92) (lv2 := [(0, vR 79), (1, vR _), (2, vI _), (3, vI _), (4, vR _), (5, vI _)]) (st2 := [vI _]) (fun ad S Q _ k => V_iload (pc2 := 92) (dk D_X6_goBack 45 rfl) (V_lg 5 rfl) rfl k) ?_
    refine K_p (pc2 := 94) (lv2 := [(0, vR 79), (1, vR _), (2, vI _), (3, vI _), (4, vR _), (5, vI _)]) (st2 := [vI _, vI _]) (fun ad S Q _ k => V_bipush (x := 30) (pc2 := 94) (dk D_X6_goBack 46 rfl) (by decide) rfl k) ?_
    refine K_if (pa := 97) (pb := 130) (lv2 := [(0, vR 79), (1, vR _), (2, vI _), (3, vI _), (4, vR _), (5, vI _)]) (st2 := []) (fun ad S Q _ k1 k2 => V_cmpne (tgt := 130) (pc2 := 97) (dk D_X6_goBack 47 rfl) (by decide) rfl (fun q => k2 q) (fun q => k1 q)) (fun q27 => ?_) (fun q27 => ?_)
    · have h := h.1 q27
      refine K_p (pc2 := 98) (lv2 := [(0, vR 79), (1, vR _), (2, vI _), (3, vI _), (4, vR _), (5, vI _)]) (st2 := [vI _]) (fun ad S Q _ k => V_iload_n (pc2 := 98) (dk D_X6_goBack 48 rfl) rfl (V_lg 3 rfl) rfl k) ?_
      refine K_p (pc2 := 99) (lv2 := [(0, vR 79), (1, vR _), (2, vI _), (3, vI _), (4, vR _), (5, vI _)]) (st2 := [vI _, vI _]) (fun ad S Q _ k => V_iconst (x := 1) (pc2 := 99) (dk D_X6_goBack 49 rfl) (by decide) rfl k) ?_
      refine K_if (pa := 102) (pb := 130) (lv2 := [(0, vR 79), (1, vR _), (2, vI _), (3, vI _), (4, vR _), (5, vI _)]) (st2 := []) (fun ad S Q _ k1 k2 => V_cmpne (tgt := 130) (pc2 := 102) (dk D_X6_goBack 50 rfl) (by decide) rfl (fun q => k2 q) (fun q => k1 q)) (fun q28 => ?_) (fun q28 => ?_)
      · have h := h.1 q28
        refine K_p (pc2 := 104) (lv2 := [(0, vR 79), (1, vR _), (2, vI _), (3, vI _), (4, vR _), (5, vI _)]) (st2 := [vR _]) (fun ad S Q _ k => V_aload (pc2 := 104) (dk D_X6_goBack 51 rfl) (V_lg 4 rfl) rfl k) ?_
        obtain ⟨e29, he30, hc31⟩ := h
        refine K_call (as := [vR _]) (st := []) (pc2 := 107) (okL.all _ ⟨(Or.inr ⟨Or.inl ⟨by decide, by decide⟩, by decide⟩), (isH.ok (isH.mo (isH.mo (isH.mo h1 (by decide) mo6) (by decide) mo13) (by decide) mo26) (by decide)), trivial, trivial, (isH.ok (isH.mo h19 (by decide) mo26) (by decide)), trivial, trivial⟩) (okS.all _ trivial) (fun ad S Q Qc hC hc k => V_callV (as := []) (st := []) (M' := MX10_pop) (ci := 10) (pc2 := 107) (dk D_X6_goBack 52 rfl) ml_6_212 mv_X10_pop rfl rfl (by decide) rfl (Nat.le_of_ble_eq_true rfl) rfl he30 (hC.k' (isH.mo h19 (by decide) mo26)) hc k) hc31 (kRI.k fun y32 κ33 h mo34 => ?_)
        refine K_p (pc2 := 108) (lv2 := [(0, vR 79), (1, vR _), (2, vI _), (3, vI _), (4, vR _), (5, vI _)]) (st2 := []) (fun ad S Q _ k => V_pop (pc2 := 108) (dk D_X6_goBack 53 rfl) rfl rfl k) ?_
        refine K_p (pc2 := 110) (lv2 := [(0, vR 79), (1, vR _), (2, vI _), (3, vI _), (4, vR _), (5, vI _)]) (st2 := [vR _]) (fun ad S Q _ k => V_aload (pc2 := 110) (dk D_X6_goBack 54 rfl) (V_lg 4 rfl) rfl k) ?_
        refine K_p (pc2 := 111) (lv2 := [(0, vR 79), (1, vR _), (2, vI _), (3, vI _), (4, vR _), (5, vI _)]) (st2 := [vR 79, vR _]) (fun ad S Q _ k => V_aload_n (pc2 := 111) (dk D_X6_goBack 55 rfl) rfl (V_lg 0 rfl) rfl k) ?_
        refine K_getF kc6 (h' := 68) (pc2 := 114) 4 (by decide) (dk D_X6_goBack 56 rfl) fl_6_53 (by decide) (fun _ _ => rfl) rfl (fixH 79 6 (by decide) rfl) (by decide) ?_
        refine K_p (pc2 := 116) (lv2 := [(0, vR 79), (1, vR _), (2, vI _), (3, vI _), (4, vR _), (5, vI _)]) (st2 := [vR _, vR 68, vR _]) (fun ad S Q _ k => V_aload (pc2 := 116) (dk D_X6_goBack 57 rfl) (V_lg 4 rfl) rfl k) ?_
        refine K_getI kc10 (pc2 := 119) 9 (dk D_X6_goBack 58 rfl) fl_6_175 (by decide) (fun _ _ => rfl) rfl (isH.mo (isH.mo h19 (by decide) mo26) (by decide) mo34) ?_
        refine K_p (pc2 := 120) (lv2 := [(0, vR 79), (1, vR _), (2, vI _), (3, vI _), (4, vR _), (5, vI _)]) (st2 := [vI _, vI _, vR 68, vR _]) (fun ad S Q _ k => V_iconst (x := 1) (pc2 := 120) (dk D_X6_goBack 59 rfl) (by decide) rfl k) ?_
        refine K_p (pc2 := 121) (lv2 := [(0, vR 79), (1, vR _), (2, vI _), (3, vI _), (4, vR _), (5, vI _)]) (st2 := [vI _, vR 68, vR _]) (fun ad S Q _ k => V_isub (pc2 := 121) (dk D_X6_goBack 60 rfl) rfl k) ?_
        obtain ⟨e35, he36, hc37⟩ := h
        refine K_call (as := [vR 68, vI _]) (st := [vR _]) (pc2 := 124) (okL.all _ ⟨(Or.inr ⟨Or.inl ⟨by decide, by decide⟩, by decide⟩), (isH.ok (isH.mo (isH.mo (isH.mo (isH.mo h1 (by decide) mo6) (by decide) mo13) (by decide) mo26) (by decide) mo34) (by decide)), trivial, trivial, (isH.ok (isH.mo (isH.mo h19 (by decide) mo26) (by decide) mo34) (by decide)), trivial, trivial⟩) (okS.all _ ⟨(isH.ok (isH.mo (isH.mo h19 (by decide) mo26) (by decide) mo34) (by decide)), trivial⟩) (fun ad S Q Qc hC hc k => V_callV (as := [_]) (st := [_]) (M' := MX1_argument) (ci := 1) (pc2 := 124) (dk D_X6_goBack 61 rfl) ml_6_183 mv_X1_argument rfl rfl (by decide) rfl (Nat.le_of_ble_eq_true rfl) rfl he36 (hC.k' (fixH 68 1 (by decide) rfl)) hc k) hc37 (kRI.k fun y38 κ39 h mo40 => ?_)
        refine K_putI kc10 (pc2 := 127) 9 (dk D_X6_goBack 62 rfl) fl_6_175 (by decide) (Or.inl rfl) rfl rfl (isH.mo (isH.mo (isH.mo h19 (by decide) mo26) (by decide) mo34) (by decide) mo40) (isH.n69 (isH.mo (isH.mo (isH.mo h19 (by decide) mo26) (by decide) mo34) (by decide) mo40) (by decide)) ?_
        have h := h _ rfl
        refine K_p (pc2 := 143) (lv2 := [(0, vR 79), (1, vR _), (2, vI _), (3, vI _), (4, vR _), (5, vI _)]) (st2 := []) (fun ad S Q _ k => V_goto (tgt := 143) (dk D_X6_goBack 63 rfl) (by decide) k) ?_
        exact h
      · have h := h.2 q28
        exact h
    · have h := h.2 q27
      exact h
theorem k_6_goBack_64 {X : Cx} {d : Nat} {κ : Km} {Q : Res → Km → Prop} (r1 : Nat) (x2 : Int32) (x3 : Int32) (r4 : Nat) (t1 : Int32) (h : ∀ κ1 : Km, κ1 = cI κ 79 16 t1 → Q (.inl none) κ1) : K X d MX6_goBack 64 [(0, vR 79), (1, vR r1), (2, vI x2), (3, vI x3), (4, vR r4)] [vI t1, vR 79] κ Q := by
  refine K_putI kc6 (pc2 := 67) 16 (dk D_X6_goBack 32 rfl) fl_6_83 (by decide) (Or.inl rfl) rfl rfl (fixH 79 6 (by decide) rfl) (by decide) ?_
  have h := h _ rfl
  exact K_ret (r := .inl none) (fun ad S Q _ k => V_return (dk D_X6_goBack 33 rfl) rfl k) h
theorem k_6_goBack_130 {X : Cx} {d : Nat} {κ : Km} {Q : Res → Km → Prop} (r1 : Nat) (x2 : Int32) (x3 : Int32) (r4 : Nat) (x5 : Int32) (h : ((x5 = 29 → K X d MX6_goBack 143 [(0, vR 79), (1, vR r1), (2, vI x2), (3, vI x3), (4, vR r4), (5, vI x5)] [] κ Q) ∧ (¬ x5 = 29 → (isH κ r4 10) ∧ (isH κ r1 10) ∧ ∃ e2 : Nat, e2 + 1 ≤ d ∧ KC' X e2 MX10_push [vR r4, vI x2] κ (kRV fun  κ7 => K X d MX6_goBack 143 [(0, vR 79), (1, vR r1), (2, vI x2), (3, vI x3), (4, vR r4), (5, vI x5)] [] κ7 Q)))) : K X d MX6_goBack 130 [(0, vR 79), (1, vR r1), (2, vI x2), (3, vI x3), (4, vR r4), (5, vI x5)] [] κ Q := by
  refine K_p (pc2 := 132) (lv2 := [(0, vR 79), (1, vR _), (2, vI _), (3, vI _), (4, vR _), (5, vI _)]) (st2 := [vI _]) (fun ad S Q _ k => V_iload (pc2 := 132) (dk D_X6_goBack 64 rfl) (V_lg 5 rfl) rfl k) ?_
  refine K_p (pc2 := 134) (lv2 := [(0, vR 79), (1, vR _), (2, vI _), (3, vI _), (4, vR _), (5, vI _)]) (st2 := [vI _, vI _]) (fun ad S Q _ k => V_bipush (x := 29) (pc2 := 134) (dk D_X6_goBack 65 rfl) (by decide) rfl k) ?_
  refine K_if (pa := 143) (pb := 137) (lv2 := [(0, vR 79), (1, vR _), (2, vI _), (3, vI _), (4, vR _), (5, vI _)]) (st2 := []) (fun ad S Q _ k1 k2 => V_cmpeq (tgt := 143) (pc2 := 137) (dk D_X6_goBack 66 rfl) (by decide) rfl (fun q => k1 q) (fun q => k2 q)) (fun q1 => ?_) (fun q1 => ?_)
  · have h := h.1 q1
    exact h
  · have h := h.2 q1
    refine K_p (pc2 := 139) (lv2 := [(0, vR 79), (1, vR _), (2, vI _), (3, vI _), (4, vR _), (5, vI _)]) (st2 := [vR _]) (fun ad S Q _ k => V_aload (pc2 := 139) (dk D_X6_goBack 67 rfl) (V_lg 4 rfl) rfl k) ?_
    refine K_p (pc2 := 140) (lv2 := [(0, vR 79), (1, vR _), (2, vI _), (3, vI _), (4, vR _), (5, vI _)]) (st2 := [vI _, vR _]) (fun ad S Q _ k => V_iload_n (pc2 := 140) (dk D_X6_goBack 68 rfl) rfl (V_lg 2 rfl) rfl k) ?_
    obtain ⟨h5, h⟩ := h
    obtain ⟨h6, h⟩ := h
    obtain ⟨e2, he3, hc4⟩ := h
    refine K_call (as := [vR _, vI _]) (st := []) (pc2 := 143) (okL.all _ ⟨(Or.inr ⟨Or.inl ⟨by decide, by decide⟩, by decide⟩), (isH.ok h6 (by decide)), trivial, trivial, (isH.ok h5 (by decide)), trivial, trivial⟩) (okS.all _ trivial) (fun ad S Q Qc hC hc k => V_callV (as := [_]) (st := []) (M' := MX10_push) (ci := 10) (pc2 := 143) (dk D_X6_goBack 69 rfl) ml_6_223 mv_X10_push rfl rfl (by decide) rfl (Nat.le_of_ble_eq_true rfl) rfl he3 (hC.k' h5) hc k) hc4 (kRV.k fun  κ7 h mo8 => ?_)
    exact h
theorem k_6_goBack_143 {X : Cx} {d : Nat} {κ : Km} {Q : Res → Km → Prop} (r1 : Nat) (x2 : Int32) (x3 : Int32) (r4 : Nat) (x5 : Int32) (h : Q (.inl none) κ) : K X d MX6_goBack 143 [(0, vR 79), (1, vR r1), (2, vI x2), (3, vI x3), (4, vR r4), (5, vI x5)] [] κ Q := by
  exact K_ret (r := .inl none) (fun ad S Q _ k => V_return (dk D_X6_goBack 70 rfl) rfl k) h
theorem k_6_passGuards_0 {X : Cx} {d : Nat} {κ : Km} {Q : Res → Km → Prop} (r1 : Nat) (x2 : Int32) (x3 : Int32) (h : ((x2 = 40 → (isH κ r1 10) ∧ ∃ e55 : Nat, e55 + 1 ≤ d ∧ KC' X e55 MX10_openGuard [vR r1, vI x3] κ (kRV fun  κ59 => K X d MX6_passGuards 130 [(0, vR 79), (1, vR r1), (2, vI x2), (3, vI x3)] [] κ59 Q)) ∧ (x2 = 43 → (isH κ r1 10) ∧ ∀ κ62 : Km, κ62 = cI κ r1 7 ((kI κ r1 7) + 1) → ∃ e63 : Nat, e63 + 1 ≤ d ∧ KC' X e63 MX10_turnGuard [vR r1, vI 2, vI 0, vI (kI κ62 r1 9)] κ62 (kRV fun  κ66 => K X d MX6_passGuards 130 [(0, vR 79), (1, vR r1), (2, vI x2), (3, vI x3)] [] κ66 Q)) ∧ (x2 = 44 → (isH κ r1 10) ∧ ∃ e68 : Nat, e68 + 1 ≤ d ∧ KC' X e68 MX10_closeGuard [vR r1] κ (kRV fun  κ72 => K X d MX6_passGuards 130 [(0, vR 79), (1, vR r1), (2, vI x2), (3, vI x3)] [] κ72 Q)) ∧ (x2 = 45 → (isH κ r1 10) ∧ ∃ e74 : Nat, e74 + 1 ≤ d ∧ KC' X e74 MX6_endFinally [vR 79, vR r1] κ (kRV fun  κ78 => K X d MX6_passGuards 130 [(0, vR 79), (1, vR r1), (2, vI x2), (3, vI x3)] [] κ78 Q)) ∧ (x2 = 46 → (isH κ r1 10) ∧ ∃ e80 : Nat, e80 + 1 ≤ d ∧ KC' X e80 MX10_pop [vR r1] κ (kRI fun y83 κ85 => ∃ e87 : Nat, e87 + 1 ≤ d ∧ KC' X e87 MX6_giveBack [vR 79, vR r1, vI y83] κ85 (kRV fun  κ90 => K X d MX6_passGuards 130 [(0, vR 79), (1, vR r1), (2, vI x2), (3, vI x3)] [] κ90 Q))) ∧ (¬ (x2 = 40 ∨ x2 = 43 ∨ x2 = 44 ∨ x2 = 45 ∨ x2 = 46) → (isH κ r1 10) ∧ ∃ e3 : Nat, e3 + 1 ≤ d ∧ KC' X e3 MX10_pop [vR r1] κ (kRI fun y6 κ8 => ∃ e10 : Nat, e10 + 1 ≤ d ∧ KC' X e10 MX10_place [vR r1] κ8 (kRI fun y13 κ14 => ∃ e16 : Nat, e16 + 1 ≤ d ∧ KC' X e16 MX10_caught [vR r1] κ14 (kRI fun y19 κ20 => ∃ e22 : Nat, e22 + 1 ≤ d ∧ KC' X e22 MX2_make [vR 84, vI x3, vI y6, vI (kI κ8 r1 0), vI y13, vI y19] κ20 (kRI fun y25 κ26 => ∀ κ28 : Km, κ28 = cI κ26 79 14 y25 → K X d MX6_passGuards 130 [(0, vR 79), (1, vR r1), (2, vI x2), (3, vI x3)] [] κ28 Q))))))) : K X d MX6_passGuards 0 [(0, vR 79), (1, vR r1), (2, vI x2), (3, vI x3)] [] κ Q := by
  refine K_p (pc2 := 1) (lv2 := [(0, vR 79), (1, vR _), (2, vI _), (3, vI _)]) (st2 := [vI _]) (fun ad S Q _ k => V_iload_n (pc2 := 1) (dk D_X6_passGuards 0 rfl) rfl (V_lg 2 rfl) rfl k) ?_
  refine K_table (dk D_X6_passGuards 1 rfl) [44, 102, 102, 52, 75, 82, 90] 102 (by decide) (by decide) rfl (by decide) (fun q1 => ?_) (fun j2 hj q1 => ?_)
  · have h := h.2.2.2.2.2 (by rintro (hk | hk | hk | hk | hk) <;> (rw [hk] at q1; revert q1; decide))
    refine K_p (pc2 := 103) (lv2 := [(0, vR 79), (1, vR _), (2, vI _), (3, vI _)]) (st2 := [vR 79]) (fun ad S Q _ k => V_aload_n (pc2 := 103) (dk D_X6_passGuards 32 rfl) rfl (V_lg 0 rfl) rfl k) ?_
    refine K_p (pc2 := 104) (lv2 := [(0, vR 79), (1, vR _), (2, vI _), (3, vI _)]) (st2 := [vR 79, vR 79]) (fun ad S Q _ k => V_aload_n (pc2 := 104) (dk D_X6_passGuards 33 rfl) rfl (V_lg 0 rfl) rfl k) ?_
    refine K_getF kc6 (h' := 84) (pc2 := 107) 2 (by decide) (dk D_X6_passGuards 34 rfl) fl_6_24 (by decide) (fun _ _ => rfl) rfl (fixH 79 6 (by decide) rfl) (by decide) ?_
    refine K_p (pc2 := 108) (lv2 := [(0, vR 79), (1, vR _), (2, vI _), (3, vI _)]) (st2 := [vI _, vR 84, vR 79]) (fun ad S Q _ k => V_iload_n (pc2 := 108) (dk D_X6_passGuards 35 rfl) rfl (V_lg 3 rfl) rfl k) ?_
    refine K_p (pc2 := 109) (lv2 := [(0, vR 79), (1, vR _), (2, vI _), (3, vI _)]) (st2 := [vR _, vI _, vR 84, vR 79]) (fun ad S Q _ k => V_aload_n (pc2 := 109) (dk D_X6_passGuards 36 rfl) rfl (V_lg 1 rfl) rfl k) ?_
    obtain ⟨h33, h⟩ := h
    obtain ⟨e29, he30, hc31⟩ := h
    refine K_call (as := [vR _]) (st := [vI _, vR 84, vR 79]) (pc2 := 112) (okL.all _ ⟨(Or.inr ⟨Or.inl ⟨by decide, by decide⟩, by decide⟩), (isH.ok h33 (by decide)), trivial, trivial, trivial⟩) (okS.all _ ⟨trivial, (Or.inr ⟨Or.inl ⟨by decide, by decide⟩, by decide⟩), (Or.inr ⟨Or.inl ⟨by decide, by decide⟩, by decide⟩), trivial⟩) (fun ad S Q Qc hC hc k => V_callV (as := []) (st := [_, _, _]) (M' := MX10_pop) (ci := 10) (pc2 := 112) (dk D_X6_passGuards 37 rfl) ml_6_212 mv_X10_pop rfl rfl (by decide) rfl (Nat.le_of_ble_eq_true rfl) rfl he30 (hC.k' h33) hc k) hc31 (kRI.k fun y32 κ34 h mo35 => ?_)
    refine K_p (pc2 := 113) (lv2 := [(0, vR 79), (1, vR _), (2, vI _), (3, vI _)]) (st2 := [vR _, vI _, vI _, vR 84, vR 79]) (fun ad S Q _ k => V_aload_n (pc2 := 113) (dk D_X6_passGuards 38 rfl) rfl (V_lg 1 rfl) rfl k) ?_
    refine K_getI kc10 (pc2 := 116) 0 (dk D_X6_passGuards 39 rfl) fl_6_198 (by decide) (fun _ _ => rfl) rfl (isH.mo h33 (by decide) mo35) ?_
    refine K_p (pc2 := 117) (lv2 := [(0, vR 79), (1, vR _), (2, vI _), (3, vI _)]) (st2 := [vR _, vI _, vI _, vI _, vR 84, vR 79]) (fun ad S Q _ k => V_aload_n (pc2 := 117) (dk D_X6_passGuards 40 rfl) rfl (V_lg 1 rfl) rfl k) ?_
    obtain ⟨e36, he37, hc38⟩ := h
    refine K_call (as := [vR _]) (st := [vI _, vI _, vI _, vR 84, vR 79]) (pc2 := 120) (okL.all _ ⟨(Or.inr ⟨Or.inl ⟨by decide, by decide⟩, by decide⟩), (isH.ok (isH.mo h33 (by decide) mo35) (by decide)), trivial, trivial, trivial⟩) (okS.all _ ⟨trivial, trivial, trivial, (Or.inr ⟨Or.inl ⟨by decide, by decide⟩, by decide⟩), (Or.inr ⟨Or.inl ⟨by decide, by decide⟩, by decide⟩), trivial⟩) (fun ad S Q Qc hC hc k => V_callV (as := []) (st := [_, _, _, _, _]) (M' := MX10_place) (ci := 10) (pc2 := 120) (dk D_X6_passGuards 41 rfl) ml_6_201 mv_X10_place rfl rfl (by decide) rfl (Nat.le_of_ble_eq_true rfl) rfl he37 (hC.k' (isH.mo h33 (by decide) mo35)) hc k) hc38 (kRI.k fun y39 κ40 h mo41 => ?_)
    refine K_p (pc2 := 121) (lv2 := [(0, vR 79), (1, vR _), (2, vI _), (3, vI _)]) (st2 := [vR _, vI _, vI _, vI _, vI _, vR 84, vR 79]) (fun ad S Q _ k => V_aload_n (pc2 := 121) (dk D_X6_passGuards 42 rfl) rfl (V_lg 1 rfl) rfl k) ?_
    obtain ⟨e42, he43, hc44⟩ := h
    refine K_call (as := [vR _]) (st := [vI _, vI _, vI _, vI _, vR 84, vR 79]) (pc2 := 124) (okL.all _ ⟨(Or.inr ⟨Or.inl ⟨by decide, by decide⟩, by decide⟩), (isH.ok (isH.mo (isH.mo h33 (by decide) mo35) (by decide) mo41) (by decide)), trivial, trivial, trivial⟩) (okS.all _ ⟨trivial, trivial, trivial, trivial, (Or.inr ⟨Or.inl ⟨by decide, by decide⟩, by decide⟩), (Or.inr ⟨Or.inl ⟨by decide, by decide⟩, by decide⟩), trivial⟩) (fun ad S Q Qc hC hc k => V_callV (as := []) (st := [_, _, _, _, _, _]) (M' := MX10_caught) (ci := 10) (pc2 := 124) (dk D_X6_passGuards 43 rfl) ml_6_309 mv_X10_caught rfl rfl (by decide) rfl (Nat.le_of_ble_eq_true rfl) rfl he43 (hC.k' (isH.mo (isH.mo h33 (by decide) mo35) (by decide) mo41)) hc k) hc44 (kRI.k fun y45 κ46 h mo47 => ?_)
    obtain ⟨e48, he49, hc50⟩ := h
    refine K_call (as := [vR 84, vI _, vI _, vI _, vI _, vI _]) (st := [vR 79]) (pc2 := 127) (okL.all _ ⟨(Or.inr ⟨Or.inl ⟨by decide, by decide⟩, by decide⟩), (isH.ok (isH.mo (isH.mo (isH.mo h33 (by decide) mo35) (by decide) mo41) (by decide) mo47) (by decide)), trivial, trivial, trivial⟩) (okS.all _ ⟨(Or.inr ⟨Or.inl ⟨by decide, by decide⟩, by decide⟩), trivial⟩) (fun ad S Q Qc hC hc k => V_callV (as := [_, _, _, _, _]) (st := [_]) (M' := MX2_make) (ci := 2) (pc2 := 127) (dk D_X6_passGuards 44 rfl) ml_6_123 mv_X2_make rfl rfl (by decide) rfl (Nat.le_of_ble_eq_true rfl) rfl he49 (hC.k' (fixH 84 2 (by decide) rfl)) hc k) hc50 (kRI.k fun y51 κ52 h mo53 => ?_)
    refine K_putI kc6 (pc2 := 130) 14 (dk D_X6_passGuards 45 rfl) fl_6_77 (by decide) (Or.inl rfl) rfl rfl (fixH 79 6 (by decide) rfl) (by decide) ?_
    have h := h _ rfl
    exact h
  · have hj2 : j2 = 0 ∨ j2 = 1 ∨ j2 = 2 ∨ j2 = 3 ∨ j2 = 4 ∨ j2 = 5 ∨ j2 = 6 := by simp at hj; omega
    clear hj
    rcases hj2 with rfl | rfl | rfl | rfl | rfl | rfl | rfl
    · have hx : x2 = 40 := Int32.toInt_inj.mp (by rw [q1]; decide)
      have h := h.1 hx
      refine K_p (pc2 := 45) (lv2 := [(0, vR 79), (1, vR _), (2, vI _), (3, vI _)]) (st2 := [vR _]) (fun ad S Q _ k => V_aload_n (pc2 := 45) (dk D_X6_passGuards 2 rfl) rfl (V_lg 1 rfl) rfl k) ?_
      refine K_p (pc2 := 46) (lv2 := [(0, vR 79), (1, vR _), (2, vI _), (3, vI _)]) (st2 := [vI _, vR _]) (fun ad S Q _ k => V_iload_n (pc2 := 46) (dk D_X6_passGuards 3 rfl) rfl (V_lg 3 rfl) rfl k) ?_
      obtain ⟨h58, h⟩ := h
      obtain ⟨e55, he56, hc57⟩ := h
      refine K_call (as := [vR _, vI _]) (st := []) (pc2 := 49) (okL.all _ ⟨(Or.inr ⟨Or.inl ⟨by decide, by decide⟩, by decide⟩), (isH.ok h58 (by decide)), trivial, trivial, trivial⟩) (okS.all _ trivial) (fun ad S Q Qc hC hc k => V_callV (as := [_]) (st := []) (M' := MX10_openGuard) (ci := 10) (pc2 := 49) (dk D_X6_passGuards 4 rfl) ml_6_290 mv_X10_openGuard rfl rfl (by decide) rfl (Nat.le_of_ble_eq_true rfl) rfl he56 (hC.k' h58) hc k) hc57 (kRV.k fun  κ59 h mo60 => ?_)
      refine K_p (pc2 := 130) (lv2 := [(0, vR 79), (1, vR _), (2, vI _), (3, vI _)]) (st2 := []) (fun ad S Q _ k => V_goto (tgt := 130) (dk D_X6_passGuards 5 rfl) (by decide) k) ?_
      exact h
    · have h := h.2.2.2.2.2 (by rintro (hk | hk | hk | hk | hk) <;> (rw [hk] at q1; revert q1; decide))
      refine K_p (pc2 := 103) (lv2 := [(0, vR 79), (1, vR _), (2, vI _), (3, vI _)]) (st2 := [vR 79]) (fun ad S Q _ k => V_aload_n (pc2 := 103) (dk D_X6_passGuards 32 rfl) rfl (V_lg 0 rfl) rfl k) ?_
      refine K_p (pc2 := 104) (lv2 := [(0, vR 79), (1, vR _), (2, vI _), (3, vI _)]) (st2 := [vR 79, vR 79]) (fun ad S Q _ k => V_aload_n (pc2 := 104) (dk D_X6_passGuards 33 rfl) rfl (V_lg 0 rfl) rfl k) ?_
      refine K_getF kc6 (h' := 84) (pc2 := 107) 2 (by decide) (dk D_X6_passGuards 34 rfl) fl_6_24 (by decide) (fun _ _ => rfl) rfl (fixH 79 6 (by decide) rfl) (by decide) ?_
      refine K_p (pc2 := 108) (lv2 := [(0, vR 79), (1, vR _), (2, vI _), (3, vI _)]) (st2 := [vI _, vR 84, vR 79]) (fun ad S Q _ k => V_iload_n (pc2 := 108) (dk D_X6_passGuards 35 rfl) rfl (V_lg 3 rfl) rfl k) ?_
      refine K_p (pc2 := 109) (lv2 := [(0, vR 79), (1, vR _), (2, vI _), (3, vI _)]) (st2 := [vR _, vI _, vR 84, vR 79]) (fun ad S Q _ k => V_aload_n (pc2 := 109) (dk D_X6_passGuards 36 rfl) rfl (V_lg 1 rfl) rfl k) ?_
      obtain ⟨h7, h⟩ := h
      obtain ⟨e3, he4, hc5⟩ := h
      refine K_call (as := [vR _]) (st := [vI _, vR 84, vR 79]) (pc2 := 112) (okL.all _ ⟨(Or.inr ⟨Or.inl ⟨by decide, by decide⟩, by decide⟩), (isH.ok h7 (by decide)), trivial, trivial, trivial⟩) (okS.all _ ⟨trivial, (Or.inr ⟨Or.inl ⟨by decide, by decide⟩, by decide⟩), (Or.inr ⟨Or.inl ⟨by decide, by decide⟩, by decide⟩), trivial⟩) (fun ad S Q Qc hC hc k => V_callV (as := []) (st := [_, _, _]) (M' := MX10_pop) (ci := 10) (pc2 := 112) (dk D_X6_passGuards 37 rfl) ml_6_212 mv_X10_pop rfl rfl (by decide) rfl (Nat.le_of_ble_eq_true rfl) rfl he4 (hC.k' h7) hc k) hc5 (kRI.k fun y6 κ8 h mo9 => ?_)
      refine K_p (pc2 := 113) (lv2 := [(0, vR 79), (1, vR _), (2, vI _), (3, vI _)]) (st2 := [vR _, vI _, vI _, vR 84, vR 79]) (fun ad S Q _ k => V_aload_n (pc2 := 113) (dk D_X6_passGuards 38 rfl) rfl (V_lg 1 rfl) rfl k) ?_
      refine K_getI kc10 (pc2 := 116) 0 (dk D_X6_passGuards 39 rfl) fl_6_198 (by decide) (fun _ _ => rfl) rfl (isH.mo h7 (by decide) mo9) ?_
      refine K_p (pc2 := 117) (lv2 := [(0, vR 79), (1, vR _), (2, vI _), (3, vI _)]) (st2 := [vR _, vI _, vI _, vI _, vR 84, vR 79]) (fun ad S Q _ k => V_aload_n (pc2 := 117) (dk D_X6_passGuards 40 rfl) rfl (V_lg 1 rfl) rfl k) ?_
      obtain ⟨e10, he11, hc12⟩ := h
      refine K_call (as := [vR _]) (st := [vI _, vI _, vI _, vR 84, vR 79]) (pc2 := 120) (okL.all _ ⟨(Or.inr ⟨Or.inl ⟨by decide, by decide⟩, by decide⟩), (isH.ok (isH.mo h7 (by decide) mo9) (by decide)), trivial, trivial, trivial⟩) (okS.all _ ⟨trivial, trivial, trivial, (Or.inr ⟨Or.inl ⟨by decide, by decide⟩, by decide⟩), (Or.inr ⟨Or.inl ⟨by decide, by decide⟩, by decide⟩), trivial⟩) (fun ad S Q Qc hC hc k => V_callV (as := []) (st := [_, _, _, _, _]) (M' := MX10_place) (ci := 10) (pc2 := 120) (dk D_X6_passGuards 41 rfl) ml_6_201 mv_X10_place rfl rfl (by decide) rfl (Nat.le_of_ble_eq_true rfl) rfl he11 (hC.k' (isH.mo h7 (by decide) mo9)) hc k) hc12 (kRI.k fun y13 κ14 h mo15 => ?_)
      refine K_p (pc2 := 121) (lv2 := [(0, vR 79), (1, vR _), (2, vI _), (3, vI _)]) (st2 := [vR _, vI _, vI _, vI _, vI _, vR 84, vR 79]) (fun ad S Q _ k => V_aload_n (pc2 := 121) (dk D_X6_passGuards 42 rfl) rfl (V_lg 1 rfl) rfl k) ?_
      obtain ⟨e16, he17, hc18⟩ := h
      refine K_call (as := [vR _]) (st := [vI _, vI _, vI _, vI _, vR 84, vR 79]) (pc2 := 124) (okL.all _ ⟨(Or.inr ⟨Or.inl ⟨by decide, by decide⟩, by decide⟩), (isH.ok (isH.mo (isH.mo h7 (by decide) mo9) (by decide) mo15) (by decide)), trivial, trivial, trivial⟩) (okS.all _ ⟨trivial, trivial, trivial, trivial, (Or.inr ⟨Or.inl ⟨by decide, by decide⟩, by decide⟩), (Or.inr ⟨Or.inl ⟨by decide, by decide⟩, by decide⟩), trivial⟩) (fun ad S Q Qc hC hc k => V_callV (as := []) (st := [_, _, _, _, _, _]) (M' := MX10_caught) (ci := 10) (pc2 := 124) (dk D_X6_passGuards 43 rfl) ml_6_309 mv_X10_caught rfl rfl (by decide) rfl (Nat.le_of_ble_eq_true rfl) rfl he17 (hC.k' (isH.mo (isH.mo h7 (by decide) mo9) (by decide) mo15)) hc k) hc18 (kRI.k fun y19 κ20 h mo21 => ?_)
      obtain ⟨e22, he23, hc24⟩ := h
      refine K_call (as := [vR 84, vI _, vI _, vI _, vI _, vI _]) (st := [vR 79]) (pc2 := 127) (okL.all _ ⟨(Or.inr ⟨Or.inl ⟨by decide, by decide⟩, by decide⟩), (isH.ok (isH.mo (isH.mo (isH.mo h7 (by decide) mo9) (by decide) mo15) (by decide) mo21) (by decide)), trivial, trivial, trivial⟩) (okS.all _ ⟨(Or.inr ⟨Or.inl ⟨by decide, by decide⟩, by decide⟩), trivial⟩) (fun ad S Q Qc hC hc k => V_callV (as := [_, _, _, _, _]) (st := [_]) (M' := MX2_make) (ci := 2) (pc2 := 127) (dk D_X6_passGuards 44 rfl) ml_6_123 mv_X2_make rfl rfl (by decide) rfl (Nat.le_of_ble_eq_true rfl) rfl he23 (hC.k' (fixH 84 2 (by decide) rfl)) hc k) hc24 (kRI.k fun y25 κ26 h mo27 => ?_)
      refine K_putI kc6 (pc2 := 130) 14 (dk D_X6_passGuards 45 rfl) fl_6_77 (by decide) (Or.inl rfl) rfl rfl (fixH 79 6 (by decide) rfl) (by decide) ?_
      have h := h _ rfl
      exact h
    · have h := h.2.2.2.2.2 (by rintro (hk | hk | hk | hk | hk) <;> (rw [hk] at q1; revert q1; decide))
      refine K_p (pc2 := 103) (lv2 := [(0, vR 79), (1, vR _), (2, vI _), (3, vI _)]) (st2 := [vR 79]) (fun ad S Q _ k => V_aload_n (pc2 := 103) (dk D_X6_passGuards 32 rfl) rfl (V_lg 0 rfl) rfl k) ?_
      refine K_p (pc2 := 104) (lv2 := [(0, vR 79), (1, vR _), (2, vI _), (3, vI _)]) (st2 := [vR 79, vR 79]) (fun ad S Q _ k => V_aload_n (pc2 := 104) (dk D_X6_passGuards 33 rfl) rfl (V_lg 0 rfl) rfl k) ?_
      refine K_getF kc6 (h' := 84) (pc2 := 107) 2 (by decide) (dk D_X6_passGuards 34 rfl) fl_6_24 (by decide) (fun _ _ => rfl) rfl (fixH 79 6 (by decide) rfl) (by decide) ?_
      refine K_p (pc2 := 108) (lv2 := [(0, vR 79), (1, vR _), (2, vI _), (3, vI _)]) (st2 := [vI _, vR 84, vR 79]) (fun ad S Q _ k => V_iload_n (pc2 := 108) (dk D_X6_passGuards 35 rfl) rfl (V_lg 3 rfl) rfl k) ?_
      refine K_p (pc2 := 109) (lv2 := [(0, vR 79), (1, vR _), (2, vI _), (3, vI _)]) (st2 := [vR _, vI _, vR 84, vR 79]) (fun ad S Q _ k => V_aload_n (pc2 := 109) (dk D_X6_passGuards 36 rfl) rfl (V_lg 1 rfl) rfl k) ?_
      obtain ⟨h7, h⟩ := h
      obtain ⟨e3, he4, hc5⟩ := h
      refine K_call (as := [vR _]) (st := [vI _, vR 84, vR 79]) (pc2 := 112) (okL.all _ ⟨(Or.inr ⟨Or.inl ⟨by decide, by decide⟩, by decide⟩), (isH.ok h7 (by decide)), trivial, trivial, trivial⟩) (okS.all _ ⟨trivial, (Or.inr ⟨Or.inl ⟨by decide, by decide⟩, by decide⟩), (Or.inr ⟨Or.inl ⟨by decide, by decide⟩, by decide⟩), trivial⟩) (fun ad S Q Qc hC hc k => V_callV (as := []) (st := [_, _, _]) (M' := MX10_pop) (ci := 10) (pc2 := 112) (dk D_X6_passGuards 37 rfl) ml_6_212 mv_X10_pop rfl rfl (by decide) rfl (Nat.le_of_ble_eq_true rfl) rfl he4 (hC.k' h7) hc k) hc5 (kRI.k fun y6 κ8 h mo9 => ?_)
      refine K_p (pc2 := 113) (lv2 := [(0, vR 79), (1, vR _), (2, vI _), (3, vI _)]) (st2 := [vR _, vI _, vI _, vR 84, vR 79]) (fun ad S Q _ k => V_aload_n (pc2 := 113) (dk D_X6_passGuards 38 rfl) rfl (V_lg 1 rfl) rfl k) ?_
      refine K_getI kc10 (pc2 := 116) 0 (dk D_X6_passGuards 39 rfl) fl_6_198 (by decide) (fun _ _ => rfl) rfl (isH.mo h7 (by decide) mo9) ?_
      refine K_p (pc2 := 117) (lv2 := [(0, vR 79), (1, vR _), (2, vI _), (3, vI _)]) (st2 := [vR _, vI _, vI _, vI _, vR 84, vR 79]) (fun ad S Q _ k => V_aload_n (pc2 := 117) (dk D_X6_passGuards 40 rfl) rfl (V_lg 1 rfl) rfl k) ?_
      obtain ⟨e10, he11, hc12⟩ := h
      refine K_call (as := [vR _]) (st := [vI _, vI _, vI _, vR 84, vR 79]) (pc2 := 120) (okL.all _ ⟨(Or.inr ⟨Or.inl ⟨by decide, by decide⟩, by decide⟩), (isH.ok (isH.mo h7 (by decide) mo9) (by decide)), trivial, trivial, trivial⟩) (okS.all _ ⟨trivial, trivial, trivial, (Or.inr ⟨Or.inl ⟨by decide, by decide⟩, by decide⟩), (Or.inr ⟨Or.inl ⟨by decide, by decide⟩, by decide⟩), trivial⟩) (fun ad S Q Qc hC hc k => V_callV (as := []) (st := [_, _, _, _, _]) (M' := MX10_place) (ci := 10) (pc2 := 120) (dk D_X6_passGuards 41 rfl) ml_6_201 mv_X10_place rfl rfl (by decide) rfl (Nat.le_of_ble_eq_true rfl) rfl he11 (hC.k' (isH.mo h7 (by decide) mo9)) hc k) hc12 (kRI.k fun y13 κ14 h mo15 => ?_)
      refine K_p (pc2 := 121) (lv2 := [(0, vR 79), (1, vR _), (2, vI _), (3, vI _)]) (st2 := [vR _, vI _, vI _, vI _, vI _, vR 84, vR 79]) (fun ad S Q _ k => V_aload_n (pc2 := 121) (dk D_X6_passGuards 42 rfl) rfl (V_lg 1 rfl) rfl k) ?_
      obtain ⟨e16, he17, hc18⟩ := h
      refine K_call (as := [vR _]) (st := [vI _, vI _, vI _, vI _, vR 84, vR 79]) (pc2 := 124) (okL.all _ ⟨(Or.inr ⟨Or.inl ⟨by decide, by decide⟩, by decide⟩), (isH.ok (isH.mo (isH.mo h7 (by decide) mo9) (by decide) mo15) (by decide)), trivial, trivial, trivial⟩) (okS.all _ ⟨trivial, trivial, trivial, trivial, (Or.inr ⟨Or.inl ⟨by decide, by decide⟩, by decide⟩), (Or.inr ⟨Or.inl ⟨by decide, by decide⟩, by decide⟩), trivial⟩) (fun ad S Q Qc hC hc k => V_callV (as := []) (st := [_, _, _, _, _, _]) (M' := MX10_caught) (ci := 10) (pc2 := 124) (dk D_X6_passGuards 43 rfl) ml_6_309 mv_X10_caught rfl rfl (by decide) rfl (Nat.le_of_ble_eq_true rfl) rfl he17 (hC.k' (isH.mo (isH.mo h7 (by decide) mo9) (by decide) mo15)) hc k) hc18 (kRI.k fun y19 κ20 h mo21 => ?_)
      obtain ⟨e22, he23, hc24⟩ := h
      refine K_call (as := [vR 84, vI _, vI _, vI _, vI _, vI _]) (st := [vR 79]) (pc2 := 127) (okL.all _ ⟨(Or.inr ⟨Or.inl ⟨by decide, by decide⟩, by decide⟩), (isH.ok (isH.mo (isH.mo (isH.mo h7 (by decide) mo9) (by decide) mo15) (by decide) mo21) (by decide)), trivial, trivial, trivial⟩) (okS.all _ ⟨(Or.inr ⟨Or.inl ⟨by decide, by decide⟩, by decide⟩), trivial⟩) (fun ad S Q Qc hC hc k => V_callV (as := [_, _, _, _, _]) (st := [_]) (M' := MX2_make) (ci := 2) (pc2 := 127) (dk D_X6_passGuards 44 rfl) ml_6_123 mv_X2_make rfl rfl (by decide) rfl (Nat.le_of_ble_eq_true rfl) rfl he23 (hC.k' (fixH 84 2 (by decide) rfl)) hc k) hc24 (kRI.k fun y25 κ26 h mo27 => ?_)
      refine K_putI kc6 (pc2 := 130) 14 (dk D_X6_passGuards 45 rfl) fl_6_77 (by decide) (Or.inl rfl) rfl rfl (fixH 79 6 (by decide) rfl) (by decide) ?_
      have h := h _ rfl
      exact h
    · have hx : x2 = 43 := Int32.toInt_inj.mp (by rw [q1]; decide)
      have h := h.2.1 hx
      refine K_p (pc2 := 53) (lv2 := [(0, vR 79), (1, vR _), (2, vI _), (3, vI _)]) (st2 := [vR _]) (fun ad S Q _ k => V_aload_n (pc2 := 53) (dk D_X6_passGuards 6 rfl) rfl (V_lg 1 rfl) rfl k) ?_
      refine K_p (pc2 := 54) (lv2 := [(0, vR 79), (1, vR _), (2, vI _), (3, vI _)]) (st2 := [vR _, vR _]) (fun ad S Q _ k => V_dup (pc2 := 54) (dk D_X6_passGuards 7 rfl) rfl rfl k) ?_
      obtain ⟨h61, h⟩ := h
      refine K_getI kc10 (pc2 := 57) 7 (dk D_X6_passGuards 8 rfl) fl_6_293 (by decide) (fun _ _ => rfl) rfl h61 ?_
      refine K_p (pc2 := 58) (lv2 := [(0, vR 79), (1, vR _), (2, vI _), (3, vI _)]) (st2 := [vI _, vI _, vR _]) (fun ad S Q _ k => V_iconst (x := 1) (pc2 := 58) (dk D_X6_passGuards 9 rfl) (by decide) rfl k) ?_
      refine K_p (pc2 := 59) (lv2 := [(0, vR 79), (1, vR _), (2, vI _), (3, vI _)]) (st2 := [vI _, vR _]) (fun ad S Q _ k => V_iadd (pc2 := 59) (dk D_X6_passGuards 10 rfl) rfl k) ?_
      refine K_putI kc10 (pc2 := 62) 7 (dk D_X6_passGuards 11 rfl) fl_6_293 (by decide) (Or.inl rfl) rfl rfl h61 (isH.n69 h61 (by decide)) ?_
      have h := h _ rfl
      refine K_p (pc2 := 63) (lv2 := [(0, vR 79), (1, vR _), (2, vI _), (3, vI _)]) (st2 := [vR _]) (fun ad S Q _ k => V_aload_n (pc2 := 63) (dk D_X6_passGuards 12 rfl) rfl (V_lg 1 rfl) rfl k) ?_
      refine K_p (pc2 := 64) (lv2 := [(0, vR 79), (1, vR _), (2, vI _), (3, vI _)]) (st2 := [vI _, vR _]) (fun ad S Q _ k => V_iconst (x := 2) (pc2 := 64) (dk D_X6_passGuards 13 rfl) (by decide) rfl k) ?_
      refine K_p (pc2 := 65) (lv2 := [(0, vR 79), (1, vR _), (2, vI _), (3, vI _)]) (st2 := [vI _, vI _, vR _]) (fun ad S Q _ k => V_iconst (x := 0) (pc2 := 65) (dk D_X6_passGuards 14 rfl) (by decide) rfl k) ?_
      refine K_p (pc2 := 66) (lv2 := [(0, vR 79), (1, vR _), (2, vI _), (3, vI _)]) (st2 := [vR _, vI _, vI _, vR _]) (fun ad S Q _ k => V_aload_n (pc2 := 66) (dk D_X6_passGuards 15 rfl) rfl (V_lg 1 rfl) rfl k) ?_
      refine K_getI kc10 (pc2 := 69) 9 (dk D_X6_passGuards 16 rfl) fl_6_175 (by decide) (fun _ _ => rfl) rfl h61 ?_
      obtain ⟨e63, he64, hc65⟩ := h
      refine K_call (as := [vR _, vI _, vI _, vI _]) (st := []) (pc2 := 72) (okL.all _ ⟨(Or.inr ⟨Or.inl ⟨by decide, by decide⟩, by decide⟩), (isH.ok h61 (by decide)), trivial, trivial, trivial⟩) (okS.all _ trivial) (fun ad S Q Qc hC hc k => V_callV (as := [_, _, _]) (st := []) (M' := MX10_turnGuard) (ci := 10) (pc2 := 72) (dk D_X6_passGuards 17 rfl) ml_6_296 mv_X10_turnGuard rfl rfl (by decide) rfl (Nat.le_of_ble_eq_true rfl) rfl he64 (hC.k' h61) hc k) hc65 (kRV.k fun  κ66 h mo67 => ?_)
      refine K_p (pc2 := 130) (lv2 := [(0, vR 79), (1, vR _), (2, vI _), (3, vI _)]) (st2 := []) (fun ad S Q _ k => V_goto (tgt := 130) (dk D_X6_passGuards 18 rfl) (by decide) k) ?_
      exact h
    · have hx : x2 = 44 := Int32.toInt_inj.mp (by rw [q1]; decide)
      have h := h.2.2.1 hx
      refine K_p (pc2 := 76) (lv2 := [(0, vR 79), (1, vR _), (2, vI _), (3, vI _)]) (st2 := [vR _]) (fun ad S Q _ k => V_aload_n (pc2 := 76) (dk D_X6_passGuards 19 rfl) rfl (V_lg 1 rfl) rfl k) ?_
      obtain ⟨h71, h⟩ := h
      obtain ⟨e68, he69, hc70⟩ := h
      refine K_call (as := [vR _]) (st := []) (pc2 := 79) (okL.all _ ⟨(Or.inr ⟨Or.inl ⟨by decide, by decide⟩, by decide⟩), (isH.ok h71 (by decide)), trivial, trivial, trivial⟩) (okS.all _ trivial) (fun ad S Q Qc hC hc k => V_callV (as := []) (st := []) (M' := MX10_closeGuard) (ci := 10) (pc2 := 79) (dk D_X6_passGuards 20 rfl) ml_6_300 mv_X10_closeGuard rfl rfl (by decide) rfl (Nat.le_of_ble_eq_true rfl) rfl he69 (hC.k' h71) hc k) hc70 (kRV.k fun  κ72 h mo73 => ?_)
      refine K_p (pc2 := 130) (lv2 := [(0, vR 79), (1, vR _), (2, vI _), (3, vI _)]) (st2 := []) (fun ad S Q _ k => V_goto (tgt := 130) (dk D_X6_passGuards 21 rfl) (by decide) k) ?_
      exact h
    · have hx : x2 = 45 := Int32.toInt_inj.mp (by rw [q1]; decide)
      have h := h.2.2.2.1 hx
      refine K_p (pc2 := 83) (lv2 := [(0, vR 79), (1, vR _), (2, vI _), (3, vI _)]) (st2 := [vR 79]) (fun ad S Q _ k => V_aload_n (pc2 := 83) (dk D_X6_passGuards 22 rfl) rfl (V_lg 0 rfl) rfl k) ?_
      refine K_p (pc2 := 84) (lv2 := [(0, vR 79), (1, vR _), (2, vI _), (3, vI _)]) (st2 := [vR _, vR 79]) (fun ad S Q _ k => V_aload_n (pc2 := 84) (dk D_X6_passGuards 23 rfl) rfl (V_lg 1 rfl) rfl k) ?_
      obtain ⟨h77, h⟩ := h
      obtain ⟨e74, he75, hc76⟩ := h
      refine K_call (as := [vR 79, vR _]) (st := []) (pc2 := 87) (okL.all _ ⟨(Or.inr ⟨Or.inl ⟨by decide, by decide⟩, by decide⟩), (isH.ok h77 (by decide)), trivial, trivial, trivial⟩) (okS.all _ trivial) (fun ad S Q Qc hC hc k => V_callV (as := [_]) (st := []) (M' := MX6_endFinally) (ci := 6) (pc2 := 87) (dk D_X6_passGuards 24 rfl) ml_6_303 mv_X6_endFinally rfl rfl (by decide) rfl (Nat.le_of_ble_eq_true rfl) rfl he75 (hC.k' (fixH 79 6 (by decide) rfl)) hc k) hc76 (kRV.k fun  κ78 h mo79 => ?_)
      refine K_p (pc2 := 130) (lv2 := [(0, vR 79), (1, vR _), (2, vI _), (3, vI _)]) (st2 := []) (fun ad S Q _ k => V_goto (tgt := 130) (dk D_X6_passGuards 25 rfl) (by decide) k) ?_
      exact h
    · have hx : x2 = 46 := Int32.toInt_inj.mp (by rw [q1]; decide)
      have h := h.2.2.2.2.1 hx
      refine K_p (pc2 := 91) (lv2 := [(0, vR 79), (1, vR _), (2, vI _), (3, vI _)]) (st2 := [vR 79]) (fun ad S Q _ k => V_aload_n (pc2 := 91) (dk D_X6_passGuards 26 rfl) rfl (V_lg 0 rfl) rfl k) ?_
      refine K_p (pc2 := 92) (lv2 := [(0, vR 79), (1, vR _), (2, vI _), (3, vI _)]) (st2 := [vR _, vR 79]) (fun ad S Q _ k => V_aload_n (pc2 := 92) (dk D_X6_passGuards 27 rfl) rfl (V_lg 1 rfl) rfl k) ?_
      refine K_p (pc2 := 93) (lv2 := [(0, vR 79), (1, vR _), (2, vI _), (3, vI _)]) (st2 := [vR _, vR _, vR 79]) (fun ad S Q _ k => V_aload_n (pc2 := 93) (dk D_X6_passGuards 28 rfl) rfl (V_lg 1 rfl) rfl k) ?_
      obtain ⟨h84, h⟩ := h
      obtain ⟨e80, he81, hc82⟩ := h
      refine K_call (as := [vR _]) (st := [vR _, vR 79]) (pc2 := 96) (okL.all _ ⟨(Or.inr ⟨Or.inl ⟨by decide, by decide⟩, by decide⟩), (isH.ok h84 (by decide)), trivial, trivial, trivial⟩) (okS.all _ ⟨(isH.ok h84 (by decide)), (Or.inr ⟨Or.inl ⟨by decide, by decide⟩, by decide⟩), trivial⟩) (fun ad S Q Qc hC hc k => V_callV (as := []) (st := [_, _]) (M' := MX10_pop) (ci := 10) (pc2 := 96) (dk D_X6_passGuards 29 rfl) ml_6_212 mv_X10_pop rfl rfl (by decide) rfl (Nat.le_of_ble_eq_true rfl) rfl he81 (hC.k' h84) hc k) hc82 (kRI.k fun y83 κ85 h mo86 => ?_)
      obtain ⟨e87, he88, hc89⟩ := h
      refine K_call (as := [vR 79, vR _, vI _]) (st := []) (pc2 := 99) (okL.all _ ⟨(Or.inr ⟨Or.inl ⟨by decide, by decide⟩, by decide⟩), (isH.ok (isH.mo h84 (by decide) mo86) (by decide)), trivial, trivial, trivial⟩) (okS.all _ trivial) (fun ad S Q Qc hC hc k => V_callV (as := [_, _]) (st := []) (M' := MX6_giveBack) (ci := 6) (pc2 := 99) (dk D_X6_passGuards 30 rfl) ml_6_306 mv_X6_giveBack rfl rfl (by decide) rfl (Nat.le_of_ble_eq_true rfl) rfl he88 (hC.k' (fixH 79 6 (by decide) rfl)) hc k) hc89 (kRV.k fun  κ90 h mo91 => ?_)
      refine K_p (pc2 := 130) (lv2 := [(0, vR 79), (1, vR _), (2, vI _), (3, vI _)]) (st2 := []) (fun ad S Q _ k => V_goto (tgt := 130) (dk D_X6_passGuards 31 rfl) (by decide) k) ?_
      exact h
theorem k_6_passGuards_130 {X : Cx} {d : Nat} {κ : Km} {Q : Res → Km → Prop} (r1 : Nat) (x2 : Int32) (x3 : Int32) (h : Q (.inl none) κ) : K X d MX6_passGuards 130 [(0, vR 79), (1, vR r1), (2, vI x2), (3, vI x3)] [] κ Q := by
  exact K_ret (r := .inl none) (fun ad S Q _ k => V_return (dk D_X6_passGuards 46 rfl) rfl k) h
theorem k_6_endFinally_0 {X : Cx} {d : Nat} {κ : Km} {Q : Res → Km → Prop} (r1 : Nat) (h : (isH κ r1 10) ∧ ∃ e1 : Nat, e1 + 1 ≤ d ∧ KC' X e1 MX10_phase [vR r1] κ (kRI fun y4 κ6 => ∃ e8 : Nat, e8 + 1 ≤ d ∧ KC' X e8 MX10_keptByGuard [vR r1] κ6 (kRI fun y11 κ12 => ∃ e14 : Nat, e14 + 1 ≤ d ∧ KC' X e14 MX10_closeGuard [vR r1] κ12 (kRV fun  κ17 => ((y4 = 3 → ∀ κ20 : Km, κ20 = cI κ17 79 14 y11 → K X d MX6_endFinally 38 [(0, vR 79), (1, vR r1), (2, vI y4), (3, vI y11)] [] κ20 Q) ∧ (¬ y4 = 3 → ((y4 = 4 → ∃ e22 : Nat, e22 + 1 ≤ d ∧ KC' X e22 MX6_giveBack [vR 79, vR r1, vI y11] κ17 (kRV fun  κ25 => K X d MX6_endFinally 38 [(0, vR 79), (1, vR r1), (2, vI y4), (3, vI y11)] [] κ25 Q)) ∧ (¬ y4 = 4 → K X d MX6_endFinally 38 [(0, vR 79), (1, vR r1), (2, vI y4), (3, vI y11)] [] κ17 Q)))))))) : K X d MX6_endFinally 0 [(0, vR 79), (1, vR r1)] [] κ Q := by
  refine K_p (pc2 := 1) (lv2 := [(0, vR 79), (1, vR _)]) (st2 := [vR _]) (fun ad S Q _ k => V_aload_n (pc2 := 1) (dk D_X6_endFinally 0 rfl) rfl (V_lg 1 rfl) rfl k) ?_
  obtain ⟨h5, h⟩ := h
  obtain ⟨e1, he2, hc3⟩ := h
  refine K_call (as := [vR _]) (st := []) (pc2 := 4) (okL.all _ ⟨(Or.inr ⟨Or.inl ⟨by decide, by decide⟩, by decide⟩), (isH.ok h5 (by decide)), trivial⟩) (okS.all _ trivial) (fun ad S Q Qc hC hc k => V_callV (as := []) (st := []) (M' := MX10_phase) (ci := 10) (pc2 := 4) (dk D_X6_endFinally 1 rfl) ml_6_312 mv_X10_phase rfl rfl (by decide) rfl (Nat.le_of_ble_eq_true rfl) rfl he2 (hC.k' h5) hc k) hc3 (kRI.k fun y4 κ6 h mo7 => ?_)
  refine K_p (pc2 := 5) (lv2 := [(0, vR 79), (1, vR _), (2, vI _)]) (st2 := []) (fun ad S Q _ k => V_istore_n (pc2 := 5) (lv2 := [(0, _), (1, _), (2, _)]) (dk D_X6_endFinally 2 rfl) rfl (by decide) rfl rfl k) ?_
  refine K_p (pc2 := 6) (lv2 := [(0, vR 79), (1, vR _), (2, vI _)]) (st2 := [vR _]) (fun ad S Q _ k => V_aload_n (pc2 := 6) (dk D_X6_endFinally 3 rfl) rfl (V_lg 1 rfl) rfl k) ?_
  obtain ⟨e8, he9, hc10⟩ := h
  refine K_call (as := [vR _]) (st := []) (pc2 := 9) (okL.all _ ⟨(Or.inr ⟨Or.inl ⟨by decide, by decide⟩, by decide⟩), (isH.ok (isH.mo h5 (by decide) mo7) (by decide)), trivial, trivial⟩) (okS.all _ trivial) (fun ad S Q Qc hC hc k => V_callV (as := []) (st := []) (M' := MX10_keptByGuard) (ci := 10) (pc2 := 9) (dk D_X6_endFinally 4 rfl) ml_6_315 mv_X10_keptByGuard rfl rfl (by decide) rfl (Nat.le_of_ble_eq_true rfl) rfl he9 (hC.k' (isH.mo h5 (by decide) mo7)) hc k) hc10 (kRI.k fun y11 κ12 h mo13 => ?_)
  refine K_p (pc2 := 10) (lv2 := [(0, vR 79), (1, vR _), (2, vI _), (3, vI _)]) (st2 := []) (fun ad S Q _ k => V_istore_n (pc2 := 10) (lv2 := [(0, _), (1, _), (2, _), (3, _)]) (dk D_X6_endFinally 5 rfl) rfl (by decide) rfl rfl k) ?_
  refine K_p (pc2 := 11) (lv2 := [(0, vR 79), (1, vR _), (2, vI _), (3, vI _)]) (st2 := [vR _]) (fun ad S Q _ k => V_aload_n (pc2 := 11) (dk D_X6_endFinally 6 rfl) rfl (V_lg 1 rfl) rfl k) ?_
  obtain ⟨e14, he15, hc16⟩ := h
  refine K_call (as := [vR _]) (st := []) (pc2 := 14) (okL.all _ ⟨(Or.inr ⟨Or.inl ⟨by decide, by decide⟩, by decide⟩), (isH.ok (isH.mo (isH.mo h5 (by decide) mo7) (by decide) mo13) (by decide)), trivial, trivial, trivial⟩) (okS.all _ trivial) (fun ad S Q Qc hC hc k => V_callV (as := []) (st := []) (M' := MX10_closeGuard) (ci := 10) (pc2 := 14) (dk D_X6_endFinally 7 rfl) ml_6_300 mv_X10_closeGuard rfl rfl (by decide) rfl (Nat.le_of_ble_eq_true rfl) rfl he15 (hC.k' (isH.mo (isH.mo h5 (by decide) mo7) (by decide) mo13)) hc k) hc16 (kRV.k fun  κ17 h mo18 => ?_)
  refine K_p (pc2 := 15) (lv2 := [(0, vR 79), (1, vR _), (2, vI _), (3, vI _)]) (st2 := [vI _]) (fun ad S Q _ k => V_iload_n (pc2 := 15) (dk D_X6_endFinally 8 rfl) rfl (V_lg 2 rfl) rfl k) ?_
  refine K_p (pc2 := 16) (lv2 := [(0, vR 79), (1, vR _), (2, vI _), (3, vI _)]) (st2 := [vI _, vI _]) (fun ad S Q _ k => V_iconst (x := 3) (pc2 := 16) (dk D_X6_endFinally 9 rfl) (by decide) rfl k) ?_
  refine K_if (pa := 19) (pb := 27) (lv2 := [(0, vR 79), (1, vR _), (2, vI _), (3, vI _)]) (st2 := []) (fun ad S Q _ k1 k2 => V_cmpne (tgt := 27) (pc2 := 19) (dk D_X6_endFinally 10 rfl) (by decide) rfl (fun q => k2 q) (fun q => k1 q)) (fun q19 => ?_) (fun q19 => ?_)
  · have h := h.1 q19
    refine K_p (pc2 := 20) (lv2 := [(0, vR 79), (1, vR _), (2, vI _), (3, vI _)]) (st2 := [vR 79]) (fun ad S Q _ k => V_aload_n (pc2 := 20) (dk D_X6_endFinally 11 rfl) rfl (V_lg 0 rfl) rfl k) ?_
    refine K_p (pc2 := 21) (lv2 := [(0, vR 79), (1, vR _), (2, vI _), (3, vI _)]) (st2 := [vI _, vR 79]) (fun ad S Q _ k => V_iload_n (pc2 := 21) (dk D_X6_endFinally 12 rfl) rfl (V_lg 3 rfl) rfl k) ?_
    refine K_putI kc6 (pc2 := 24) 14 (dk D_X6_endFinally 13 rfl) fl_6_77 (by decide) (Or.inl rfl) rfl rfl (fixH 79 6 (by decide) rfl) (by decide) ?_
    have h := h _ rfl
    refine K_p (pc2 := 38) (lv2 := [(0, vR 79), (1, vR _), (2, vI _), (3, vI _)]) (st2 := []) (fun ad S Q _ k => V_goto (tgt := 38) (dk D_X6_endFinally 14 rfl) (by decide) k) ?_
    exact h
  · have h := h.2 q19
    refine K_p (pc2 := 28) (lv2 := [(0, vR 79), (1, vR _), (2, vI _), (3, vI _)]) (st2 := [vI _]) (fun ad S Q _ k => V_iload_n (pc2 := 28) (dk D_X6_endFinally 15 rfl) rfl (V_lg 2 rfl) rfl k) ?_
    refine K_p (pc2 := 29) (lv2 := [(0, vR 79), (1, vR _), (2, vI _), (3, vI _)]) (st2 := [vI _, vI _]) (fun ad S Q _ k => V_iconst (x := 4) (pc2 := 29) (dk D_X6_endFinally 16 rfl) (by decide) rfl k) ?_
    refine K_if (pa := 32) (pb := 38) (lv2 := [(0, vR 79), (1, vR _), (2, vI _), (3, vI _)]) (st2 := []) (fun ad S Q _ k1 k2 => V_cmpne (tgt := 38) (pc2 := 32) (dk D_X6_endFinally 17 rfl) (by decide) rfl (fun q => k2 q) (fun q => k1 q)) (fun q21 => ?_) (fun q21 => ?_)
    · have h := h.1 q21
      refine K_p (pc2 := 33) (lv2 := [(0, vR 79), (1, vR _), (2, vI _), (3, vI _)]) (st2 := [vR 79]) (fun ad S Q _ k => V_aload_n (pc2 := 33) (dk D_X6_endFinally 18 rfl) rfl (V_lg 0 rfl) rfl k) ?_
      refine K_p (pc2 := 34) (lv2 := [(0, vR 79), (1, vR _), (2, vI _), (3, vI _)]) (st2 := [vR _, vR 79]) (fun ad S Q _ k => V_aload_n (pc2 := 34) (dk D_X6_endFinally 19 rfl) rfl (V_lg 1 rfl) rfl k) ?_
      refine K_p (pc2 := 35) (lv2 := [(0, vR 79), (1, vR _), (2, vI _), (3, vI _)]) (st2 := [vI _, vR _, vR 79]) (fun ad S Q _ k => V_iload_n (pc2 := 35) (dk D_X6_endFinally 20 rfl) rfl (V_lg 3 rfl) rfl k) ?_
      obtain ⟨e22, he23, hc24⟩ := h
      refine K_call (as := [vR 79, vR _, vI _]) (st := []) (pc2 := 38) (okL.all _ ⟨(Or.inr ⟨Or.inl ⟨by decide, by decide⟩, by decide⟩), (isH.ok (isH.mo (isH.mo (isH.mo h5 (by decide) mo7) (by decide) mo13) (by decide) mo18) (by decide)), trivial, trivial, trivial⟩) (okS.all _ trivial) (fun ad S Q Qc hC hc k => V_callV (as := [_, _]) (st := []) (M' := MX6_giveBack) (ci := 6) (pc2 := 38) (dk D_X6_endFinally 21 rfl) ml_6_306 mv_X6_giveBack rfl rfl (by decide) rfl (Nat.le_of_ble_eq_true rfl) rfl he23 (hC.k' (fixH 79 6 (by decide) rfl)) hc k) hc24 (kRV.k fun  κ25 h mo26 => ?_)
      exact h
    · have h := h.2 q21
      exact h
theorem k_6_endFinally_38 {X : Cx} {d : Nat} {κ : Km} {Q : Res → Km → Prop} (r1 : Nat) (x2 : Int32) (x3 : Int32) (h : Q (.inl none) κ) : K X d MX6_endFinally 38 [(0, vR 79), (1, vR r1), (2, vI x2), (3, vI x3)] [] κ Q := by
  exact K_ret (r := .inl none) (fun ad S Q _ k => V_return (dk D_X6_endFinally 22 rfl) rfl k) h
theorem k_6_giveBack_0 {X : Cx} {d : Nat} {κ : Km} {Q : Res → Km → Prop} (r1 : Nat) (x2 : Int32) (h : K X d MX6_giveBack 2 [(0, vR 79), (1, vR r1), (2, vI x2), (3, vI 0)] [] κ Q) : K X d MX6_giveBack 0 [(0, vR 79), (1, vR r1), (2, vI x2)] [] κ Q := by
  refine K_p (pc2 := 1) (lv2 := [(0, vR 79), (1, vR _), (2, vI _)]) (st2 := [vI _]) (fun ad S Q _ k => V_iconst (x := 0) (pc2 := 1) (dk D_X6_giveBack 0 rfl) (by decide) rfl k) ?_
  refine K_p (pc2 := 2) (lv2 := [(0, vR 79), (1, vR _), (2, vI _), (3, vI _)]) (st2 := []) (fun ad S Q _ k => V_istore_n (pc2 := 2) (lv2 := [(0, _), (1, _), (2, _), (3, _)]) (dk D_X6_giveBack 1 rfl) rfl (by decide) rfl rfl k) ?_
  exact h
theorem k_6_giveBack_2 {X : Cx} {d : Nat} {κ : Km} {Q : Res → Km → Prop} (r1 : Nat) (x2 : Int32) (x3 : Int32) (h : ((24 ≤ x3 → K X d MX6_giveBack 84 [(0, vR 79), (1, vR r1), (2, vI x2), (3, vI x3)] [] κ Q) ∧ (¬ 24 ≤ x3 → (isH κ r1 10) ∧ ∃ e2 : Nat, e2 + 1 ≤ d ∧ KC' X e2 MX10_isGuarded [vR r1] κ (kRI fun y5 κ7 => ((y5 = 0 → K X d MX6_giveBack 84 [(0, vR 79), (1, vR r1), (2, vI x2), (3, vI x3)] [] κ7 Q) ∧ (¬ y5 = 0 → ∃ e10 : Nat, e10 + 1 ≤ d ∧ KC' X e10 MX10_isInGuarded [vR r1] κ7 (kRI fun y13 κ14 => ((y13 = 0 → K X d MX6_giveBack 37 [(0, vR 79), (1, vR r1), (2, vI x2), (3, vI x3)] [vI (-9)] κ14 Q) ∧ (¬ y13 = 0 → ∃ e17 : Nat, e17 + 1 ≤ d ∧ KC' X e17 MX10_handlers [vR r1] κ14 (kRI fun y20 κ21 => ∃ e23 : Nat, e23 + 1 ≤ d ∧ KC' X e23 MX6_handlerOf [vR 79, vI y20, vI 14] κ21 (kRI fun y26 κ27 => K X d MX6_giveBack 37 [(0, vR 79), (1, vR r1), (2, vI x2), (3, vI x3)] [vI y26] κ27 Q))))))))))) : K X d MX6_giveBack 2 [(0, vR 79), (1, vR r1), (2, vI x2), (3, vI x3)] [] κ Q := by
  refine K_p (pc2 := 3) (lv2 := [(0, vR 79), (1, vR _), (2, vI _), (3, vI _)]) (st2 := [vI _]) (fun ad S Q _ k => V_iload_n (pc2 := 3) (dk D_X6_giveBack 2 rfl) rfl (V_lg 3 rfl) rfl k) ?_
  refine K_p (pc2 := 5) (lv2 := [(0, vR 79), (1, vR _), (2, vI _), (3, vI _)]) (st2 := [vI _, vI _]) (fun ad S Q _ k => V_bipush (x := 24) (pc2 := 5) (dk D_X6_giveBack 3 rfl) (by decide) rfl k) ?_
  refine K_if (pa := 84) (pb := 8) (lv2 := [(0, vR 79), (1, vR _), (2, vI _), (3, vI _)]) (st2 := []) (fun ad S Q _ k1 k2 => V_cmpge (tgt := 84) (pc2 := 8) (dk D_X6_giveBack 4 rfl) (by decide) rfl (fun q => k1 q) (fun q => k2 q)) (fun q1 => ?_) (fun q1 => ?_)
  · have h := h.1 q1
    exact h
  · have h := h.2 q1
    refine K_p (pc2 := 9) (lv2 := [(0, vR 79), (1, vR _), (2, vI _), (3, vI _)]) (st2 := [vR _]) (fun ad S Q _ k => V_aload_n (pc2 := 9) (dk D_X6_giveBack 5 rfl) rfl (V_lg 1 rfl) rfl k) ?_
    obtain ⟨h6, h⟩ := h
    obtain ⟨e2, he3, hc4⟩ := h
    refine K_call (as := [vR _]) (st := []) (pc2 := 12) (okL.all _ ⟨(Or.inr ⟨Or.inl ⟨by decide, by decide⟩, by decide⟩), (isH.ok h6 (by decide)), trivial, trivial, trivial⟩) (okS.all _ trivial) (fun ad S Q Qc hC hc k => V_callV (as := []) (st := []) (M' := MX10_isGuarded) (ci := 10) (pc2 := 12) (dk D_X6_giveBack 6 rfl) ml_6_318 mv_X10_isGuarded rfl rfl (by decide) rfl (Nat.le_of_ble_eq_true rfl) rfl he3 (hC.k' h6) hc k) hc4 (kRI.k fun y5 κ7 h mo8 => ?_)
    refine K_if (pa := 84) (pb := 15) (lv2 := [(0, vR 79), (1, vR _), (2, vI _), (3, vI _)]) (st2 := []) (fun ad S Q _ k1 k2 => V_ifeq (tgt := 84) (pc2 := 15) (dk D_X6_giveBack 7 rfl) (by decide) rfl (fun q => k1 q) (fun q => k2 q)) (fun q9 => ?_) (fun q9 => ?_)
    · have h := h.1 q9
      exact h
    · have h := h.2 q9
      refine K_p (pc2 := 16) (lv2 := [(0, vR 79), (1, vR _), (2, vI _), (3, vI _)]) (st2 := [vR _]) (fun ad S Q _ k => V_aload_n (pc2 := 16) (dk D_X6_giveBack 8 rfl) rfl (V_lg 1 rfl) rfl k) ?_
      obtain ⟨e10, he11, hc12⟩ := h
      refine K_call (as := [vR _]) (st := []) (pc2 := 19) (okL.all _ ⟨(Or.inr ⟨Or.inl ⟨by decide, by decide⟩, by decide⟩), (isH.ok (isH.mo h6 (by decide) mo8) (by decide)), trivial, trivial, trivial⟩) (okS.all _ trivial) (fun ad S Q Qc hC hc k => V_callV (as := []) (st := []) (M' := MX10_isInGuarded) (ci := 10) (pc2 := 19) (dk D_X6_giveBack 9 rfl) ml_6_321 mv_X10_isInGuarded rfl rfl (by decide) rfl (Nat.le_of_ble_eq_true rfl) rfl he11 (hC.k' (isH.mo h6 (by decide) mo8)) hc k) hc12 (kRI.k fun y13 κ14 h mo15 => ?_)
      refine K_if (pa := 35) (pb := 22) (lv2 := [(0, vR 79), (1, vR _), (2, vI _), (3, vI _)]) (st2 := []) (fun ad S Q _ k1 k2 => V_ifeq (tgt := 35) (pc2 := 22) (dk D_X6_giveBack 10 rfl) (by decide) rfl (fun q => k1 q) (fun q => k2 q)) (fun q16 => ?_) (fun q16 => ?_)
      · have h := h.1 q16
        refine K_p (pc2 := 37) (lv2 := [(0, vR 79), (1, vR _), (2, vI _), (3, vI _)]) (st2 := [vI _]) (fun ad S Q _ k => V_bipush (x := (-9)) (pc2 := 37) (dk D_X6_giveBack 17 rfl) (by decide) rfl k) ?_
        exact h
      · have h := h.2 q16
        refine K_p (pc2 := 23) (lv2 := [(0, vR 79), (1, vR _), (2, vI _), (3, vI _)]) (st2 := [vR 79]) (fun ad S Q _ k => V_aload_n (pc2 := 23) (dk D_X6_giveBack 11 rfl) rfl (V_lg 0 rfl) rfl k) ?_
        refine K_p (pc2 := 24) (lv2 := [(0, vR 79), (1, vR _), (2, vI _), (3, vI _)]) (st2 := [vR _, vR 79]) (fun ad S Q _ k => V_aload_n (pc2 := 24) (dk D_X6_giveBack 12 rfl) rfl (V_lg 1 rfl) rfl k) ?_
        obtain ⟨e17, he18, hc19⟩ := h
        refine K_call (as := [vR _]) (st := [vR 79]) (pc2 := 27) (okL.all _ ⟨(Or.inr ⟨Or.inl ⟨by decide, by decide⟩, by decide⟩), (isH.ok (isH.mo (isH.mo h6 (by decide) mo8) (by decide) mo15) (by decide)), trivial, trivial, trivial⟩) (okS.all _ ⟨(Or.inr ⟨Or.inl ⟨by decide, by decide⟩, by decide⟩), trivial⟩) (fun ad S Q Qc hC hc k => V_callV (as := []) (st := [_]) (M' := MX10_handlers) (ci := 10) (pc2 := 27) (dk D_X6_giveBack 13 rfl) ml_6_324 mv_X10_handlers rfl rfl (by decide) rfl (Nat.le_of_ble_eq_true rfl) rfl he18 (hC.k' (isH.mo (isH.mo h6 (by decide) mo8) (by decide) mo15)) hc k) hc19 (kRI.k fun y20 κ21 h mo22 => ?_)
        refine K_p (pc2 := 29) (lv2 := [(0, vR 79), (1, vR _), (2, vI _), (3, vI _)]) (st2 := [vI _, vI _, vR 79]) (fun ad S Q _ k => V_bipush (x := 14) (pc2 := 29) (dk D_X6_giveBack 14 rfl) (by decide) rfl k) ?_
        obtain ⟨e23, he24, hc25⟩ := h
        refine K_call (as := [vR 79, vI _, vI _]) (st := []) (pc2 := 32) (okL.all _ ⟨(Or.inr ⟨Or.inl ⟨by decide, by decide⟩, by decide⟩), (isH.ok (isH.mo (isH.mo (isH.mo h6 (by decide) mo8) (by decide) mo15) (by decide) mo22) (by decide)), trivial, trivial, trivial⟩) (okS.all _ trivial) (fun ad S Q Qc hC hc k => V_callV (as := [_, _]) (st := []) (M' := MX6_handlerOf) (ci := 6) (pc2 := 32) (dk D_X6_giveBack 15 rfl) ml_6_327 mv_X6_handlerOf rfl rfl (by decide) rfl (Nat.le_of_ble_eq_true rfl) rfl he24 (hC.k' (fixH 79 6 (by decide) rfl)) hc k) hc25 (kRI.k fun y26 κ27 h mo28 => ?_)
        refine K_p (pc2 := 37) (lv2 := [(0, vR 79), (1, vR _), (2, vI _), (3, vI _)]) (st2 := [vI _]) (fun ad S Q _ k => V_goto (tgt := 37) (dk D_X6_giveBack 16 rfl) (by decide) k) ?_
        exact h
theorem k_6_giveBack_37 {X : Cx} {d : Nat} {κ : Km} {Q : Res → Km → Prop} (r1 : Nat) (x2 : Int32) (x3 : Int32) (t0 : Int32) (h : (isH κ r1 10) ∧ ∃ e1 : Nat, e1 + 1 ≤ d ∧ KC' X e1 MX1_act [vR 68, vI t0] κ (kRI fun y4 κ6 => ((y4 = 43 → ∀ κ9 : Km, κ9 = cI κ6 r1 7 ((kI κ6 r1 7) + 1) → ∃ e10 : Nat, e10 + 1 ≤ d ∧ KC' X e10 MX10_turnGuard [vR r1, vI 4, vI x2, vI (t0 + 1)] κ9 (kRV fun  κ13 => Q (.inl none) κ13)) ∧ (¬ y4 = 43 → ∃ e15 : Nat, e15 + 1 ≤ d ∧ KC' X e15 MX10_closeGuard [vR r1] κ6 (kRV fun  κ18 => K X d MX6_giveBack 2 [(0, vR 79), (1, vR r1), (2, vI x2), (3, vI (x3 + 1))] [] κ18 Q))))) : K X d MX6_giveBack 37 [(0, vR 79), (1, vR r1), (2, vI x2), (3, vI x3)] [vI t0] κ Q := by
  refine K_p (pc2 := 39) (lv2 := [(0, vR 79), (1, vR _), (2, vI _), (3, vI _), (4, vI _)]) (st2 := []) (fun ad S Q _ k => V_istore (pc2 := 39) (lv2 := [(0, _), (1, _), (2, _), (3, _), (4, _)]) (dk D_X6_giveBack 18 rfl) (by decide) rfl rfl k) ?_
  refine K_p (pc2 := 40) (lv2 := [(0, vR 79), (1, vR _), (2, vI _), (3, vI _), (4, vI _)]) (st2 := [vR 79]) (fun ad S Q _ k => V_aload_n (pc2 := 40) (dk D_X6_giveBack 19 rfl) rfl (V_lg 0 rfl) rfl k) ?_
  refine K_getF kc6 (h' := 68) (pc2 := 43) 4 (by decide) (dk D_X6_giveBack 20 rfl) fl_6_53 (by decide) (fun _ _ => rfl) rfl (fixH 79 6 (by decide) rfl) (by decide) ?_
  refine K_p (pc2 := 45) (lv2 := [(0, vR 79), (1, vR _), (2, vI _), (3, vI _), (4, vI _)]) (st2 := [vI _, vR 68]) (fun ad S Q _ k => V_iload (pc2 := 45) (dk D_X6_giveBack 21 rfl) (V_lg 4 rfl) rfl k) ?_
  obtain ⟨h5, h⟩ := h
  obtain ⟨e1, he2, hc3⟩ := h
  refine K_call (as := [vR 68, vI _]) (st := []) (pc2 := 48) (okL.all _ ⟨(Or.inr ⟨Or.inl ⟨by decide, by decide⟩, by decide⟩), (isH.ok h5 (by decide)), trivial, trivial, trivial, trivial⟩) (okS.all _ trivial) (fun ad S Q Qc hC hc k => V_callV (as := [_]) (st := []) (M' := MX1_act) (ci := 1) (pc2 := 48) (dk D_X6_giveBack 22 rfl) ml_6_178 mv_X1_act rfl rfl (by decide) rfl (Nat.le_of_ble_eq_true rfl) rfl he2 (hC.k' (fixH 68 1 (by decide) rfl)) hc k) hc3 (kRI.k fun y4 κ6 h mo7 => ?_)
  refine K_p (pc2 := 50) (lv2 := [(0, vR 79), (1, vR _), (2, vI _), (3, vI _), (4, vI _)]) (st2 := [vI _, vI _]) (fun ad S Q _ k => V_bipush (x := 43) (pc2 := 50) (dk D_X6_giveBack 23 rfl) (by decide) rfl k) ?_
  refine K_if (pa := 53) (pb := 74) (lv2 := [(0, vR 79), (1, vR _), (2, vI _), (3, vI _), (4, vI _)]) (st2 := []) (fun ad S Q _ k1 k2 => V_cmpne (tgt := 74) (pc2 := 53) (dk D_X6_giveBack 24 rfl) (by decide) rfl (fun q => k2 q) (fun q => k1 q)) (fun q8 => ?_) (fun q8 => ?_)
  · have h := h.1 q8
    refine K_p (pc2 := 54) (lv2 := [(0, vR 79), (1, vR _), (2, vI _), (3, vI _), (4, vI _)]) (st2 := [vR _]) (fun ad S Q _ k => V_aload_n (pc2 := 54) (dk D_X6_giveBack 25 rfl) rfl (V_lg 1 rfl) rfl k) ?_
    refine K_p (pc2 := 55) (lv2 := [(0, vR 79), (1, vR _), (2, vI _), (3, vI _), (4, vI _)]) (st2 := [vR _, vR _]) (fun ad S Q _ k => V_dup (pc2 := 55) (dk D_X6_giveBack 26 rfl) rfl rfl k) ?_
    refine K_getI kc10 (pc2 := 58) 7 (dk D_X6_giveBack 27 rfl) fl_6_293 (by decide) (fun _ _ => rfl) rfl (isH.mo h5 (by decide) mo7) ?_
    refine K_p (pc2 := 59) (lv2 := [(0, vR 79), (1, vR _), (2, vI _), (3, vI _), (4, vI _)]) (st2 := [vI _, vI _, vR _]) (fun ad S Q _ k => V_iconst (x := 1) (pc2 := 59) (dk D_X6_giveBack 28 rfl) (by decide) rfl k) ?_
    refine K_p (pc2 := 60) (lv2 := [(0, vR 79), (1, vR _), (2, vI _), (3, vI _), (4, vI _)]) (st2 := [vI _, vR _]) (fun ad S Q _ k => V_iadd (pc2 := 60) (dk D_X6_giveBack 29 rfl) rfl k) ?_
    refine K_putI kc10 (pc2 := 63) 7 (dk D_X6_giveBack 30 rfl) fl_6_293 (by decide) (Or.inl rfl) rfl rfl (isH.mo h5 (by decide) mo7) (isH.n69 (isH.mo h5 (by decide) mo7) (by decide)) ?_
    have h := h _ rfl
    refine K_p (pc2 := 64) (lv2 := [(0, vR 79), (1, vR _), (2, vI _), (3, vI _), (4, vI _)]) (st2 := [vR _]) (fun ad S Q _ k => V_aload_n (pc2 := 64) (dk D_X6_giveBack 31 rfl) rfl (V_lg 1 rfl) rfl k) ?_
    refine K_p (pc2 := 65) (lv2 := [(0, vR 79), (1, vR _), (2, vI _), (3, vI _), (4, vI _)]) (st2 := [vI _, vR _]) (fun ad S Q _ k => V_iconst (x := 4) (pc2 := 65) (dk D_X6_giveBack 32 rfl) (by decide) rfl k) ?_
    refine K_p (pc2 := 66) (lv2 := [(0, vR 79), (1, vR _), (2, vI _), (3, vI _), (4, vI _)]) (st2 := [vI _, vI _, vR _]) (fun ad S Q _ k => V_iload_n (pc2 := 66) (dk D_X6_giveBack 33 rfl) rfl (V_lg 2 rfl) rfl k) ?_
    refine K_p (pc2 := 68) (lv2 := [(0, vR 79), (1, vR _), (2, vI _), (3, vI _), (4, vI _)]) (st2 := [vI _, vI _, vI _, vR _]) (fun ad S Q _ k => V_iload (pc2 := 68) (dk D_X6_giveBack 34 rfl) (V_lg 4 rfl) rfl k) ?_
    refine K_p (pc2 := 69) (lv2 := [(0, vR 79), (1, vR _), (2, vI _), (3, vI _), (4, vI _)]) (st2 := [vI _, vI _, vI _, vI _, vR _]) (fun ad S Q _ k => V_iconst (x := 1) (pc2 := 69) (dk D_X6_giveBack 35 rfl) (by decide) rfl k) ?_
    refine K_p (pc2 := 70) (lv2 := [(0, vR 79), (1, vR _), (2, vI _), (3, vI _), (4, vI _)]) (st2 := [vI _, vI _, vI _, vR _]) (fun ad S Q _ k => V_iadd (pc2 := 70) (dk D_X6_giveBack 36 rfl) rfl k) ?_
    obtain ⟨e10, he11, hc12⟩ := h
    refine K_call (as := [vR _, vI _, vI _, vI _]) (st := []) (pc2 := 73) (okL.all _ ⟨(Or.inr ⟨Or.inl ⟨by decide, by decide⟩, by decide⟩), (isH.ok (isH.mo h5 (by decide) mo7) (by decide)), trivial, trivial, trivial, trivial⟩) (okS.all _ trivial) (fun ad S Q Qc hC hc k => V_callV (as := [_, _, _]) (st := []) (M' := MX10_turnGuard) (ci := 10) (pc2 := 73) (dk D_X6_giveBack 37 rfl) ml_6_296 mv_X10_turnGuard rfl rfl (by decide) rfl (Nat.le_of_ble_eq_true rfl) rfl he11 (hC.k' (isH.mo h5 (by decide) mo7)) hc k) hc12 (kRV.k fun  κ13 h mo14 => ?_)
    exact K_ret (r := .inl none) (fun ad S Q _ k => V_return (dk D_X6_giveBack 38 rfl) rfl k) h
  · have h := h.2 q8
    refine K_p (pc2 := 75) (lv2 := [(0, vR 79), (1, vR _), (2, vI _), (3, vI _), (4, vI _)]) (st2 := [vR _]) (fun ad S Q _ k => V_aload_n (pc2 := 75) (dk D_X6_giveBack 39 rfl) rfl (V_lg 1 rfl) rfl k) ?_
    obtain ⟨e15, he16, hc17⟩ := h
    refine K_call (as := [vR _]) (st := []) (pc2 := 78) (okL.all _ ⟨(Or.inr ⟨Or.inl ⟨by decide, by decide⟩, by decide⟩), (isH.ok (isH.mo h5 (by decide) mo7) (by decide)), trivial, trivial, trivial, trivial⟩) (okS.all _ trivial) (fun ad S Q Qc hC hc k => V_callV (as := []) (st := []) (M' := MX10_closeGuard) (ci := 10) (pc2 := 78) (dk D_X6_giveBack 40 rfl) ml_6_300 mv_X10_closeGuard rfl rfl (by decide) rfl (Nat.le_of_ble_eq_true rfl) rfl he16 (hC.k' (isH.mo h5 (by decide) mo7)) hc k) hc17 (kRV.k fun  κ18 h mo19 => ?_)
    refine K_p (pc2 := 81) (lv2 := [(0, vR 79), (1, vR _), (2, vI _), (3, vI _), (4, vI _)]) (st2 := []) (fun ad S Q _ k => V_iinc (y := _ + 1) (pc2 := 81) (lv2 := [(0, _), (1, _), (2, _), (3, _), (4, _)]) (dk D_X6_giveBack 41 rfl) (V_lg 3 rfl) rfl (by decide) rfl rfl k) ?_
    refine K_p (pc2 := 2) (lv2 := [(0, vR 79), (1, vR _), (2, vI _), (3, vI _), (4, vI _)]) (st2 := []) (fun ad S Q _ k => V_goto (tgt := 2) (dk D_X6_giveBack 42 rfl) (by decide) k) ?_
    refine K_p (pc2 := 2) (lv2 := [(0, vR 79), (1, vR _), (2, vI _), (3, vI _)]) (st2 := []) (fun ad S Q _ k => V_pick [0, 1, 2, 3] (lv2 := [(0, _), (1, _), (2, _), (3, _)]) rfl k) ?_
    exact h
theorem k_6_giveBack_84 {X : Cx} {d : Nat} {κ : Km} {Q : Res → Km → Prop} (r1 : Nat) (x2 : Int32) (x3 : Int32) (h : (isH κ r1 10) ∧ ∃ e1 : Nat, e1 + 1 ≤ d ∧ KC' X e1 MX10_leave [vR r1] κ (kRI fun y4 κ6 => ((y4 = 0 → (((kI κ6 r1 11) = 0 → K X d MX6_giveBack 114 [(0, vR 79), (1, vR r1), (2, vI x2), (3, vI x3)] [vI 4, vR r1, vR 79] κ6 Q) ∧ (¬ (kI κ6 r1 11) = 0 → K X d MX6_giveBack 114 [(0, vR 79), (1, vR r1), (2, vI x2), (3, vI x3)] [vI 6, vR r1, vR 79] κ6 Q))) ∧ (¬ y4 = 0 → ∃ e10 : Nat, e10 + 1 ≤ d ∧ KC' X e10 MX10_push [vR r1, vI x2] κ6 (kRV fun  κ13 => K X d MX6_giveBack 124 [(0, vR 79), (1, vR r1), (2, vI x2), (3, vI x3)] [] κ13 Q))))) : K X d MX6_giveBack 84 [(0, vR 79), (1, vR r1), (2, vI x2), (3, vI x3)] [] κ Q := by
  refine K_p (pc2 := 85) (lv2 := [(0, vR 79), (1, vR _), (2, vI _), (3, vI _)]) (st2 := [vR _]) (fun ad S Q _ k => V_aload_n (pc2 := 85) (dk D_X6_giveBack 43 rfl) rfl (V_lg 1 rfl) rfl k) ?_
  obtain ⟨h5, h⟩ := h
  obtain ⟨e1, he2, hc3⟩ := h
  refine K_call (as := [vR _]) (st := []) (pc2 := 88) (okL.all _ ⟨(Or.inr ⟨Or.inl ⟨by decide, by decide⟩, by decide⟩), (isH.ok h5 (by decide)), trivial, trivial, trivial⟩) (okS.all _ trivial) (fun ad S Q Qc hC hc k => V_callV (as := []) (st := []) (M' := MX10_leave) (ci := 10) (pc2 := 88) (dk D_X6_giveBack 44 rfl) ml_6_330 mv_X10_leave rfl rfl (by decide) rfl (Nat.le_of_ble_eq_true rfl) rfl he2 (hC.k' h5) hc k) hc3 (kRI.k fun y4 κ6 h mo7 => ?_)
  refine K_if (pa := 99) (pb := 91) (lv2 := [(0, vR 79), (1, vR _), (2, vI _), (3, vI _)]) (st2 := []) (fun ad S Q _ k1 k2 => V_ifeq (tgt := 99) (pc2 := 91) (dk D_X6_giveBack 45 rfl) (by decide) rfl (fun q => k1 q) (fun q => k2 q)) (fun q8 => ?_) (fun q8 => ?_)
  · have h := h.1 q8
    refine K_p (pc2 := 100) (lv2 := [(0, vR 79), (1, vR _), (2, vI _), (3, vI _)]) (st2 := [vR 79]) (fun ad S Q _ k => V_aload_n (pc2 := 100) (dk D_X6_giveBack 50 rfl) rfl (V_lg 0 rfl) rfl k) ?_
    refine K_p (pc2 := 101) (lv2 := [(0, vR 79), (1, vR _), (2, vI _), (3, vI _)]) (st2 := [vR _, vR 79]) (fun ad S Q _ k => V_aload_n (pc2 := 101) (dk D_X6_giveBack 51 rfl) rfl (V_lg 1 rfl) rfl k) ?_
    refine K_p (pc2 := 102) (lv2 := [(0, vR 79), (1, vR _), (2, vI _), (3, vI _)]) (st2 := [vR _, vR _, vR 79]) (fun ad S Q _ k => V_aload_n (pc2 := 102) (dk D_X6_giveBack 52 rfl) rfl (V_lg 1 rfl) rfl k) ?_
    refine K_getI kc10 (pc2 := 105) 11 (dk D_X6_giveBack 53 rfl) fl_6_134 (by decide) (fun _ _ => rfl) rfl (isH.mo h5 (by decide) mo7) ?_
    refine K_if (pa := 113) (pb := 108) (lv2 := [(0, vR 79), (1, vR _), (2, vI _), (3, vI _)]) (st2 := [vR _, vR 79]) (fun ad S Q _ k1 k2 => V_ifeq (tgt := 113) (pc2 := 108) (dk D_X6_giveBack 54 rfl) (by decide) rfl (fun q => k1 q) (fun q => k2 q)) (fun q9 => ?_) (fun q9 => ?_)
    · have h := h.1 q9
      refine K_p (pc2 := 114) (lv2 := [(0, vR 79), (1, vR _), (2, vI _), (3, vI _)]) (st2 := [vI _, vR _, vR 79]) (fun ad S Q _ k => V_iconst (x := 4) (pc2 := 114) (dk D_X6_giveBack 57 rfl) (by decide) rfl k) ?_
      exact h
    · have h := h.2 q9
      refine K_p (pc2 := 110) (lv2 := [(0, vR 79), (1, vR _), (2, vI _), (3, vI _)]) (st2 := [vI _, vR _, vR 79]) (fun ad S Q _ k => V_bipush (x := 6) (pc2 := 110) (dk D_X6_giveBack 55 rfl) (by decide) rfl k) ?_
      refine K_p (pc2 := 114) (lv2 := [(0, vR 79), (1, vR _), (2, vI _), (3, vI _)]) (st2 := [vI _, vR _, vR 79]) (fun ad S Q _ k => V_goto (tgt := 114) (dk D_X6_giveBack 56 rfl) (by decide) k) ?_
      exact h
  · have h := h.2 q8
    refine K_p (pc2 := 92) (lv2 := [(0, vR 79), (1, vR _), (2, vI _), (3, vI _)]) (st2 := [vR _]) (fun ad S Q _ k => V_aload_n (pc2 := 92) (dk D_X6_giveBack 46 rfl) rfl (V_lg 1 rfl) rfl k) ?_
    refine K_p (pc2 := 93) (lv2 := [(0, vR 79), (1, vR _), (2, vI _), (3, vI _)]) (st2 := [vI _, vR _]) (fun ad S Q _ k => V_iload_n (pc2 := 93) (dk D_X6_giveBack 47 rfl) rfl (V_lg 2 rfl) rfl k) ?_
    obtain ⟨e10, he11, hc12⟩ := h
    refine K_call (as := [vR _, vI _]) (st := []) (pc2 := 96) (okL.all _ ⟨(Or.inr ⟨Or.inl ⟨by decide, by decide⟩, by decide⟩), (isH.ok (isH.mo h5 (by decide) mo7) (by decide)), trivial, trivial, trivial⟩) (okS.all _ trivial) (fun ad S Q Qc hC hc k => V_callV (as := [_]) (st := []) (M' := MX10_push) (ci := 10) (pc2 := 96) (dk D_X6_giveBack 48 rfl) ml_6_223 mv_X10_push rfl rfl (by decide) rfl (Nat.le_of_ble_eq_true rfl) rfl he11 (hC.k' (isH.mo h5 (by decide) mo7)) hc k) hc12 (kRV.k fun  κ13 h mo14 => ?_)
    refine K_p (pc2 := 124) (lv2 := [(0, vR 79), (1, vR _), (2, vI _), (3, vI _)]) (st2 := []) (fun ad S Q _ k => V_goto (tgt := 124) (dk D_X6_giveBack 49 rfl) (by decide) k) ?_
    exact h
theorem k_6_giveBack_114 {X : Cx} {d : Nat} {κ : Km} {Q : Res → Km → Prop} (r1 : Nat) (x2 : Int32) (x3 : Int32) (t1 : Nat) (t2 : Int32) (h : (isH κ r1 10) ∧ ∃ e1 : Nat, e1 + 1 ≤ d ∧ KC' X e1 MX6_end [vR 79, vR t1, vI t2] κ (kRV fun  κ5 => ∃ e7 : Nat, e7 + 1 ≤ d ∧ KC' X e7 MX6_goBack [vR 79, vR r1, vI x2, vI 1] κ5 (kRV fun  κ10 => K X d MX6_giveBack 124 [(0, vR 79), (1, vR r1), (2, vI x2), (3, vI x3)] [] κ10 Q))) : K X d MX6_giveBack 114 [(0, vR 79), (1, vR r1), (2, vI x2), (3, vI x3)] [vI t2, vR t1, vR 79] κ Q := by
  obtain ⟨h4, h⟩ := h
  obtain ⟨e1, he2, hc3⟩ := h
  refine K_call (as := [vR 79, vR _, vI _]) (st := []) (pc2 := 117) (okL.all _ ⟨(Or.inr ⟨Or.inl ⟨by decide, by decide⟩, by decide⟩), (isH.ok h4 (by decide)), trivial, trivial, trivial⟩) (okS.all _ trivial) (fun ad S Q Qc hC hc k => V_callV (as := [_, _]) (st := []) (M' := MX6_end) (ci := 6) (pc2 := 117) (dk D_X6_giveBack 58 rfl) ml_6_113 mv_X6_end rfl rfl (by decide) rfl (Nat.le_of_ble_eq_true rfl) rfl he2 (hC.k' (fixH 79 6 (by decide) rfl)) hc k) hc3 (kRV.k fun  κ5 h mo6 => ?_)
  refine K_p (pc2 := 118) (lv2 := [(0, vR 79), (1, vR _), (2, vI _), (3, vI _)]) (st2 := [vR 79]) (fun ad S Q _ k => V_aload_n (pc2 := 118) (dk D_X6_giveBack 59 rfl) rfl (V_lg 0 rfl) rfl k) ?_
  refine K_p (pc2 := 119) (lv2 := [(0, vR 79), (1, vR _), (2, vI _), (3, vI _)]) (st2 := [vR _, vR 79]) (fun ad S Q _ k => V_aload_n (pc2 := 119) (dk D_X6_giveBack 60 rfl) rfl (V_lg 1 rfl) rfl k) ?_
  refine K_p (pc2 := 120) (lv2 := [(0, vR 79), (1, vR _), (2, vI _), (3, vI _)]) (st2 := [vI _, vR _, vR 79]) (fun ad S Q _ k => V_iload_n (pc2 := 120) (dk D_X6_giveBack 61 rfl) rfl (V_lg 2 rfl) rfl k) ?_
  refine K_p (pc2 := 121) (lv2 := [(0, vR 79), (1, vR _), (2, vI _), (3, vI _)]) (st2 := [vI _, vI _, vR _, vR 79]) (fun ad S Q _ k => V_iconst (x := 1) (pc2 := 121) (dk D_X6_giveBack 62 rfl) (by decide) rfl k) ?_
  obtain ⟨e7, he8, hc9⟩ := h
  refine K_call (as := [vR 79, vR _, vI _, vI _]) (st := []) (pc2 := 124) (okL.all _ ⟨(Or.inr ⟨Or.inl ⟨by decide, by decide⟩, by decide⟩), (isH.ok (isH.mo h4 (by decide) mo6) (by decide)), trivial, trivial, trivial⟩) (okS.all _ trivial) (fun ad S Q Qc hC hc k => V_callV (as := [_, _, _]) (st := []) (M' := MX6_goBack) (ci := 6) (pc2 := 124) (dk D_X6_giveBack 63 rfl) ml_6_267 mv_X6_goBack rfl rfl (by decide) rfl (Nat.le_of_ble_eq_true rfl) rfl he8 (hC.k' (fixH 79 6 (by decide) rfl)) hc k) hc9 (kRV.k fun  κ10 h mo11 => ?_)
  exact h
theorem k_6_giveBack_124 {X : Cx} {d : Nat} {κ : Km} {Q : Res → Km → Prop} (r1 : Nat) (x2 : Int32) (x3 : Int32) (h : Q (.inl none) κ) : K X d MX6_giveBack 124 [(0, vR 79), (1, vR r1), (2, vI x2), (3, vI x3)] [] κ Q := by
  exact K_ret (r := .inl none) (fun ad S Q _ k => V_return (dk D_X6_giveBack 64 rfl) rfl k) h
theorem k_6_handlerOf_0 {X : Cx} {d : Nat} {κ : Km} {Q : Res → Km → Prop} (x1 : Int32) (x2 : Int32) (h : K X d MX6_handlerOf 5 [(0, vR 79), (1, vI x1), (2, vI x2), (3, vI x1), (4, vI 0)] [] κ Q) : K X d MX6_handlerOf 0 [(0, vR 79), (1, vI x1), (2, vI x2)] [] κ Q := by
  refine K_p (pc2 := 1) (lv2 := [(0, vR 79), (1, vI _), (2, vI _)]) (st2 := [vI _]) (fun ad S Q _ k => V_iload_n (pc2 := 1) (dk D_X6_handlerOf 0 rfl) rfl (V_lg 1 rfl) rfl k) ?_
  refine K_p (pc2 := 2) (lv2 := [(0, vR 79), (1, vI _), (2, vI _), (3, vI _)]) (st2 := []) (fun ad S Q _ k => V_istore_n (pc2 := 2) (lv2 := [(0, _), (1, _), (2, _), (3, _)]) (dk D_X6_handlerOf 1 rfl) rfl (by decide) rfl rfl k) ?_
  refine K_p (pc2 := 3) (lv2 := [(0, vR 79), (1, vI _), (2, vI _), (3, vI _)]) (st2 := [vI _]) (fun ad S Q _ k => V_iconst (x := 0) (pc2 := 3) (dk D_X6_handlerOf 2 rfl) (by decide) rfl k) ?_
  refine K_p (pc2 := 5) (lv2 := [(0, vR 79), (1, vI _), (2, vI _), (3, vI _), (4, vI _)]) (st2 := []) (fun ad S Q _ k => V_istore (pc2 := 5) (lv2 := [(0, _), (1, _), (2, _), (3, _), (4, _)]) (dk D_X6_handlerOf 3 rfl) (by decide) rfl rfl k) ?_
  exact h
theorem k_6_handlerOf_5 {X : Cx} {d : Nat} {κ : Km} {Q : Res → Km → Prop} (x1 : Int32) (x2 : Int32) (x3 : Int32) (x4 : Int32) (h : ((3000 ≤ x4 → K X d MX6_handlerOf 73 [(0, vR 79), (1, vI x1), (2, vI x2), (3, vI x3), (4, vI x4)] [] κ Q) ∧ (¬ 3000 ≤ x4 → ∃ e2 : Nat, e2 + 1 ≤ d ∧ KC' X e2 MX1_act [vR 68, vI x3] κ (kRI fun y5 κ6 => ((y5 = 41 → ∃ e9 : Nat, e9 + 1 ≤ d ∧ KC' X e9 MX1_argument [vR 68, vI x3] κ6 (kRI fun y12 κ13 => ((x2 = 14 → K X d MX6_handlerOf 56 [(0, vR 79), (1, vI x1), (2, vI x2), (3, vI x3), (4, vI x4), (5, vI y12)] [] κ13 Q) ∧ (¬ x2 = 14 → ((y12 = x2 → K X d MX6_handlerOf 54 [(0, vR 79), (1, vI x1), (2, vI x2), (3, vI x3), (4, vI x4), (5, vI y12)] [] κ13 Q) ∧ (¬ y12 = x2 → ((y12 = (-1) → K X d MX6_handlerOf 54 [(0, vR 79), (1, vI x1), (2, vI x2), (3, vI x3), (4, vI x4), (5, vI y12)] [] κ13 Q) ∧ (¬ y12 = (-1) → K X d MX6_handlerOf 56 [(0, vR 79), (1, vI x1), (2, vI x2), (3, vI x3), (4, vI x4), (5, vI y12)] [] κ13 Q)))))))) ∧ (¬ y5 = 41 → K X d MX6_handlerOf 73 [(0, vR 79), (1, vI x1), (2, vI x2), (3, vI x3), (4, vI x4)] [] κ6 Q)))))) : K X d MX6_handlerOf 5 [(0, vR 79), (1, vI x1), (2, vI x2), (3, vI x3), (4, vI x4)] [] κ Q := by
  refine K_p (pc2 := 7) (lv2 := [(0, vR 79), (1, vI _), (2, vI _), (3, vI _), (4, vI _)]) (st2 := [vI _]) (fun ad S Q _ k => V_iload (pc2 := 7) (dk D_X6_handlerOf 4 rfl) (V_lg 4 rfl) rfl k) ?_
  refine K_p (pc2 := 10) (lv2 := [(0, vR 79), (1, vI _), (2, vI _), (3, vI _), (4, vI _)]) (st2 := [vI _, vI _]) (fun ad S Q _ k => V_sipush (x := 3000) (pc2 := 10) (dk D_X6_handlerOf 5 rfl) (by decide) rfl k) ?_
  refine K_if (pa := 73) (pb := 13) (lv2 := [(0, vR 79), (1, vI _), (2, vI _), (3, vI _), (4, vI _)]) (st2 := []) (fun ad S Q _ k1 k2 => V_cmpge (tgt := 73) (pc2 := 13) (dk D_X6_handlerOf 6 rfl) (by decide) rfl (fun q => k1 q) (fun q => k2 q)) (fun q1 => ?_) (fun q1 => ?_)
  · have h := h.1 q1
    exact h
  · have h := h.2 q1
    refine K_p (pc2 := 14) (lv2 := [(0, vR 79), (1, vI _), (2, vI _), (3, vI _), (4, vI _)]) (st2 := [vR 79]) (fun ad S Q _ k => V_aload_n (pc2 := 14) (dk D_X6_handlerOf 7 rfl) rfl (V_lg 0 rfl) rfl k) ?_
    refine K_getF kc6 (h' := 68) (pc2 := 17) 4 (by decide) (dk D_X6_handlerOf 8 rfl) fl_6_53 (by decide) (fun _ _ => rfl) rfl (fixH 79 6 (by decide) rfl) (by decide) ?_
    refine K_p (pc2 := 18) (lv2 := [(0, vR 79), (1, vI _), (2, vI _), (3, vI _), (4, vI _)]) (st2 := [vI _, vR 68]) (fun ad S Q _ k => V_iload_n (pc2 := 18) (dk D_X6_handlerOf 9 rfl) rfl (V_lg 3 rfl) rfl k) ?_
    obtain ⟨e2, he3, hc4⟩ := h
    refine K_call (as := [vR 68, vI _]) (st := []) (pc2 := 21) (okL.all _ ⟨(Or.inr ⟨Or.inl ⟨by decide, by decide⟩, by decide⟩), trivial, trivial, trivial, trivial, trivial⟩) (okS.all _ trivial) (fun ad S Q Qc hC hc k => V_callV (as := [_]) (st := []) (M' := MX1_act) (ci := 1) (pc2 := 21) (dk D_X6_handlerOf 10 rfl) ml_6_178 mv_X1_act rfl rfl (by decide) rfl (Nat.le_of_ble_eq_true rfl) rfl he3 (hC.k' (fixH 68 1 (by decide) rfl)) hc k) hc4 (kRI.k fun y5 κ6 h mo7 => ?_)
    refine K_p (pc2 := 23) (lv2 := [(0, vR 79), (1, vI _), (2, vI _), (3, vI _), (4, vI _)]) (st2 := [vI _, vI _]) (fun ad S Q _ k => V_bipush (x := 41) (pc2 := 23) (dk D_X6_handlerOf 11 rfl) (by decide) rfl k) ?_
    refine K_if (pa := 26) (pb := 73) (lv2 := [(0, vR 79), (1, vI _), (2, vI _), (3, vI _), (4, vI _)]) (st2 := []) (fun ad S Q _ k1 k2 => V_cmpne (tgt := 73) (pc2 := 26) (dk D_X6_handlerOf 12 rfl) (by decide) rfl (fun q => k2 q) (fun q => k1 q)) (fun q8 => ?_) (fun q8 => ?_)
    · have h := h.1 q8
      refine K_p (pc2 := 27) (lv2 := [(0, vR 79), (1, vI _), (2, vI _), (3, vI _), (4, vI _)]) (st2 := [vR 79]) (fun ad S Q _ k => V_aload_n (pc2 := 27) (dk D_X6_handlerOf 13 rfl) rfl (V_lg 0 rfl) rfl k) ?_
      refine K_getF kc6 (h' := 68) (pc2 := 30) 4 (by decide) (dk D_X6_handlerOf 14 rfl) fl_6_53 (by decide) (fun _ _ => rfl) rfl (fixH 79 6 (by decide) rfl) (by decide) ?_
      refine K_p (pc2 := 31) (lv2 := [(0, vR 79), (1, vI _), (2, vI _), (3, vI _), (4, vI _)]) (st2 := [vI _, vR 68]) (fun ad S Q _ k => V_iload_n (pc2 := 31) (dk D_X6_handlerOf 15 rfl) rfl (V_lg 3 rfl) rfl k) ?_
      obtain ⟨e9, he10, hc11⟩ := h
      refine K_call (as := [vR 68, vI _]) (st := []) (pc2 := 34) (okL.all _ ⟨(Or.inr ⟨Or.inl ⟨by decide, by decide⟩, by decide⟩), trivial, trivial, trivial, trivial, trivial⟩) (okS.all _ trivial) (fun ad S Q Qc hC hc k => V_callV (as := [_]) (st := []) (M' := MX1_argument) (ci := 1) (pc2 := 34) (dk D_X6_handlerOf 16 rfl) ml_6_183 mv_X1_argument rfl rfl (by decide) rfl (Nat.le_of_ble_eq_true rfl) rfl he10 (hC.k' (fixH 68 1 (by decide) rfl)) hc k) hc11 (kRI.k fun y12 κ13 h mo14 => ?_)
      refine K_p (pc2 := 36) (lv2 := [(0, vR 79), (1, vI _), (2, vI _), (3, vI _), (4, vI _), (5, vI _)]) (st2 := []) (fun ad S Q _ k => V_istore (pc2 := 36) (lv2 := [(0, _), (1, _), (2, _), (3, _), (4, _), (5, _)]) (dk D_X6_handlerOf 17 rfl) (by decide) rfl rfl k) ?_
      refine K_p (pc2 := 37) (lv2 := [(0, vR 79), (1, vI _), (2, vI _), (3, vI _), (4, vI _), (5, vI _)]) (st2 := [vI _]) (fun ad S Q _ k => V_iload_n (pc2 := 37) (dk D_X6_handlerOf 18 rfl) rfl (V_lg 2 rfl) rfl k) ?_
      refine K_p (pc2 := 39) (lv2 := [(0, vR 79), (1, vI _), (2, vI _), (3, vI _), (4, vI _), (5, vI _)]) (st2 := [vI _, vI _]) (fun ad S Q _ k => V_bipush (x := 14) (pc2 := 39) (dk D_X6_handlerOf 19 rfl) (by decide) rfl k) ?_
      refine K_if (pa := 56) (pb := 42) (lv2 := [(0, vR 79), (1, vI _), (2, vI _), (3, vI _), (4, vI _), (5, vI _)]) (st2 := []) (fun ad S Q _ k1 k2 => V_cmpeq (tgt := 56) (pc2 := 42) (dk D_X6_handlerOf 20 rfl) (by decide) rfl (fun q => k1 q) (fun q => k2 q)) (fun q15 => ?_) (fun q15 => ?_)
      · have h := h.1 q15
        exact h
      · have h := h.2 q15
        refine K_p (pc2 := 44) (lv2 := [(0, vR 79), (1, vI _), (2, vI _), (3, vI _), (4, vI _), (5, vI _)]) (st2 := [vI _]) (fun ad S Q _ k => V_iload (pc2 := 44) (dk D_X6_handlerOf 21 rfl) (V_lg 5 rfl) rfl k) ?_
        refine K_p (pc2 := 45) (lv2 := [(0, vR 79), (1, vI _), (2, vI _), (3, vI _), (4, vI _), (5, vI _)]) (st2 := [vI _, vI _]) (fun ad S Q _ k => V_iload_n (pc2 := 45) (dk D_X6_handlerOf 22 rfl) rfl (V_lg 2 rfl) rfl k) ?_
        refine K_if (pa := 54) (pb := 48) (lv2 := [(0, vR 79), (1, vI _), (2, vI _), (3, vI _), (4, vI _), (5, vI _)]) (st2 := []) (fun ad S Q _ k1 k2 => V_cmpeq (tgt := 54) (pc2 := 48) (dk D_X6_handlerOf 23 rfl) (by decide) rfl (fun q => k1 q) (fun q => k2 q)) (fun q16 => ?_) (fun q16 => ?_)
        · have h := h.1 q16
          exact h
        · have h := h.2 q16
          refine K_p (pc2 := 50) (lv2 := [(0, vR 79), (1, vI _), (2, vI _), (3, vI _), (4, vI _), (5, vI _)]) (st2 := [vI _]) (fun ad S Q _ k => V_iload (pc2 := 50) (dk D_X6_handlerOf 24 rfl) (V_lg 5 rfl) rfl k) ?_
          refine K_p (pc2 := 51) (lv2 := [(0, vR 79), (1, vI _), (2, vI _), (3, vI _), (4, vI _), (5, vI _)]) (st2 := [vI _, vI _]) (fun ad S Q _ k => V_iconst (x := (-1)) (pc2 := 51) (dk D_X6_handlerOf 25 rfl) (by decide) rfl k) ?_
          refine K_if (pa := 54) (pb := 56) (lv2 := [(0, vR 79), (1, vI _), (2, vI _), (3, vI _), (4, vI _), (5, vI _)]) (st2 := []) (fun ad S Q _ k1 k2 => V_cmpne (tgt := 56) (pc2 := 54) (dk D_X6_handlerOf 26 rfl) (by decide) rfl (fun q => k2 q) (fun q => k1 q)) (fun q17 => ?_) (fun q17 => ?_)
          · have h := h.1 q17
            exact h
          · have h := h.2 q17
            exact h
    · have h := h.2 q8
      exact h
theorem k_6_handlerOf_54 {X : Cx} {d : Nat} {κ : Km} {Q : Res → Km → Prop} (x1 : Int32) (x2 : Int32) (x3 : Int32) (x4 : Int32) (x5 : Int32) (h : Q (.inl (some (vI x3))) κ) : K X d MX6_handlerOf 54 [(0, vR 79), (1, vI x1), (2, vI x2), (3, vI x3), (4, vI x4), (5, vI x5)] [] κ Q := by
  refine K_p (pc2 := 55) (lv2 := [(0, vR 79), (1, vI _), (2, vI _), (3, vI _), (4, vI _), (5, vI _)]) (st2 := [vI _]) (fun ad S Q _ k => V_iload_n (pc2 := 55) (dk D_X6_handlerOf 27 rfl) rfl (V_lg 3 rfl) rfl k) ?_
  exact K_ret (r := .inl (some (vI _))) (fun ad S Q _ k => V_ireturn (dk D_X6_handlerOf 28 rfl) rfl k) h
theorem k_6_handlerOf_56 {X : Cx} {d : Nat} {κ : Km} {Q : Res → Km → Prop} (x1 : Int32) (x2 : Int32) (x3 : Int32) (x4 : Int32) (x5 : Int32) (h : ∃ e1 : Nat, e1 + 1 ≤ d ∧ KC' X e1 MX1_argument [vR 68, vI (x3 + 1)] κ (kRI fun y4 κ5 => K X d MX6_handlerOf 5 [(0, vR 79), (1, vI x1), (2, vI x2), (3, vI y4), (4, vI (x4 + 1))] [] κ5 Q)) : K X d MX6_handlerOf 56 [(0, vR 79), (1, vI x1), (2, vI x2), (3, vI x3), (4, vI x4), (5, vI x5)] [] κ Q := by
  refine K_p (pc2 := 57) (lv2 := [(0, vR 79), (1, vI _), (2, vI _), (3, vI _), (4, vI _), (5, vI _)]) (st2 := [vR 79]) (fun ad S Q _ k => V_aload_n (pc2 := 57) (dk D_X6_handlerOf 29 rfl) rfl (V_lg 0 rfl) rfl k) ?_
  refine K_getF kc6 (h' := 68) (pc2 := 60) 4 (by decide) (dk D_X6_handlerOf 30 rfl) fl_6_53 (by decide) (fun _ _ => rfl) rfl (fixH 79 6 (by decide) rfl) (by decide) ?_
  refine K_p (pc2 := 61) (lv2 := [(0, vR 79), (1, vI _), (2, vI _), (3, vI _), (4, vI _), (5, vI _)]) (st2 := [vI _, vR 68]) (fun ad S Q _ k => V_iload_n (pc2 := 61) (dk D_X6_handlerOf 31 rfl) rfl (V_lg 3 rfl) rfl k) ?_
  refine K_p (pc2 := 62) (lv2 := [(0, vR 79), (1, vI _), (2, vI _), (3, vI _), (4, vI _), (5, vI _)]) (st2 := [vI _, vI _, vR 68]) (fun ad S Q _ k => V_iconst (x := 1) (pc2 := 62) (dk D_X6_handlerOf 32 rfl) (by decide) rfl k) ?_
  refine K_p (pc2 := 63) (lv2 := [(0, vR 79), (1, vI _), (2, vI _), (3, vI _), (4, vI _), (5, vI _)]) (st2 := [vI _, vR 68]) (fun ad S Q _ k => V_iadd (pc2 := 63) (dk D_X6_handlerOf 33 rfl) rfl k) ?_
  obtain ⟨e1, he2, hc3⟩ := h
  refine K_call (as := [vR 68, vI _]) (st := []) (pc2 := 66) (okL.all _ ⟨(Or.inr ⟨Or.inl ⟨by decide, by decide⟩, by decide⟩), trivial, trivial, trivial, trivial, trivial, trivial⟩) (okS.all _ trivial) (fun ad S Q Qc hC hc k => V_callV (as := [_]) (st := []) (M' := MX1_argument) (ci := 1) (pc2 := 66) (dk D_X6_handlerOf 34 rfl) ml_6_183 mv_X1_argument rfl rfl (by decide) rfl (Nat.le_of_ble_eq_true rfl) rfl he2 (hC.k' (fixH 68 1 (by decide) rfl)) hc k) hc3 (kRI.k fun y4 κ5 h mo6 => ?_)
  refine K_p (pc2 := 67) (lv2 := [(0, vR 79), (1, vI _), (2, vI _), (3, vI _), (4, vI _), (5, vI _)]) (st2 := []) (fun ad S Q _ k => V_istore_n (pc2 := 67) (lv2 := [(0, _), (1, _), (2, _), (3, _), (4, _), (5, _)]) (dk D_X6_handlerOf 35 rfl) rfl (by decide) rfl rfl k) ?_
  refine K_p (pc2 := 70) (lv2 := [(0, vR 79), (1, vI _), (2, vI _), (3, vI _), (4, vI _), (5, vI _)]) (st2 := []) (fun ad S Q _ k => V_iinc (y := _ + 1) (pc2 := 70) (lv2 := [(0, _), (1, _), (2, _), (3, _), (4, _), (5, _)]) (dk D_X6_handlerOf 36 rfl) (V_lg 4 rfl) rfl (by decide) rfl rfl k) ?_
  refine K_p (pc2 := 5) (lv2 := [(0, vR 79), (1, vI _), (2, vI _), (3, vI _), (4, vI _), (5, vI _)]) (st2 := []) (fun ad S Q _ k => V_goto (tgt := 5) (dk D_X6_handlerOf 37 rfl) (by decide) k) ?_
  refine K_p (pc2 := 5) (lv2 := [(0, vR 79), (1, vI _), (2, vI _), (3, vI _), (4, vI _)]) (st2 := []) (fun ad S Q _ k => V_pick [0, 1, 2, 3, 4] (lv2 := [(0, _), (1, _), (2, _), (3, _), (4, _)]) rfl k) ?_
  exact h
theorem k_6_handlerOf_73 {X : Cx} {d : Nat} {κ : Km} {Q : Res → Km → Prop} (x1 : Int32) (x2 : Int32) (x3 : Int32) (x4 : Int32) (h : Q (.inl (some (vI x3))) κ) : K X d MX6_handlerOf 73 [(0, vR 79), (1, vI x1), (2, vI x2), (3, vI x3), (4, vI x4)] [] κ Q := by
  refine K_p (pc2 := 74) (lv2 := [(0, vR 79), (1, vI _), (2, vI _), (3, vI _), (4, vI _)]) (st2 := [vI _]) (fun ad S Q _ k => V_iload_n (pc2 := 74) (dk D_X6_handlerOf 38 rfl) rfl (V_lg 3 rfl) rfl k) ?_
  exact K_ret (r := .inl (some (vI _))) (fun ad S Q _ k => V_ireturn (dk D_X6_handlerOf 39 rfl) rfl k) h
theorem k_6_unwind_0 {X : Cx} {d : Nat} {κ : Km} {Q : Res → Km → Prop} (r1 : Nat) (h : (isH κ r1 10) ∧ ∃ e1 : Nat, e1 + 1 ≤ d ∧ KC' X e1 MX10_isGuarded [vR r1] κ (kRI fun y4 κ6 => ((y4 = 0 → ∃ e9 : Nat, e9 + 1 ≤ d ∧ KC' X e9 MX10_leave [vR r1] κ6 (kRI fun y12 κ13 => ((y12 = 0 → ∃ e16 : Nat, e16 + 1 ≤ d ∧ KC' X e16 MX6_leaveVoice [vR 79, vR r1] κ13 (kRV fun  κ19 => K X d MX6_unwind 19 [(0, vR 79), (1, vR r1)] [] κ19 Q)) ∧ (¬ y12 = 0 → K X d MX6_unwind 19 [(0, vR 79), (1, vR r1)] [] κ13 Q)))) ∧ (¬ y4 = 0 → ∃ e21 : Nat, e21 + 1 ≤ d ∧ KC' X e21 MX10_isInGuarded [vR r1] κ6 (kRI fun y24 κ25 => ((y24 = 0 → ∃ e28 : Nat, e28 + 1 ≤ d ∧ KC' X e28 MX10_phase [vR r1] κ25 (kRI fun y31 κ32 => ((y31 = 3 → ∃ e35 : Nat, e35 + 1 ≤ d ∧ KC' X e35 MX10_keptByGuard [vR r1] κ32 (kRI fun y38 κ39 => ∃ e41 : Nat, e41 + 1 ≤ d ∧ KC' X e41 MX2_putBeneath [vR 84, vI (kI κ32 79 14), vI y38] κ39 (kRV fun  κ44 => K X d MX6_unwind 50 [(0, vR 79), (1, vR r1)] [] κ44 Q))) ∧ (¬ y31 = 3 → K X d MX6_unwind 50 [(0, vR 79), (1, vR r1)] [] κ32 Q)))) ∧ (¬ y24 = 0 → ∃ e46 : Nat, e46 + 1 ≤ d ∧ KC' X e46 MX10_handlers [vR r1] κ25 (kRI fun y49 κ50 => ∃ e52 : Nat, e52 + 1 ≤ d ∧ KC' X e52 MX10_phase [vR r1] κ50 (kRI fun y55 κ56 => ((y55 = 0 → ∃ e59 : Nat, e59 + 1 ≤ d ∧ KC' X e59 MX2_number [vR 84, vI (kI κ25 79 14)] κ56 (kRI fun y62 κ63 => K X d MX6_unwind 85 [(0, vR 79), (1, vR r1), (2, vI (kI κ25 79 14))] [vI y62, vI y49, vR 79] κ63 Q)) ∧ (¬ y55 = 0 → K X d MX6_unwind 85 [(0, vR 79), (1, vR r1), (2, vI (kI κ25 79 14))] [vI 14, vI y49, vR 79] κ56 Q))))))))))) : K X d MX6_unwind 0 [(0, vR 79), (1, vR r1)] [] κ Q := by
  refine K_p (pc2 := 1) (lv2 := [(0, vR 79), (1, vR _)]) (st2 := [vR _]) (fun ad S Q _ k => V_aload_n (pc2 := 1) (dk D_X6_unwind 0 rfl) rfl (V_lg 1 rfl) rfl k) ?_
  obtain ⟨h5, h⟩ := h
  obtain ⟨e1, he2, hc3⟩ := h
  refine K_call (as := [vR _]) (st := []) (pc2 := 4) (okL.all _ ⟨(Or.inr ⟨Or.inl ⟨by decide, by decide⟩, by decide⟩), (isH.ok h5 (by decide)), trivial⟩) (okS.all _ trivial) (fun ad S Q Qc hC hc k => V_callV (as := []) (st := []) (M' := MX10_isGuarded) (ci := 10) (pc2 := 4) (dk D_X6_unwind 1 rfl) ml_6_318 mv_X10_isGuarded rfl rfl (by decide) rfl (Nat.le_of_ble_eq_true rfl) rfl he2 (hC.k' h5) hc k) hc3 (kRI.k fun y4 κ6 h mo7 => ?_)
  refine K_if (pa := 7) (pb := 20) (lv2 := [(0, vR 79), (1, vR _)]) (st2 := []) (fun ad S Q _ k1 k2 => V_ifne (tgt := 20) (pc2 := 7) (dk D_X6_unwind 2 rfl) (by decide) rfl (fun q => k2 q) (fun q => k1 q)) (fun q8 => ?_) (fun q8 => ?_)
  · have h := h.1 q8
    refine K_p (pc2 := 8) (lv2 := [(0, vR 79), (1, vR _)]) (st2 := [vR _]) (fun ad S Q _ k => V_aload_n (pc2 := 8) (dk D_X6_unwind 3 rfl) rfl (V_lg 1 rfl) rfl k) ?_
    obtain ⟨e9, he10, hc11⟩ := h
    refine K_call (as := [vR _]) (st := []) (pc2 := 11) (okL.all _ ⟨(Or.inr ⟨Or.inl ⟨by decide, by decide⟩, by decide⟩), (isH.ok (isH.mo h5 (by decide) mo7) (by decide)), trivial⟩) (okS.all _ trivial) (fun ad S Q Qc hC hc k => V_callV (as := []) (st := []) (M' := MX10_leave) (ci := 10) (pc2 := 11) (dk D_X6_unwind 4 rfl) ml_6_330 mv_X10_leave rfl rfl (by decide) rfl (Nat.le_of_ble_eq_true rfl) rfl he10 (hC.k' (isH.mo h5 (by decide) mo7)) hc k) hc11 (kRI.k fun y12 κ13 h mo14 => ?_)
    refine K_if (pa := 14) (pb := 19) (lv2 := [(0, vR 79), (1, vR _)]) (st2 := []) (fun ad S Q _ k1 k2 => V_ifne (tgt := 19) (pc2 := 14) (dk D_X6_unwind 5 rfl) (by decide) rfl (fun q => k2 q) (fun q => k1 q)) (fun q15 => ?_) (fun q15 => ?_)
    · have h := h.1 q15
      refine K_p (pc2 := 15) (lv2 := [(0, vR 79), (1, vR _)]) (st2 := [vR 79]) (fun ad S Q _ k => V_aload_n (pc2 := 15) (dk D_X6_unwind 6 rfl) rfl (V_lg 0 rfl) rfl k) ?_
      refine K_p (pc2 := 16) (lv2 := [(0, vR 79), (1, vR _)]) (st2 := [vR _, vR 79]) (fun ad S Q _ k => V_aload_n (pc2 := 16) (dk D_X6_unwind 7 rfl) rfl (V_lg 1 rfl) rfl k) ?_
      obtain ⟨e16, he17, hc18⟩ := h
      refine K_call (as := [vR 79, vR _]) (st := []) (pc2 := 19) (okL.all _ ⟨(Or.inr ⟨Or.inl ⟨by decide, by decide⟩, by decide⟩), (isH.ok (isH.mo (isH.mo h5 (by decide) mo7) (by decide) mo14) (by decide)), trivial⟩) (okS.all _ trivial) (fun ad S Q Qc hC hc k => V_callV (as := [_]) (st := []) (M' := MX6_leaveVoice) (ci := 6) (pc2 := 19) (dk D_X6_unwind 8 rfl) ml_6_333 mv_X6_leaveVoice rfl rfl (by decide) rfl (Nat.le_of_ble_eq_true rfl) rfl he17 (hC.k' (fixH 79 6 (by decide) rfl)) hc k) hc18 (kRV.k fun  κ19 h mo20 => ?_)
      exact h
    · have h := h.2 q15
      exact h
  · have h := h.2 q8
    refine K_p (pc2 := 21) (lv2 := [(0, vR 79), (1, vR _)]) (st2 := [vR _]) (fun ad S Q _ k => V_aload_n (pc2 := 21) (dk D_X6_unwind 10 rfl) rfl (V_lg 1 rfl) rfl k) ?_
    obtain ⟨e21, he22, hc23⟩ := h
    refine K_call (as := [vR _]) (st := []) (pc2 := 24) (okL.all _ ⟨(Or.inr ⟨Or.inl ⟨by decide, by decide⟩, by decide⟩), (isH.ok (isH.mo h5 (by decide) mo7) (by decide)), trivial⟩) (okS.all _ trivial) (fun ad S Q Qc hC hc k => V_callV (as := []) (st := []) (M' := MX10_isInGuarded) (ci := 10) (pc2 := 24) (dk D_X6_unwind 11 rfl) ml_6_321 mv_X10_isInGuarded rfl rfl (by decide) rfl (Nat.le_of_ble_eq_true rfl) rfl he22 (hC.k' (isH.mo h5 (by decide) mo7)) hc k) hc23 (kRI.k fun y24 κ25 h mo26 => ?_)
    refine K_if (pa := 27) (pb := 55) (lv2 := [(0, vR 79), (1, vR _)]) (st2 := []) (fun ad S Q _ k1 k2 => V_ifne (tgt := 55) (pc2 := 27) (dk D_X6_unwind 12 rfl) (by decide) rfl (fun q => k2 q) (fun q => k1 q)) (fun q27 => ?_) (fun q27 => ?_)
    · have h := h.1 q27
      refine K_p (pc2 := 28) (lv2 := [(0, vR 79), (1, vR _)]) (st2 := [vR _]) (fun ad S Q _ k => V_aload_n (pc2 := 28) (dk D_X6_unwind 13 rfl) rfl (V_lg 1 rfl) rfl k) ?_
      obtain ⟨e28, he29, hc30⟩ := h
      refine K_call (as := [vR _]) (st := []) (pc2 := 31) (okL.all _ ⟨(Or.inr ⟨Or.inl ⟨by decide, by decide⟩, by decide⟩), (isH.ok (isH.mo (isH.mo h5 (by decide) mo7) (by decide) mo26) (by decide)), trivial⟩) (okS.all _ trivial) (fun ad S Q Qc hC hc k => V_callV (as := []) (st := []) (M' := MX10_phase) (ci := 10) (pc2 := 31) (dk D_X6_unwind 14 rfl) ml_6_312 mv_X10_phase rfl rfl (by decide) rfl (Nat.le_of_ble_eq_true rfl) rfl he29 (hC.k' (isH.mo (isH.mo h5 (by decide) mo7) (by decide) mo26)) hc k) hc30 (kRI.k fun y31 κ32 h mo33 => ?_)
      refine K_p (pc2 := 32) (lv2 := [(0, vR 79), (1, vR _)]) (st2 := [vI _, vI _]) (fun ad S Q _ k => V_iconst (x := 3) (pc2 := 32) (dk D_X6_unwind 15 rfl) (by decide) rfl k) ?_
      refine K_if (pa := 35) (pb := 50) (lv2 := [(0, vR 79), (1, vR _)]) (st2 := []) (fun ad S Q _ k1 k2 => V_cmpne (tgt := 50) (pc2 := 35) (dk D_X6_unwind 16 rfl) (by decide) rfl (fun q => k2 q) (fun q => k1 q)) (fun q34 => ?_) (fun q34 => ?_)
      · have h := h.1 q34
        refine K_p (pc2 := 36) (lv2 := [(0, vR 79), (1, vR _)]) (st2 := [vR 79]) (fun ad S Q _ k => V_aload_n (pc2 := 36) (dk D_X6_unwind 17 rfl) rfl (V_lg 0 rfl) rfl k) ?_
        refine K_getF kc6 (h' := 84) (pc2 := 39) 2 (by decide) (dk D_X6_unwind 18 rfl) fl_6_24 (by decide) (fun _ _ => rfl) rfl (fixH 79 6 (by decide) rfl) (by decide) ?_
        refine K_p (pc2 := 40) (lv2 := [(0, vR 79), (1, vR _)]) (st2 := [vR 79, vR 84]) (fun ad S Q _ k => V_aload_n (pc2 := 40) (dk D_X6_unwind 19 rfl) rfl (V_lg 0 rfl) rfl k) ?_
        refine K_getI kc6 (pc2 := 43) 14 (dk D_X6_unwind 20 rfl) fl_6_77 (by decide) (fun _ _ => rfl) rfl (fixH 79 6 (by decide) rfl) ?_
        refine K_p (pc2 := 44) (lv2 := [(0, vR 79), (1, vR _)]) (st2 := [vR _, vI _, vR 84]) (fun ad S Q _ k => V_aload_n (pc2 := 44) (dk D_X6_unwind 21 rfl) rfl (V_lg 1 rfl) rfl k) ?_
        obtain ⟨e35, he36, hc37⟩ := h
        refine K_call (as := [vR _]) (st := [vI _, vR 84]) (pc2 := 47) (okL.all _ ⟨(Or.inr ⟨Or.inl ⟨by decide, by decide⟩, by decide⟩), (isH.ok (isH.mo (isH.mo (isH.mo h5 (by decide) mo7) (by decide) mo26) (by decide) mo33) (by decide)), trivial⟩) (okS.all _ ⟨trivial, (Or.inr ⟨Or.inl ⟨by decide, by decide⟩, by decide⟩), trivial⟩) (fun ad S Q Qc hC hc k => V_callV (as := []) (st := [_, _]) (M' := MX10_keptByGuard) (ci := 10) (pc2 := 47) (dk D_X6_unwind 22 rfl) ml_6_315 mv_X10_keptByGuard rfl rfl (by decide) rfl (Nat.le_of_ble_eq_true rfl) rfl he36 (hC.k' (isH.mo (isH.mo (isH.mo h5 (by decide) mo7) (by decide) mo26) (by decide) mo33)) hc k) hc37 (kRI.k fun y38 κ39 h mo40 => ?_)
        obtain ⟨e41, he42, hc43⟩ := h
        refine K_call (as := [vR 84, vI _, vI _]) (st := []) (pc2 := 50) (okL.all _ ⟨(Or.inr ⟨Or.inl ⟨by decide, by decide⟩, by decide⟩), (isH.ok (isH.mo (isH.mo (isH.mo (isH.mo h5 (by decide) mo7) (by decide) mo26) (by decide) mo33) (by decide) mo40) (by decide)), trivial⟩) (okS.all _ trivial) (fun ad S Q Qc hC hc k => V_callV (as := [_, _]) (st := []) (M' := MX2_putBeneath) (ci := 2) (pc2 := 50) (dk D_X6_unwind 23 rfl) ml_6_336 mv_X2_putBeneath rfl rfl (by decide) rfl (Nat.le_of_ble_eq_true rfl) rfl he42 (hC.k' (fixH 84 2 (by decide) rfl)) hc k) hc43 (kRV.k fun  κ44 h mo45 => ?_)
        exact h
      · have h := h.2 q34
        exact h
    · have h := h.2 q27
      refine K_p (pc2 := 56) (lv2 := [(0, vR 79), (1, vR _)]) (st2 := [vR 79]) (fun ad S Q _ k => V_aload_n (pc2 := 56) (dk D_X6_unwind 27 rfl) rfl (V_lg 0 rfl) rfl k) ?_
      refine K_getI kc6 (pc2 := 59) 14 (dk D_X6_unwind 28 rfl) fl_6_77 (by decide) (fun _ _ => rfl) rfl (fixH 79 6 (by decide) rfl) ?_
      refine K_p (pc2 := 60) (lv2 := [(0, vR 79), (1, vR _), (2, vI _)]) (st2 := []) (fun ad S Q _ k => V_istore_n (pc2 := 60) (lv2 := [(0, _), (1, _), (2, _)]) (dk D_X6_unwind 29 rfl) rfl (by decide) rfl rfl k) ?_
      refine K_p (pc2 := 61) (lv2 := [(0, vR 79), (1, vR _), (2, vI _)]) (st2 := [vR 79]) (fun ad S Q _ k => V_aload_n (pc2 := 61) (dk D_X6_unwind 30 rfl) rfl (V_lg 0 rfl) rfl k) ?_
      refine K_p (pc2 := 62) (lv2 := [(0, vR 79), (1, vR _), (2, vI _)]) (st2 := [vR _, vR 79]) (fun ad S Q _ k => V_aload_n (pc2 := 62) (dk D_X6_unwind 31 rfl) rfl (V_lg 1 rfl) rfl k) ?_
      obtain ⟨e46, he47, hc48⟩ := h
      refine K_call (as := [vR _]) (st := [vR 79]) (pc2 := 65) (okL.all _ ⟨(Or.inr ⟨Or.inl ⟨by decide, by decide⟩, by decide⟩), (isH.ok (isH.mo (isH.mo h5 (by decide) mo7) (by decide) mo26) (by decide)), trivial, trivial⟩) (okS.all _ ⟨(Or.inr ⟨Or.inl ⟨by decide, by decide⟩, by decide⟩), trivial⟩) (fun ad S Q Qc hC hc k => V_callV (as := []) (st := [_]) (M' := MX10_handlers) (ci := 10) (pc2 := 65) (dk D_X6_unwind 32 rfl) ml_6_324 mv_X10_handlers rfl rfl (by decide) rfl (Nat.le_of_ble_eq_true rfl) rfl he47 (hC.k' (isH.mo (isH.mo h5 (by decide) mo7) (by decide) mo26)) hc k) hc48 (kRI.k fun y49 κ50 h mo51 => ?_)
      refine K_p (pc2 := 66) (lv2 := [(0, vR 79), (1, vR _), (2, vI _)]) (st2 := [vR _, vI _, vR 79]) (fun ad S Q _ k => V_aload_n (pc2 := 66) (dk D_X6_unwind 33 rfl) rfl (V_lg 1 rfl) rfl k) ?_
      obtain ⟨e52, he53, hc54⟩ := h
      refine K_call (as := [vR _]) (st := [vI _, vR 79]) (pc2 := 69) (okL.all _ ⟨(Or.inr ⟨Or.inl ⟨by decide, by decide⟩, by decide⟩), (isH.ok (isH.mo (isH.mo (isH.mo h5 (by decide) mo7) (by decide) mo26) (by decide) mo51) (by decide)), trivial, trivial⟩) (okS.all _ ⟨trivial, (Or.inr ⟨Or.inl ⟨by decide, by decide⟩, by decide⟩), trivial⟩) (fun ad S Q Qc hC hc k => V_callV (as := []) (st := [_, _]) (M' := MX10_phase) (ci := 10) (pc2 := 69) (dk D_X6_unwind 34 rfl) ml_6_312 mv_X10_phase rfl rfl (by decide) rfl (Nat.le_of_ble_eq_true rfl) rfl he53 (hC.k' (isH.mo (isH.mo (isH.mo h5 (by decide) mo7) (by decide) mo26) (by decide) mo51)) hc k) hc54 (kRI.k fun y55 κ56 h mo57 => ?_)
      refine K_if (pa := 72) (pb := 83) (lv2 := [(0, vR 79), (1, vR _), (2, vI _)]) (st2 := [vI _, vR 79]) (fun ad S Q _ k1 k2 => V_ifne (tgt := 83) (pc2 := 72) (dk D_X6_unwind 35 rfl) (by decide) rfl (fun q => k2 q) (fun q => k1 q)) (fun q58 => ?_) (fun q58 => ?_)
      · have h := h.1 q58
        refine K_p (pc2 := 73) (lv2 := [(0, vR 79), (1, vR _), (2, vI _)]) (st2 := [vR 79, vI _, vR 79]) (fun ad S Q _ k => V_aload_n (pc2 := 73) (dk D_X6_unwind 36 rfl) rfl (V_lg 0 rfl) rfl k) ?_
        refine K_getF kc6 (h' := 84) (pc2 := 76) 2 (by decide) (dk D_X6_unwind 37 rfl) fl_6_24 (by decide) (fun _ _ => rfl) rfl (fixH 79 6 (by decide) rfl) (by decide) ?_
        refine K_p (pc2 := 77) (lv2 := [(0, vR 79), (1, vR _), (2, vI _)]) (st2 := [vI _, vR 84, vI _, vR 79]) (fun ad S Q _ k => V_iload_n (pc2 := 77) (dk D_X6_unwind 38 rfl) rfl (V_lg 2 rfl) rfl k) ?_
        obtain ⟨e59, he60, hc61⟩ := h
        refine K_call (as := [vR 84, vI _]) (st := [vI _, vR 79]) (pc2 := 80) (okL.all _ ⟨(Or.inr ⟨Or.inl ⟨by decide, by decide⟩, by decide⟩), (isH.ok (isH.mo (isH.mo (isH.mo (isH.mo h5 (by decide) mo7) (by decide) mo26) (by decide) mo51) (by decide) mo57) (by decide)), trivial, trivial⟩) (okS.all _ ⟨trivial, (Or.inr ⟨Or.inl ⟨by decide, by decide⟩, by decide⟩), trivial⟩) (fun ad S Q Qc hC hc k => V_callV (as := [_]) (st := [_, _]) (M' := MX2_number) (ci := 2) (pc2 := 80) (dk D_X6_unwind 39 rfl) ml_6_339 mv_X2_number rfl rfl (by decide) rfl (Nat.le_of_ble_eq_true rfl) rfl he60 (hC.k' (fixH 84 2 (by decide) rfl)) hc k) hc61 (kRI.k fun y62 κ63 h mo64 => ?_)
        refine K_p (pc2 := 85) (lv2 := [(0, vR 79), (1, vR _), (2, vI _)]) (st2 := [vI _, vI _, vR 79]) (fun ad S Q _ k => V_goto (tgt := 85) (dk D_X6_unwind 40 rfl) (by decide) k) ?_
        exact h
      · have h := h.2 q58
        refine K_p (pc2 := 85) (lv2 := [(0, vR 79), (1, vR _), (2, vI _)]) (st2 := [vI _, vI _, vR 79]) (fun ad S Q _ k => V_bipush (x := 14) (pc2 := 85) (dk D_X6_unwind 41 rfl) (by decide) rfl k) ?_
        exact h
theorem k_6_unwind_19 {X : Cx} {d : Nat} {κ : Km} {Q : Res → Km → Prop} (r1 : Nat) (h : Q (.inl none) κ) : K X d MX6_unwind 19 [(0, vR 79), (1, vR r1)] [] κ Q := by
  exact K_ret (r := .inl none) (fun ad S Q _ k => V_return (dk D_X6_unwind 9 rfl) rfl k) h
theorem k_6_unwind_50 {X : Cx} {d : Nat} {κ : Km} {Q : Res → Km → Prop} (r1 : Nat) (h : (isH κ r1 10) ∧ ∃ e1 : Nat, e1 + 1 ≤ d ∧ KC' X e1 MX10_closeGuard [vR r1] κ (kRV fun  κ5 => Q (.inl none) κ5)) : K X d MX6_unwind 50 [(0, vR 79), (1, vR r1)] [] κ Q := by
  refine K_p (pc2 := 51) (lv2 := [(0, vR 79), (1, vR _)]) (st2 := [vR _]) (fun ad S Q _ k => V_aload_n (pc2 := 51) (dk D_X6_unwind 24 rfl) rfl (V_lg 1 rfl) rfl k) ?_
  obtain ⟨h4, h⟩ := h
  obtain ⟨e1, he2, hc3⟩ := h
  refine K_call (as := [vR _]) (st := []) (pc2 := 54) (okL.all _ ⟨(Or.inr ⟨Or.inl ⟨by decide, by decide⟩, by decide⟩), (isH.ok h4 (by decide)), trivial⟩) (okS.all _ trivial) (fun ad S Q Qc hC hc k => V_callV (as := []) (st := []) (M' := MX10_closeGuard) (ci := 10) (pc2 := 54) (dk D_X6_unwind 25 rfl) ml_6_300 mv_X10_closeGuard rfl rfl (by decide) rfl (Nat.le_of_ble_eq_true rfl) rfl he2 (hC.k' h4) hc k) hc3 (kRV.k fun  κ5 h mo6 => ?_)
  exact K_ret (r := .inl none) (fun ad S Q _ k => V_return (dk D_X6_unwind 26 rfl) rfl k) h
theorem k_6_unwind_85 {X : Cx} {d : Nat} {κ : Km} {Q : Res → Km → Prop} (r1 : Nat) (x2 : Int32) (t1 : Int32) (t2 : Int32) (h : (isH κ r1 10) ∧ ∃ e1 : Nat, e1 + 1 ≤ d ∧ KC' X e1 MX6_handlerOf [vR 79, vI t1, vI t2] κ (kRI fun y4 κ6 => ∃ e8 : Nat, e8 + 1 ≤ d ∧ KC' X e8 MX1_act [vR 68, vI y4] κ6 (kRI fun y11 κ12 => ((y11 = 41 → ∀ κ15 : Km, κ15 = cI κ12 79 14 0 → ∃ e16 : Nat, e16 + 1 ≤ d ∧ KC' X e16 MX10_turnGuard [vR r1, vI 1, vI x2, vI (y4 + 2)] κ15 (kRV fun  κ19 => ∃ e21 : Nat, e21 + 1 ≤ d ∧ KC' X e21 MX2_value [vR 84, vI x2] κ19 (kRI fun y24 κ25 => ∃ e27 : Nat, e27 + 1 ≤ d ∧ KC' X e27 MX10_push [vR r1, vI y24] κ25 (kRV fun  κ30 => K X d MX6_unwind 175 [(0, vR 79), (1, vR r1), (2, vI x2), (3, vI y4)] [] κ30 Q)))) ∧ (¬ y11 = 41 → ∃ e32 : Nat, e32 + 1 ≤ d ∧ KC' X e32 MX1_act [vR 68, vI y4] κ12 (kRI fun y35 κ36 => ((y35 = 43 → ∀ κ39 : Km, κ39 = cI κ36 79 14 0 → ∀ κ40 : Km, κ40 = cI κ39 r1 7 ((kI κ39 r1 7) + 1) → ∃ e41 : Nat, e41 + 1 ≤ d ∧ KC' X e41 MX10_turnGuard [vR r1, vI 3, vI x2, vI (y4 + 1)] κ40 (kRV fun  κ44 => K X d MX6_unwind 175 [(0, vR 79), (1, vR r1), (2, vI x2), (3, vI y4)] [] κ44 Q)) ∧ (¬ y35 = 43 → ∃ e46 : Nat, e46 + 1 ≤ d ∧ KC' X e46 MX10_closeGuard [vR r1] κ36 (kRV fun  κ49 => K X d MX6_unwind 175 [(0, vR 79), (1, vR r1), (2, vI x2), (3, vI y4)] [] κ49 Q))))))))) : K X d MX6_unwind 85 [(0, vR 79), (1, vR r1), (2, vI x2)] [vI t2, vI t1, vR 79] κ Q := by
  obtain ⟨h5, h⟩ := h
  obtain ⟨e1, he2, hc3⟩ := h
  refine K_call (as := [vR 79, vI _, vI _]) (st := []) (pc2 := 88) (okL.all _ ⟨(Or.inr ⟨Or.inl ⟨by decide, by decide⟩, by decide⟩), (isH.ok h5 (by decide)), trivial, trivial⟩) (okS.all _ trivial) (fun ad S Q Qc hC hc k => V_callV (as := [_, _]) (st := []) (M' := MX6_handlerOf) (ci := 6) (pc2 := 88) (dk D_X6_unwind 42 rfl) ml_6_327 mv_X6_handlerOf rfl rfl (by decide) rfl (Nat.le_of_ble_eq_true rfl) rfl he2 (hC.k' (fixH 79 6 (by decide) rfl)) hc k) hc3 (kRI.k fun y4 κ6 h mo7 => ?_)
  refine K_p (pc2 := 89) (lv2 := [(0, vR 79), (1, vR _), (2, vI _), (3, vI _)]) (st2 := []) (fun ad S Q _ k => V_istore_n (pc2 := 89) (lv2 := [(0, _), (1, _), (2, _), (3, _)]) (dk D_X6_unwind 43 rfl) rfl (by decide) rfl rfl k) ?_
  refine K_p (pc2 := 90) (lv2 := [(0, vR 79), (1, vR _), (2, vI _), (3, vI _)]) (st2 := [vR 79]) (fun ad S Q _ k => V_aload_n (pc2 := 90) (dk D_X6_unwind 44 rfl) rfl (V_lg 0 rfl) rfl k) ?_
  refine K_getF kc6 (h' := 68) (pc2 := 93) 4 (by decide) (dk D_X6_unwind 45 rfl) fl_6_53 (by decide) (fun _ _ => rfl) rfl (fixH 79 6 (by decide) rfl) (by decide) ?_
  refine K_p (pc2 := 94) (lv2 := [(0, vR 79), (1, vR _), (2, vI _), (3, vI _)]) (st2 := [vI _, vR 68]) (fun ad S Q _ k => V_iload_n (pc2 := 94) (dk D_X6_unwind 46 rfl) rfl (V_lg 3 rfl) rfl k) ?_
  obtain ⟨e8, he9, hc10⟩ := h
  refine K_call (as := [vR 68, vI _]) (st := []) (pc2 := 97) (okL.all _ ⟨(Or.inr ⟨Or.inl ⟨by decide, by decide⟩, by decide⟩), (isH.ok (isH.mo h5 (by decide) mo7) (by decide)), trivial, trivial, trivial⟩) (okS.all _ trivial) (fun ad S Q Qc hC hc k => V_callV (as := [_]) (st := []) (M' := MX1_act) (ci := 1) (pc2 := 97) (dk D_X6_unwind 47 rfl) ml_6_178 mv_X1_act rfl rfl (by decide) rfl (Nat.le_of_ble_eq_true rfl) rfl he9 (hC.k' (fixH 68 1 (by decide) rfl)) hc k) hc10 (kRI.k fun y11 κ12 h mo13 => ?_)
  refine K_p (pc2 := 99) (lv2 := [(0, vR 79), (1, vR _), (2, vI _), (3, vI _)]) (st2 := [vI _, vI _]) (fun ad S Q _ k => V_bipush (x := 41) (pc2 := 99) (dk D_X6_unwind 48 rfl) (by decide) rfl k) ?_
  refine K_if (pa := 102) (pb := 131) (lv2 := [(0, vR 79), (1, vR _), (2, vI _), (3, vI _)]) (st2 := []) (fun ad S Q _ k1 k2 => V_cmpne (tgt := 131) (pc2 := 102) (dk D_X6_unwind 49 rfl) (by decide) rfl (fun q => k2 q) (fun q => k1 q)) (fun q14 => ?_) (fun q14 => ?_)
  · have h := h.1 q14
    refine K_p (pc2 := 103) (lv2 := [(0, vR 79), (1, vR _), (2, vI _), (3, vI _)]) (st2 := [vR 79]) (fun ad S Q _ k => V_aload_n (pc2 := 103) (dk D_X6_unwind 50 rfl) rfl (V_lg 0 rfl) rfl k) ?_
    refine K_p (pc2 := 104) (lv2 := [(0, vR 79), (1, vR _), (2, vI _), (3, vI _)]) (st2 := [vI _, vR 79]) (fun ad S Q _ k => V_iconst (x := 0) (pc2 := 104) (dk D_X6_unwind 51 rfl) (by decide) rfl k) ?_
    refine K_putI kc6 (pc2 := 107) 14 (dk D_X6_unwind 52 rfl) fl_6_77 (by decide) (Or.inl rfl) rfl rfl (fixH 79 6 (by decide) rfl) (by decide) ?_
    have h := h _ rfl
    refine K_p (pc2 := 108) (lv2 := [(0, vR 79), (1, vR _), (2, vI _), (3, vI _)]) (st2 := [vR _]) (fun ad S Q _ k => V_aload_n (pc2 := 108) (dk D_X6_unwind 53 rfl) rfl (V_lg 1 rfl) rfl k) ?_
    refine K_p (pc2 := 109) (lv2 := [(0, vR 79), (1, vR _), (2, vI _), (3, vI _)]) (st2 := [vI _, vR _]) (fun ad S Q _ k => V_iconst (x := 1) (pc2 := 109) (dk D_X6_unwind 54 rfl) (by decide) rfl k) ?_
    refine K_p (pc2 := 110) (lv2 := [(0, vR 79), (1, vR _), (2, vI _), (3, vI _)]) (st2 := [vI _, vI _, vR _]) (fun ad S Q _ k => V_iload_n (pc2 := 110) (dk D_X6_unwind 55 rfl) rfl (V_lg 2 rfl) rfl k) ?_
    refine K_p (pc2 := 111) (lv2 := [(0, vR 79), (1, vR _), (2, vI _), (3, vI _)]) (st2 := [vI _, vI _, vI _, vR _]) (fun ad S Q _ k => V_iload_n (pc2 := 111) (dk D_X6_unwind 56 rfl) rfl (V_lg 3 rfl) rfl k) ?_
    refine K_p (pc2 := 112) (lv2 := [(0, vR 79), (1, vR _), (2, vI _), (3, vI _)]) (st2 := [vI _, vI _, vI _, vI _, vR _]) (fun ad S Q _ k => V_iconst (x := 2) (pc2 := 112) (dk D_X6_unwind 57 rfl) (by decide) rfl k) ?_
    refine K_p (pc2 := 113) (lv2 := [(0, vR 79), (1, vR _), (2, vI _), (3, vI _)]) (st2 := [vI _, vI _, vI _, vR _]) (fun ad S Q _ k => V_iadd (pc2 := 113) (dk D_X6_unwind 58 rfl) rfl k) ?_
    obtain ⟨e16, he17, hc18⟩ := h
    refine K_call (as := [vR _, vI _, vI _, vI _]) (st := []) (pc2 := 116) (okL.all _ ⟨(Or.inr ⟨Or.inl ⟨by decide, by decide⟩, by decide⟩), (isH.ok (isH.mo (isH.mo h5 (by decide) mo7) (by decide) mo13) (by decide)), trivial, trivial, trivial⟩) (okS.all _ trivial) (fun ad S Q Qc hC hc k => V_callV (as := [_, _, _]) (st := []) (M' := MX10_turnGuard) (ci := 10) (pc2 := 116) (dk D_X6_unwind 59 rfl) ml_6_296 mv_X10_turnGuard rfl rfl (by decide) rfl (Nat.le_of_ble_eq_true rfl) rfl he17 (hC.k' (isH.mo (isH.mo h5 (by decide) mo7) (by decide) mo13)) hc k) hc18 (kRV.k fun  κ19 h mo20 => ?_)
    refine K_p (pc2 := 117) (lv2 := [(0, vR 79), (1, vR _), (2, vI _), (3, vI _)]) (st2 := [vR _]) (fun ad S Q _ k => V_aload_n (pc2 := 117) (dk D_X6_unwind 60 rfl) rfl (V_lg 1 rfl) rfl k) ?_
    refine K_p (pc2 := 118) (lv2 := [(0, vR 79), (1, vR _), (2, vI _), (3, vI _)]) (st2 := [vR 79, vR _]) (fun ad S Q _ k => V_aload_n (pc2 := 118) (dk D_X6_unwind 61 rfl) rfl (V_lg 0 rfl) rfl k) ?_
    refine K_getF kc6 (h' := 84) (pc2 := 121) 2 (by decide) (dk D_X6_unwind 62 rfl) fl_6_24 (by decide) (fun _ _ => rfl) rfl (fixH 79 6 (by decide) rfl) (by decide) ?_
    refine K_p (pc2 := 122) (lv2 := [(0, vR 79), (1, vR _), (2, vI _), (3, vI _)]) (st2 := [vI _, vR 84, vR _]) (fun ad S Q _ k => V_iload_n (pc2 := 122) (dk D_X6_unwind 63 rfl) rfl (V_lg 2 rfl) rfl k) ?_
    obtain ⟨e21, he22, hc23⟩ := h
    refine K_call (as := [vR 84, vI _]) (st := [vR _]) (pc2 := 125) (okL.all _ ⟨(Or.inr ⟨Or.inl ⟨by decide, by decide⟩, by decide⟩), (isH.ok (isH.mo (isH.mo (isH.mo h5 (by decide) mo7) (by decide) mo13) (by decide) mo20) (by decide)), trivial, trivial, trivial⟩) (okS.all _ ⟨(isH.ok (isH.mo (isH.mo (isH.mo h5 (by decide) mo7) (by decide) mo13) (by decide) mo20) (by decide)), trivial⟩) (fun ad S Q Qc hC hc k => V_callV (as := [_]) (st := [_]) (M' := MX2_value) (ci := 2) (pc2 := 125) (dk D_X6_unwind 64 rfl) ml_6_341 mv_X2_value rfl rfl (by decide) rfl (Nat.le_of_ble_eq_true rfl) rfl he22 (hC.k' (fixH 84 2 (by decide) rfl)) hc k) hc23 (kRI.k fun y24 κ25 h mo26 => ?_)
    obtain ⟨e27, he28, hc29⟩ := h
    refine K_call (as := [vR _, vI _]) (st := []) (pc2 := 128) (okL.all _ ⟨(Or.inr ⟨Or.inl ⟨by decide, by decide⟩, by decide⟩), (isH.ok (isH.mo (isH.mo (isH.mo (isH.mo h5 (by decide) mo7) (by decide) mo13) (by decide) mo20) (by decide) mo26) (by decide)), trivial, trivial, trivial⟩) (okS.all _ trivial) (fun ad S Q Qc hC hc k => V_callV (as := [_]) (st := []) (M' := MX10_push) (ci := 10) (pc2 := 128) (dk D_X6_unwind 65 rfl) ml_6_223 mv_X10_push rfl rfl (by decide) rfl (Nat.le_of_ble_eq_true rfl) rfl he28 (hC.k' (isH.mo (isH.mo (isH.mo (isH.mo h5 (by decide) mo7) (by decide) mo13) (by decide) mo20) (by decide) mo26)) hc k) hc29 (kRV.k fun  κ30 h mo31 => ?_)
    refine K_p (pc2 := 175) (lv2 := [(0, vR 79), (1, vR _), (2, vI _), (3, vI _)]) (st2 := []) (fun ad S Q _ k => V_goto (tgt := 175) (dk D_X6_unwind 66 rfl) (by decide) k) ?_
    exact h
  · have h := h.2 q14
    refine K_p (pc2 := 132) (lv2 := [(0, vR 79), (1, vR _), (2, vI _), (3, vI _)]) (st2 := [vR 79]) (fun ad S Q _ k => V_aload_n (pc2 := 132) (dk D_X6_unwind 67 rfl) rfl (V_lg 0 rfl) rfl k) ?_
    refine K_getF kc6 (h' := 68) (pc2 := 135) 4 (by decide) (dk D_X6_unwind 68 rfl) fl_6_53 (by decide) (fun _ _ => rfl) rfl (fixH 79 6 (by decide) rfl) (by decide) ?_
    refine K_p (pc2 := 136) (lv2 := [(0, vR 79), (1, vR _), (2, vI _), (3, vI _)]) (st2 := [vI _, vR 68]) (fun ad S Q _ k => V_iload_n (pc2 := 136) (dk D_X6_unwind 69 rfl) rfl (V_lg 3 rfl) rfl k) ?_
    obtain ⟨e32, he33, hc34⟩ := h
    refine K_call (as := [vR 68, vI _]) (st := []) (pc2 := 139) (okL.all _ ⟨(Or.inr ⟨Or.inl ⟨by decide, by decide⟩, by decide⟩), (isH.ok (isH.mo (isH.mo h5 (by decide) mo7) (by decide) mo13) (by decide)), trivial, trivial, trivial⟩) (okS.all _ trivial) (fun ad S Q Qc hC hc k => V_callV (as := [_]) (st := []) (M' := MX1_act) (ci := 1) (pc2 := 139) (dk D_X6_unwind 70 rfl) ml_6_178 mv_X1_act rfl rfl (by decide) rfl (Nat.le_of_ble_eq_true rfl) rfl he33 (hC.k' (fixH 68 1 (by decide) rfl)) hc k) hc34 (kRI.k fun y35 κ36 h mo37 => ?_)
    refine K_p (pc2 := 141) (lv2 := [(0, vR 79), (1, vR _), (2, vI _), (3, vI _)]) (st2 := [vI _, vI _]) (fun ad S Q _ k => V_bipush (x := 43) (pc2 := 141) (dk D_X6_unwind 71 rfl) (by decide) rfl k) ?_
    refine K_if (pa := 144) (pb := 171) (lv2 := [(0, vR 79), (1, vR _), (2, vI _), (3, vI _)]) (st2 := []) (fun ad S Q _ k1 k2 => V_cmpne (tgt := 171) (pc2 := 144) (dk D_X6_unwind 72 rfl) (by decide) rfl (fun q => k2 q) (fun q => k1 q)) (fun q38 => ?_) (fun q38 => ?_)
    · have h := h.1 q38
      refine K_p (pc2 := 145) (lv2 := [(0, vR 79), (1, vR _), (2, vI _), (3, vI _)]) (st2 := [vR 79]) (fun ad S Q _ k => V_aload_n (pc2 := 145) (dk D_X6_unwind 73 rfl) rfl (V_lg 0 rfl) rfl k) ?_
      refine K_p (pc2 := 146) (lv2 := [(0, vR 79), (1, vR _), (2, vI _), (3, vI _)]) (st2 := [vI _, vR 79]) (fun ad S Q _ k => V_iconst (x := 0) (pc2 := 146) (dk D_X6_unwind 74 rfl) (by decide) rfl k) ?_
      refine K_putI kc6 (pc2 := 149) 14 (dk D_X6_unwind 75 rfl) fl_6_77 (by decide) (Or.inl rfl) rfl rfl (fixH 79 6 (by decide) rfl) (by decide) ?_
      have h := h _ rfl
      refine K_p (pc2 := 150) (lv2 := [(0, vR 79), (1, vR _), (2, vI _), (3, vI _)]) (st2 := [vR _]) (fun ad S Q _ k => V_aload_n (pc2 := 150) (dk D_X6_unwind 76 rfl) rfl (V_lg 1 rfl) rfl k) ?_
      refine K_p (pc2 := 151) (lv2 := [(0, vR 79), (1, vR _), (2, vI _), (3, vI _)]) (st2 := [vR _, vR _]) (fun ad S Q _ k => V_dup (pc2 := 151) (dk D_X6_unwind 77 rfl) rfl rfl k) ?_
      refine K_getI kc10 (pc2 := 154) 7 (dk D_X6_unwind 78 rfl) fl_6_293 (by decide) (fun _ _ => rfl) rfl (isH.mo (isH.mo (isH.mo h5 (by decide) mo7) (by decide) mo13) (by decide) mo37) ?_
      refine K_p (pc2 := 155) (lv2 := [(0, vR 79), (1, vR _), (2, vI _), (3, vI _)]) (st2 := [vI _, vI _, vR _]) (fun ad S Q _ k => V_iconst (x := 1) (pc2 := 155) (dk D_X6_unwind 79 rfl) (by decide) rfl k) ?_
      refine K_p (pc2 := 156) (lv2 := [(0, vR 79), (1, vR _), (2, vI _), (3, vI _)]) (st2 := [vI _, vR _]) (fun ad S Q _ k => V_iadd (pc2 := 156) (dk D_X6_unwind 80 rfl) rfl k) ?_
      refine K_putI kc10 (pc2 := 159) 7 (dk D_X6_unwind 81 rfl) fl_6_293 (by decide) (Or.inl rfl) rfl rfl (isH.mo (isH.mo (isH.mo h5 (by decide) mo7) (by decide) mo13) (by decide) mo37) (isH.n69 (isH.mo (isH.mo (isH.mo h5 (by decide) mo7) (by decide) mo13) (by decide) mo37) (by decide)) ?_
      have h := h _ rfl
      refine K_p (pc2 := 160) (lv2 := [(0, vR 79), (1, vR _), (2, vI _), (3, vI _)]) (st2 := [vR _]) (fun ad S Q _ k => V_aload_n (pc2 := 160) (dk D_X6_unwind 82 rfl) rfl (V_lg 1 rfl) rfl k) ?_
      refine K_p (pc2 := 161) (lv2 := [(0, vR 79), (1, vR _), (2, vI _), (3, vI _)]) (st2 := [vI _, vR _]) (fun ad S Q _ k => V_iconst (x := 3) (pc2 := 161) (dk D_X6_unwind 83 rfl) (by decide) rfl k) ?_
      refine K_p (pc2 := 162) (lv2 := [(0, vR 79), (1, vR _), (2, vI _), (3, vI _)]) (st2 := [vI _, vI _, vR _]) (fun ad S Q _ k => V_iload_n (pc2 := 162) (dk D_X6_unwind 84 rfl) rfl (V_lg 2 rfl) rfl k) ?_
      refine K_p (pc2 := 163) (lv2 := [(0, vR 79), (1, vR _), (2, vI _), (3, vI _)]) (st2 := [vI _, vI _, vI _, vR _]) (fun ad S Q _ k => V_iload_n (pc2 := 163) (dk D_X6_unwind 85 rfl) rfl (V_lg 3 rfl) rfl k) ?_
      refine K_p (pc2 := 164) (lv2 := [(0, vR 79), (1, vR _), (2, vI _), (3, vI _)]) (st2 := [vI _, vI _, vI _, vI _, vR _]) (fun ad S Q _ k => V_iconst (x := 1) (pc2 := 164) (dk D_X6_unwind 86 rfl) (by decide) rfl k) ?_
      refine K_p (pc2 := 165) (lv2 := [(0, vR 79), (1, vR _), (2, vI _), (3, vI _)]) (st2 := [vI _, vI _, vI _, vR _]) (fun ad S Q _ k => V_iadd (pc2 := 165) (dk D_X6_unwind 87 rfl) rfl k) ?_
      obtain ⟨e41, he42, hc43⟩ := h
      refine K_call (as := [vR _, vI _, vI _, vI _]) (st := []) (pc2 := 168) (okL.all _ ⟨(Or.inr ⟨Or.inl ⟨by decide, by decide⟩, by decide⟩), (isH.ok (isH.mo (isH.mo (isH.mo h5 (by decide) mo7) (by decide) mo13) (by decide) mo37) (by decide)), trivial, trivial, trivial⟩) (okS.all _ trivial) (fun ad S Q Qc hC hc k => V_callV (as := [_, _, _]) (st := []) (M' := MX10_turnGuard) (ci := 10) (pc2 := 168) (dk D_X6_unwind 88 rfl) ml_6_296 mv_X10_turnGuard rfl rfl (by decide) rfl (Nat.le_of_ble_eq_true rfl) rfl he42 (hC.k' (isH.mo (isH.mo (isH.mo h5 (by decide) mo7) (by decide) mo13) (by decide) mo37)) hc k) hc43 (kRV.k fun  κ44 h mo45 => ?_)
      refine K_p (pc2 := 175) (lv2 := [(0, vR 79), (1, vR _), (2, vI _), (3, vI _)]) (st2 := []) (fun ad S Q _ k => V_goto (tgt := 175) (dk D_X6_unwind 89 rfl) (by decide) k) ?_
      exact h
    · have h := h.2 q38
      refine K_p (pc2 := 172) (lv2 := [(0, vR 79), (1, vR _), (2, vI _), (3, vI _)]) (st2 := [vR _]) (fun ad S Q _ k => V_aload_n (pc2 := 172) (dk D_X6_unwind 90 rfl) rfl (V_lg 1 rfl) rfl k) ?_
      obtain ⟨e46, he47, hc48⟩ := h
      refine K_call (as := [vR _]) (st := []) (pc2 := 175) (okL.all _ ⟨(Or.inr ⟨Or.inl ⟨by decide, by decide⟩, by decide⟩), (isH.ok (isH.mo (isH.mo (isH.mo h5 (by decide) mo7) (by decide) mo13) (by decide) mo37) (by decide)), trivial, trivial, trivial⟩) (okS.all _ trivial) (fun ad S Q Qc hC hc k => V_callV (as := []) (st := []) (M' := MX10_closeGuard) (ci := 10) (pc2 := 175) (dk D_X6_unwind 91 rfl) ml_6_300 mv_X10_closeGuard rfl rfl (by decide) rfl (Nat.le_of_ble_eq_true rfl) rfl he47 (hC.k' (isH.mo (isH.mo (isH.mo h5 (by decide) mo7) (by decide) mo13) (by decide) mo37)) hc k) hc48 (kRV.k fun  κ49 h mo50 => ?_)
      exact h
theorem k_6_unwind_175 {X : Cx} {d : Nat} {κ : Km} {Q : Res → Km → Prop} (r1 : Nat) (x2 : Int32) (x3 : Int32) (h : Q (.inl none) κ) : K X d MX6_unwind 175 [(0, vR 79), (1, vR r1), (2, vI x2), (3, vI x3)] [] κ Q := by
  exact K_ret (r := .inl none) (fun ad S Q _ k => V_return (dk D_X6_unwind 92 rfl) rfl k) h
theorem k_6_leaveVoice_0 {X : Cx} {d : Nat} {κ : Km} {Q : Res → Km → Prop} (r1 : Nat) (h : (isH κ r1 10) ∧ (((kI κ r1 11) = 0 → K X d MX6_leaveVoice 27 [(0, vR 79), (1, vR r1)] [] κ Q) ∧ (¬ (kI κ r1 11) = 0 → ∃ e3 : Nat, e3 + 1 ≤ d ∧ KC' X e3 MX2_number [vR 84, vI (kI κ 79 14)] κ (kRI fun y6 κ7 => ((y6 = 14 → K X d MX6_leaveVoice 28 [(0, vR 79), (1, vR r1)] [vI 1] κ7 Q) ∧ (¬ y6 = 14 → K X d MX6_leaveVoice 27 [(0, vR 79), (1, vR r1)] [] κ7 Q)))))) : K X d MX6_leaveVoice 0 [(0, vR 79), (1, vR r1)] [] κ Q := by
  refine K_p (pc2 := 1) (lv2 := [(0, vR 79), (1, vR _)]) (st2 := [vR _]) (fun ad S Q _ k => V_aload_n (pc2 := 1) (dk D_X6_leaveVoice 0 rfl) rfl (V_lg 1 rfl) rfl k) ?_
  obtain ⟨h1, h⟩ := h
  refine K_getI kc10 (pc2 := 4) 11 (dk D_X6_leaveVoice 1 rfl) fl_6_134 (by decide) (fun _ _ => rfl) rfl h1 ?_
  refine K_if (pa := 27) (pb := 7) (lv2 := [(0, vR 79), (1, vR _)]) (st2 := []) (fun ad S Q _ k1 k2 => V_ifeq (tgt := 27) (pc2 := 7) (dk D_X6_leaveVoice 2 rfl) (by decide) rfl (fun q => k1 q) (fun q => k2 q)) (fun q2 => ?_) (fun q2 => ?_)
  · have h := h.1 q2
    exact h
  · have h := h.2 q2
    refine K_p (pc2 := 8) (lv2 := [(0, vR 79), (1, vR _)]) (st2 := [vR 79]) (fun ad S Q _ k => V_aload_n (pc2 := 8) (dk D_X6_leaveVoice 3 rfl) rfl (V_lg 0 rfl) rfl k) ?_
    refine K_getF kc6 (h' := 84) (pc2 := 11) 2 (by decide) (dk D_X6_leaveVoice 4 rfl) fl_6_24 (by decide) (fun _ _ => rfl) rfl (fixH 79 6 (by decide) rfl) (by decide) ?_
    refine K_p (pc2 := 12) (lv2 := [(0, vR 79), (1, vR _)]) (st2 := [vR 79, vR 84]) (fun ad S Q _ k => V_aload_n (pc2 := 12) (dk D_X6_leaveVoice 5 rfl) rfl (V_lg 0 rfl) rfl k) ?_
    refine K_getI kc6 (pc2 := 15) 14 (dk D_X6_leaveVoice 6 rfl) fl_6_77 (by decide) (fun _ _ => rfl) rfl (fixH 79 6 (by decide) rfl) ?_
    obtain ⟨e3, he4, hc5⟩ := h
    refine K_call (as := [vR 84, vI _]) (st := []) (pc2 := 18) (okL.all _ ⟨(Or.inr ⟨Or.inl ⟨by decide, by decide⟩, by decide⟩), (isH.ok h1 (by decide)), trivial⟩) (okS.all _ trivial) (fun ad S Q Qc hC hc k => V_callV (as := [_]) (st := []) (M' := MX2_number) (ci := 2) (pc2 := 18) (dk D_X6_leaveVoice 7 rfl) ml_6_339 mv_X2_number rfl rfl (by decide) rfl (Nat.le_of_ble_eq_true rfl) rfl he4 (hC.k' (fixH 84 2 (by decide) rfl)) hc k) hc5 (kRI.k fun y6 κ7 h mo8 => ?_)
    refine K_p (pc2 := 20) (lv2 := [(0, vR 79), (1, vR _)]) (st2 := [vI _, vI _]) (fun ad S Q _ k => V_bipush (x := 14) (pc2 := 20) (dk D_X6_leaveVoice 8 rfl) (by decide) rfl k) ?_
    refine K_if (pa := 23) (pb := 27) (lv2 := [(0, vR 79), (1, vR _)]) (st2 := []) (fun ad S Q _ k1 k2 => V_cmpne (tgt := 27) (pc2 := 23) (dk D_X6_leaveVoice 9 rfl) (by decide) rfl (fun q => k2 q) (fun q => k1 q)) (fun q9 => ?_) (fun q9 => ?_)
    · have h := h.1 q9
      refine K_p (pc2 := 24) (lv2 := [(0, vR 79), (1, vR _)]) (st2 := [vI _]) (fun ad S Q _ k => V_iconst (x := 1) (pc2 := 24) (dk D_X6_leaveVoice 10 rfl) (by decide) rfl k) ?_
      refine K_p (pc2 := 28) (lv2 := [(0, vR 79), (1, vR _)]) (st2 := [vI _]) (fun ad S Q _ k => V_goto (tgt := 28) (dk D_X6_leaveVoice 11 rfl) (by decide) k) ?_
      exact h
    · have h := h.2 q9
      exact h
theorem k_6_leaveVoice_27 {X : Cx} {d : Nat} {κ : Km} {Q : Res → Km → Prop} (r1 : Nat) (h : K X d MX6_leaveVoice 28 [(0, vR 79), (1, vR r1)] [vI 0] κ Q) : K X d MX6_leaveVoice 27 [(0, vR 79), (1, vR r1)] [] κ Q := by
  refine K_p (pc2 := 28) (lv2 := [(0, vR 79), (1, vR _)]) (st2 := [vI _]) (fun ad S Q _ k => V_iconst (x := 0) (pc2 := 28) (dk D_X6_leaveVoice 12 rfl) (by decide) rfl k) ?_
  exact h
theorem k_6_leaveVoice_28 {X : Cx} {d : Nat} {κ : Km} {Q : Res → Km → Prop} (r1 : Nat) (t0 : Int32) (h : ((t0 = 0 → K X d MX6_leaveVoice 41 [(0, vR 79), (1, vR r1), (2, vI t0)] [vI 5, vR r1, vR 79] κ Q) ∧ (¬ t0 = 0 → K X d MX6_leaveVoice 41 [(0, vR 79), (1, vR r1), (2, vI t0)] [vI 6, vR r1, vR 79] κ Q))) : K X d MX6_leaveVoice 28 [(0, vR 79), (1, vR r1)] [vI t0] κ Q := by
  refine K_p (pc2 := 29) (lv2 := [(0, vR 79), (1, vR _), (2, vI _)]) (st2 := []) (fun ad S Q _ k => V_istore_n (pc2 := 29) (lv2 := [(0, _), (1, _), (2, _)]) (dk D_X6_leaveVoice 13 rfl) rfl (by decide) rfl rfl k) ?_
  refine K_p (pc2 := 30) (lv2 := [(0, vR 79), (1, vR _), (2, vI _)]) (st2 := [vR 79]) (fun ad S Q _ k => V_aload_n (pc2 := 30) (dk D_X6_leaveVoice 14 rfl) rfl (V_lg 0 rfl) rfl k) ?_
  refine K_p (pc2 := 31) (lv2 := [(0, vR 79), (1, vR _), (2, vI _)]) (st2 := [vR _, vR 79]) (fun ad S Q _ k => V_aload_n (pc2 := 31) (dk D_X6_leaveVoice 15 rfl) rfl (V_lg 1 rfl) rfl k) ?_
  refine K_p (pc2 := 32) (lv2 := [(0, vR 79), (1, vR _), (2, vI _)]) (st2 := [vI _, vR _, vR 79]) (fun ad S Q _ k => V_iload_n (pc2 := 32) (dk D_X6_leaveVoice 16 rfl) rfl (V_lg 2 rfl) rfl k) ?_
  refine K_if (pa := 40) (pb := 35) (lv2 := [(0, vR 79), (1, vR _), (2, vI _)]) (st2 := [vR _, vR 79]) (fun ad S Q _ k1 k2 => V_ifeq (tgt := 40) (pc2 := 35) (dk D_X6_leaveVoice 17 rfl) (by decide) rfl (fun q => k1 q) (fun q => k2 q)) (fun q1 => ?_) (fun q1 => ?_)
  · have h := h.1 q1
    refine K_p (pc2 := 41) (lv2 := [(0, vR 79), (1, vR _), (2, vI _)]) (st2 := [vI _, vR _, vR 79]) (fun ad S Q _ k => V_iconst (x := 5) (pc2 := 41) (dk D_X6_leaveVoice 20 rfl) (by decide) rfl k) ?_
    exact h
  · have h := h.2 q1
    refine K_p (pc2 := 37) (lv2 := [(0, vR 79), (1, vR _), (2, vI _)]) (st2 := [vI _, vR _, vR 79]) (fun ad S Q _ k => V_bipush (x := 6) (pc2 := 37) (dk D_X6_leaveVoice 18 rfl) (by decide) rfl k) ?_
    refine K_p (pc2 := 41) (lv2 := [(0, vR 79), (1, vR _), (2, vI _)]) (st2 := [vI _, vR _, vR 79]) (fun ad S Q _ k => V_goto (tgt := 41) (dk D_X6_leaveVoice 19 rfl) (by decide) k) ?_
    exact h
theorem k_6_leaveVoice_41 {X : Cx} {d : Nat} {κ : Km} {Q : Res → Km → Prop} (r1 : Nat) (x2 : Int32) (t1 : Nat) (t2 : Int32) (h : (isH κ r1 10) ∧ ∃ e1 : Nat, e1 + 1 ≤ d ∧ KC' X e1 MX6_end [vR 79, vR t1, vI t2] κ (kRV fun  κ5 => ((x2 = 0 → ∃ e8 : Nat, e8 + 1 ≤ d ∧ KC' X e8 MX4_add [vR 82, vI (kI κ5 r1 0), vI (kI κ5 r1 5)] κ5 (kRV fun  κ11 => ∀ κ13 : Km, κ13 = cI κ11 79 13 (kI κ11 r1 5) → ∃ e14 : Nat, e14 + 1 ≤ d ∧ KC' X e14 MX6_find [vR 79, vI (kI κ13 79 13)] κ13 (kRR fun p17 κ18 => (p17 = 0 ∨ live κ18 p17) ∧ ((p17 = 0 → (isH κ18 p17 10) ∧ ∃ e22 : Nat, e22 + 1 ≤ d ∧ KC' X e22 MX6_comeOut [vR 79] κ18 (kRV fun  κ26 => K X d MX6_leaveVoice 109 [(0, vR 79), (1, vR r1), (2, vI x2), (3, vR p17)] [] κ26 Q)) ∧ (¬ p17 = 0 → (isH κ18 p17 10) ∧ ∀ κ29 : Km, κ29 = cI κ18 p17 1 2 → K X d MX6_leaveVoice 109 [(0, vR 79), (1, vR r1), (2, vI x2), (3, vR p17)] [] κ29 Q))))) ∧ (¬ x2 = 0 → ∀ κ30 : Km, κ30 = cI κ5 79 14 0 → ∃ e31 : Nat, e31 + 1 ≤ d ∧ KC' X e31 MX6_goBack [vR 79, vR r1, vI 0, vI 1] κ30 (kRV fun  κ34 => Q (.inl none) κ34))))) : K X d MX6_leaveVoice 41 [(0, vR 79), (1, vR r1), (2, vI x2)] [vI t2, vR t1, vR 79] κ Q := by
  obtain ⟨h4, h⟩ := h
  obtain ⟨e1, he2, hc3⟩ := h
  refine K_call (as := [vR 79, vR _, vI _]) (st := []) (pc2 := 44) (okL.all _ ⟨(Or.inr ⟨Or.inl ⟨by decide, by decide⟩, by decide⟩), (isH.ok h4 (by decide)), trivial, trivial⟩) (okS.all _ trivial) (fun ad S Q Qc hC hc k => V_callV (as := [_, _]) (st := []) (M' := MX6_end) (ci := 6) (pc2 := 44) (dk D_X6_leaveVoice 21 rfl) ml_6_113 mv_X6_end rfl rfl (by decide) rfl (Nat.le_of_ble_eq_true rfl) rfl he2 (hC.k' (fixH 79 6 (by decide) rfl)) hc k) hc3 (kRV.k fun  κ5 h mo6 => ?_)
  refine K_p (pc2 := 45) (lv2 := [(0, vR 79), (1, vR _), (2, vI _)]) (st2 := [vI _]) (fun ad S Q _ k => V_iload_n (pc2 := 45) (dk D_X6_leaveVoice 22 rfl) rfl (V_lg 2 rfl) rfl k) ?_
  refine K_if (pa := 61) (pb := 48) (lv2 := [(0, vR 79), (1, vR _), (2, vI _)]) (st2 := []) (fun ad S Q _ k1 k2 => V_ifeq (tgt := 61) (pc2 := 48) (dk D_X6_leaveVoice 23 rfl) (by decide) rfl (fun q => k1 q) (fun q => k2 q)) (fun q7 => ?_) (fun q7 => ?_)
  · have h := h.1 q7
    refine K_p (pc2 := 62) (lv2 := [(0, vR 79), (1, vR _), (2, vI _)]) (st2 := [vR 79]) (fun ad S Q _ k => V_aload_n (pc2 := 62) (dk D_X6_leaveVoice 33 rfl) rfl (V_lg 0 rfl) rfl k) ?_
    refine K_getF kc6 (h' := 82) (pc2 := 65) 1 (by decide) (dk D_X6_leaveVoice 34 rfl) fl_6_18 (by decide) (fun _ _ => rfl) rfl (fixH 79 6 (by decide) rfl) (by decide) ?_
    refine K_p (pc2 := 66) (lv2 := [(0, vR 79), (1, vR _), (2, vI _)]) (st2 := [vR _, vR 82]) (fun ad S Q _ k => V_aload_n (pc2 := 66) (dk D_X6_leaveVoice 35 rfl) rfl (V_lg 1 rfl) rfl k) ?_
    refine K_getI kc10 (pc2 := 69) 0 (dk D_X6_leaveVoice 36 rfl) fl_6_198 (by decide) (fun _ _ => rfl) rfl (isH.mo h4 (by decide) mo6) ?_
    refine K_p (pc2 := 70) (lv2 := [(0, vR 79), (1, vR _), (2, vI _)]) (st2 := [vR _, vI _, vR 82]) (fun ad S Q _ k => V_aload_n (pc2 := 70) (dk D_X6_leaveVoice 37 rfl) rfl (V_lg 1 rfl) rfl k) ?_
    refine K_getI kc10 (pc2 := 73) 5 (dk D_X6_leaveVoice 38 rfl) fl_6_116 (by decide) (fun _ _ => rfl) rfl (isH.mo h4 (by decide) mo6) ?_
    obtain ⟨e8, he9, hc10⟩ := h
    refine K_call (as := [vR 82, vI _, vI _]) (st := []) (pc2 := 76) (okL.all _ ⟨(Or.inr ⟨Or.inl ⟨by decide, by decide⟩, by decide⟩), (isH.ok (isH.mo h4 (by decide) mo6) (by decide)), trivial, trivial⟩) (okS.all _ trivial) (fun ad S Q Qc hC hc k => V_callV (as := [_, _]) (st := []) (M' := MX4_add) (ci := 4) (pc2 := 76) (dk D_X6_leaveVoice 39 rfl) ml_6_215 mv_X4_add rfl rfl (by decide) rfl (Nat.le_of_ble_eq_true rfl) rfl he9 (hC.k' (fixH 82 4 (by decide) rfl)) hc k) hc10 (kRV.k fun  κ11 h mo12 => ?_)
    refine K_p (pc2 := 77) (lv2 := [(0, vR 79), (1, vR _), (2, vI _)]) (st2 := [vR 79]) (fun ad S Q _ k => V_aload_n (pc2 := 77) (dk D_X6_leaveVoice 40 rfl) rfl (V_lg 0 rfl) rfl k) ?_
    refine K_p (pc2 := 78) (lv2 := [(0, vR 79), (1, vR _), (2, vI _)]) (st2 := [vR _, vR 79]) (fun ad S Q _ k => V_aload_n (pc2 := 78) (dk D_X6_leaveVoice 41 rfl) rfl (V_lg 1 rfl) rfl k) ?_
    refine K_getI kc10 (pc2 := 81) 5 (dk D_X6_leaveVoice 42 rfl) fl_6_116 (by decide) (fun _ _ => rfl) rfl (isH.mo (isH.mo h4 (by decide) mo6) (by decide) mo12) ?_
    refine K_putI kc6 (pc2 := 84) 13 (dk D_X6_leaveVoice 43 rfl) fl_6_74 (by decide) (Or.inl rfl) rfl rfl (fixH 79 6 (by decide) rfl) (by decide) ?_
    have h := h _ rfl
    refine K_p (pc2 := 85) (lv2 := [(0, vR 79), (1, vR _), (2, vI _)]) (st2 := [vR 79]) (fun ad S Q _ k => V_aload_n (pc2 := 85) (dk D_X6_leaveVoice 44 rfl) rfl (V_lg 0 rfl) rfl k) ?_
    refine K_p (pc2 := 86) (lv2 := [(0, vR 79), (1, vR _), (2, vI _)]) (st2 := [vR 79, vR 79]) (fun ad S Q _ k => V_aload_n (pc2 := 86) (dk D_X6_leaveVoice 45 rfl) rfl (V_lg 0 rfl) rfl k) ?_
    refine K_getI kc6 (pc2 := 89) 13 (dk D_X6_leaveVoice 46 rfl) fl_6_74 (by decide) (fun _ _ => rfl) rfl (fixH 79 6 (by decide) rfl) ?_
    obtain ⟨e14, he15, hc16⟩ := h
    refine K_call (as := [vR 79, vI _]) (st := []) (pc2 := 92) (okL.all _ ⟨(Or.inr ⟨Or.inl ⟨by decide, by decide⟩, by decide⟩), (isH.ok (isH.mo (isH.mo h4 (by decide) mo6) (by decide) mo12) (by decide)), trivial, trivial⟩) (okS.all _ trivial) (fun ad S Q Qc hC hc k => V_callV (as := [_]) (st := []) (M' := MX6_find) (ci := 6) (pc2 := 92) (dk D_X6_leaveVoice 47 rfl) ml_6_106 mv_X6_find rfl rfl (by decide) rfl (Nat.le_of_ble_eq_true rfl) rfl he15 (hC.k' (fixH 79 6 (by decide) rfl)) hc k) hc16 (kRR.k fun p17 κ18 h mo19 => ?_)
    refine K_p (pc2 := 93) (lv2 := [(0, vR 79), (1, vR _), (2, vI _), (3, vR _)]) (st2 := []) (fun ad S Q _ k => V_astore_n (pc2 := 93) (lv2 := [(0, _), (1, _), (2, _), (3, _)]) (dk D_X6_leaveVoice 48 rfl) rfl (by decide) rfl rfl k) ?_
    refine K_p (pc2 := 94) (lv2 := [(0, vR 79), (1, vR _), (2, vI _), (3, vR _)]) (st2 := [vR _]) (fun ad S Q _ k => V_aload_n (pc2 := 94) (dk D_X6_leaveVoice 49 rfl) rfl (V_lg 3 rfl) rfl k) ?_
    obtain ⟨h21, h⟩ := h
    refine K_ifnonnull (tgt := 104) (pc2 := 97) (dk D_X6_leaveVoice 50 rfl) (by decide) rfl h21 (fun q20 => ?_) (fun q20 => ?_)
    · have h := h.1 q20
      refine K_p (pc2 := 98) (lv2 := [(0, vR 79), (1, vR _), (2, vI _), (3, vR _)]) (st2 := [vR 79]) (fun ad S Q _ k => V_aload_n (pc2 := 98) (dk D_X6_leaveVoice 51 rfl) rfl (V_lg 0 rfl) rfl k) ?_
      obtain ⟨h25, h⟩ := h
      obtain ⟨e22, he23, hc24⟩ := h
      refine K_call (as := [vR 79]) (st := []) (pc2 := 101) (okL.all _ ⟨(Or.inr ⟨Or.inl ⟨by decide, by decide⟩, by decide⟩), (isH.ok (isH.mo (isH.mo (isH.mo h4 (by decide) mo6) (by decide) mo12) (by decide) mo19) (by decide)), trivial, (isH.ok h25 (by decide)), trivial⟩) (okS.all _ trivial) (fun ad S Q Qc hC hc k => V_callV (as := []) (st := []) (M' := MX6_comeOut) (ci := 6) (pc2 := 101) (dk D_X6_leaveVoice 52 rfl) ml_6_287 mv_X6_comeOut rfl rfl (by decide) rfl (Nat.le_of_ble_eq_true rfl) rfl he23 (hC.k' (fixH 79 6 (by decide) rfl)) hc k) hc24 (kRV.k fun  κ26 h mo27 => ?_)
      refine K_p (pc2 := 109) (lv2 := [(0, vR 79), (1, vR _), (2, vI _), (3, vR _)]) (st2 := []) (fun ad S Q _ k => V_goto (tgt := 109) (dk D_X6_leaveVoice 53 rfl) (by decide) k) ?_
      exact h
    · have h := h.2 q20
      refine K_p (pc2 := 105) (lv2 := [(0, vR 79), (1, vR _), (2, vI _), (3, vR _)]) (st2 := [vR _]) (fun ad S Q _ k => V_aload_n (pc2 := 105) (dk D_X6_leaveVoice 54 rfl) rfl (V_lg 3 rfl) rfl k) ?_
      refine K_p (pc2 := 106) (lv2 := [(0, vR 79), (1, vR _), (2, vI _), (3, vR _)]) (st2 := [vI _, vR _]) (fun ad S Q _ k => V_iconst (x := 2) (pc2 := 106) (dk D_X6_leaveVoice 55 rfl) (by decide) rfl k) ?_
      obtain ⟨h28, h⟩ := h
      refine K_putI kc10 (pc2 := 109) 1 (dk D_X6_leaveVoice 56 rfl) fl_6_131 (by decide) (Or.inl rfl) rfl rfl h28 (isH.n69 h28 (by decide)) ?_
      have h := h _ rfl
      exact h
  · have h := h.2 q7
    refine K_p (pc2 := 49) (lv2 := [(0, vR 79), (1, vR _), (2, vI _)]) (st2 := [vR 79]) (fun ad S Q _ k => V_aload_n (pc2 := 49) (dk D_X6_leaveVoice 24 rfl) rfl (V_lg 0 rfl) rfl k) ?_
    refine K_p (pc2 := 50) (lv2 := [(0, vR 79), (1, vR _), (2, vI _)]) (st2 := [vI _, vR 79]) (fun ad S Q _ k => V_iconst (x := 0) (pc2 := 50) (dk D_X6_leaveVoice 25 rfl) (by decide) rfl k) ?_
    refine K_putI kc6 (pc2 := 53) 14 (dk D_X6_leaveVoice 26 rfl) fl_6_77 (by decide) (Or.inl rfl) rfl rfl (fixH 79 6 (by decide) rfl) (by decide) ?_
    have h := h _ rfl
    refine K_p (pc2 := 54) (lv2 := [(0, vR 79), (1, vR _), (2, vI _)]) (st2 := [vR 79]) (fun ad S Q _ k => V_aload_n (pc2 := 54) (dk D_X6_leaveVoice 27 rfl) rfl (V_lg 0 rfl) rfl k) ?_
    refine K_p (pc2 := 55) (lv2 := [(0, vR 79), (1, vR _), (2, vI _)]) (st2 := [vR _, vR 79]) (fun ad S Q _ k => V_aload_n (pc2 := 55) (dk D_X6_leaveVoice 28 rfl) rfl (V_lg 1 rfl) rfl k) ?_
    refine K_p (pc2 := 56) (lv2 := [(0, vR 79), (1, vR _), (2, vI _)]) (st2 := [vI _, vR _, vR 79]) (fun ad S Q _ k => V_iconst (x := 0) (pc2 := 56) (dk D_X6_leaveVoice 29 rfl) (by decide) rfl k) ?_
    refine K_p (pc2 := 57) (lv2 := [(0, vR 79), (1, vR _), (2, vI _)]) (st2 := [vI _, vI _, vR _, vR 79]) (fun ad S Q _ k => V_iconst (x := 1) (pc2 := 57) (dk D_X6_leaveVoice 30 rfl) (by decide) rfl k) ?_
    obtain ⟨e31, he32, hc33⟩ := h
    refine K_call (as := [vR 79, vR _, vI _, vI _]) (st := []) (pc2 := 60) (okL.all _ ⟨(Or.inr ⟨Or.inl ⟨by decide, by decide⟩, by decide⟩), (isH.ok (isH.mo h4 (by decide) mo6) (by decide)), trivial, trivial⟩) (okS.all _ trivial) (fun ad S Q Qc hC hc k => V_callV (as := [_, _, _]) (st := []) (M' := MX6_goBack) (ci := 6) (pc2 := 60) (dk D_X6_leaveVoice 31 rfl) ml_6_267 mv_X6_goBack rfl rfl (by decide) rfl (Nat.le_of_ble_eq_true rfl) rfl he32 (hC.k' (fixH 79 6 (by decide) rfl)) hc k) hc33 (kRV.k fun  κ34 h mo35 => ?_)
    exact K_ret (r := .inl none) (fun ad S Q _ k => V_return (dk D_X6_leaveVoice 32 rfl) rfl k) h
theorem k_6_leaveVoice_109 {X : Cx} {d : Nat} {κ : Km} {Q : Res → Km → Prop} (r1 : Nat) (x2 : Int32) (r3 : Nat) (h : Q (.inl none) κ) : K X d MX6_leaveVoice 109 [(0, vR 79), (1, vR r1), (2, vI x2), (3, vR r3)] [] κ Q := by
  exact K_ret (r := .inl none) (fun ad S Q _ k => V_return (dk D_X6_leaveVoice 57 rfl) rfl k) h
theorem k_6_comeOut_0 {X : Cx} {d : Nat} {κ : Km} {Q : Res → Km → Prop}  (h : ∀ κ1 : Km, κ1 = cI κ 79 13 0 → ∀ κ2 : Km, κ2 = cI κ1 79 15 2 → ∃ e3 : Nat, e3 + 1 ≤ d ∧ KC' X e3 MX2_comeOut [vR 84, vI (kI κ2 79 14)] κ2 (kRV fun  κ6 => ∀ κ8 : Km, κ8 = cI κ6 79 14 0 → Q (.inl none) κ8)) : K X d MX6_comeOut 0 [(0, vR 79)] [] κ Q := by
  refine K_p (pc2 := 1) (lv2 := [(0, vR 79)]) (st2 := [vR 79]) (fun ad S Q _ k => V_aload_n (pc2 := 1) (dk D_X6_comeOut 0 rfl) rfl (V_lg 0 rfl) rfl k) ?_
  refine K_p (pc2 := 2) (lv2 := [(0, vR 79)]) (st2 := [vI _, vR 79]) (fun ad S Q _ k => V_iconst (x := 0) (pc2 := 2) (dk D_X6_comeOut 1 rfl) (by decide) rfl k) ?_
  refine K_putI kc6 (pc2 := 5) 13 (dk D_X6_comeOut 2 rfl) fl_6_74 (by decide) (Or.inl rfl) rfl rfl (fixH 79 6 (by decide) rfl) (by decide) ?_
  have h := h _ rfl
  refine K_p (pc2 := 6) (lv2 := [(0, vR 79)]) (st2 := [vR 79]) (fun ad S Q _ k => V_aload_n (pc2 := 6) (dk D_X6_comeOut 3 rfl) rfl (V_lg 0 rfl) rfl k) ?_
  refine K_p (pc2 := 7) (lv2 := [(0, vR 79)]) (st2 := [vI _, vR 79]) (fun ad S Q _ k => V_iconst (x := 2) (pc2 := 7) (dk D_X6_comeOut 4 rfl) (by decide) rfl k) ?_
  refine K_putI kc6 (pc2 := 10) 15 (dk D_X6_comeOut 5 rfl) fl_6_80 (by decide) (Or.inl rfl) rfl rfl (fixH 79 6 (by decide) rfl) (by decide) ?_
  have h := h _ rfl
  refine K_p (pc2 := 11) (lv2 := [(0, vR 79)]) (st2 := [vR 79]) (fun ad S Q _ k => V_aload_n (pc2 := 11) (dk D_X6_comeOut 6 rfl) rfl (V_lg 0 rfl) rfl k) ?_
  refine K_getF kc6 (h' := 84) (pc2 := 14) 2 (by decide) (dk D_X6_comeOut 7 rfl) fl_6_24 (by decide) (fun _ _ => rfl) rfl (fixH 79 6 (by decide) rfl) (by decide) ?_
  refine K_p (pc2 := 15) (lv2 := [(0, vR 79)]) (st2 := [vR 79, vR 84]) (fun ad S Q _ k => V_aload_n (pc2 := 15) (dk D_X6_comeOut 8 rfl) rfl (V_lg 0 rfl) rfl k) ?_
  refine K_getI kc6 (pc2 := 18) 14 (dk D_X6_comeOut 9 rfl) fl_6_77 (by decide) (fun _ _ => rfl) rfl (fixH 79 6 (by decide) rfl) ?_
  obtain ⟨e3, he4, hc5⟩ := h
  refine K_call (as := [vR 84, vI _]) (st := []) (pc2 := 21) (okL.all _ ⟨(Or.inr ⟨Or.inl ⟨by decide, by decide⟩, by decide⟩), trivial⟩) (okS.all _ trivial) (fun ad S Q Qc hC hc k => V_callV (as := [_]) (st := []) (M' := MX2_comeOut) (ci := 2) (pc2 := 21) (dk D_X6_comeOut 10 rfl) ml_6_344 mv_X2_comeOut rfl rfl (by decide) rfl (Nat.le_of_ble_eq_true rfl) rfl he4 (hC.k' (fixH 84 2 (by decide) rfl)) hc k) hc5 (kRV.k fun  κ6 h mo7 => ?_)
  refine K_p (pc2 := 22) (lv2 := [(0, vR 79)]) (st2 := [vR 79]) (fun ad S Q _ k => V_aload_n (pc2 := 22) (dk D_X6_comeOut 11 rfl) rfl (V_lg 0 rfl) rfl k) ?_
  refine K_p (pc2 := 23) (lv2 := [(0, vR 79)]) (st2 := [vI _, vR 79]) (fun ad S Q _ k => V_iconst (x := 0) (pc2 := 23) (dk D_X6_comeOut 12 rfl) (by decide) rfl k) ?_
  refine K_putI kc6 (pc2 := 26) 14 (dk D_X6_comeOut 13 rfl) fl_6_77 (by decide) (Or.inl rfl) rfl rfl (fixH 79 6 (by decide) rfl) (by decide) ?_
  have h := h _ rfl
  exact K_ret (r := .inl none) (fun ad S Q _ k => V_return (dk D_X6_comeOut 14 rfl) rfl k) h
