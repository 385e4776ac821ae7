/-! pieces of the class that ask less of a voice that may be null -/
theorem k_6_resumeBy_11z {X : Cx} {d : Nat} {κ : Km} {Q : Res → Km → Prop} (r1 : Nat) (r2 : Nat) (x3 : Int32) (h : (isH κ r1 10) ∧ (okv κ (vR r2)) ∧ ∃ e1 : Nat, e1 + 1 ≤ d ∧ KC' X e1 MX6_misuse [vR 79, vR r1, vR r2] κ (kRV fun  κ6 => Q (.inl none) κ6)) : K X d MX6_resumeBy 11 [(0, vR 79), (1, vR r1), (2, vR r2), (3, vI x3)] [] κ Q := by
  refine K_p (pc2 := 12) (lv2 := [(0, vR 79), (1, vR _), (2, vR _), (3, vI _)]) (st2 := [vR 79]) (fun ad S Q _ k => V_aload_n (pc2 := 12) (dk D_X6_resumeBy 5 rfl) rfl (V_lg 0 rfl) rfl k) ?_
  refine K_p (pc2 := 13) (lv2 := [(0, vR 79), (1, vR _), (2, vR _), (3, vI _)]) (st2 := [vR _, vR 79]) (fun ad S Q _ k => V_aload_n (pc2 := 13) (dk D_X6_resumeBy 6 rfl) rfl (V_lg 1 rfl) rfl k) ?_
  refine K_p (pc2 := 14) (lv2 := [(0, vR 79), (1, vR _), (2, vR _), (3, vI _)]) (st2 := [vR _, vR _, vR 79]) (fun ad S Q _ k => V_aload_n (pc2 := 14) (dk D_X6_resumeBy 7 rfl) rfl (V_lg 2 rfl) rfl k) ?_
  obtain ⟨h4, h⟩ := h
  obtain ⟨h5, h⟩ := h
  obtain ⟨e1, he2, hc3⟩ := h
  refine K_call (as := [vR 79, vR _, vR _]) (st := []) (pc2 := 17) (okL.all _ ⟨(Or.inr ⟨Or.inl ⟨by decide, by decide⟩, by decide⟩), (isH.ok h4 (by decide)), h5, trivial, trivial⟩) (okS.all _ trivial) (fun ad S Q Qc hC hc k => V_callV (as := [_, _]) (st := []) (M' := MX6_misuse) (ci := 6) (pc2 := 17) (dk D_X6_resumeBy 8 rfl) ml_6_273 mv_X6_misuse rfl rfl (by decide) rfl (Nat.le_of_ble_eq_true rfl) rfl he2 (hC.k' (fixH 79 6 (by decide) rfl)) hc k) hc3 (kRV.k fun  κ6 h mo7 => ?_)
  exact K_ret (r := .inl none) (fun ad S Q _ k => V_return (dk D_X6_resumeBy 9 rfl) rfl k) h
theorem k_6_handBy_42z {X : Cx} {d : Nat} {κ : Km} {Q : Res → Km → Prop} (r1 : Nat) (x2 : Int32) (r3 : Nat) (h : (isH κ r1 10) ∧ (okv κ (vR r3)) ∧ ∃ e1 : Nat, e1 + 1 ≤ d ∧ KC' X e1 MX6_misuse [vR 79, vR r1, vR r3] κ (kRV fun  κ6 => K X d MX6_handBy 74 [(0, vR 79), (1, vR r1), (2, vI x2), (3, vR r3)] [] κ6 Q)) : K X d MX6_handBy 42 [(0, vR 79), (1, vR r1), (2, vI x2), (3, vR r3)] [] κ Q := by
  refine K_p (pc2 := 43) (lv2 := [(0, vR 79), (1, vR _), (2, vI _), (3, vR _)]) (st2 := [vR 79]) (fun ad S Q _ k => V_aload_n (pc2 := 43) (dk D_X6_handBy 21 rfl) rfl (V_lg 0 rfl) rfl k) ?_
  refine K_p (pc2 := 44) (lv2 := [(0, vR 79), (1, vR _), (2, vI _), (3, vR _)]) (st2 := [vR _, vR 79]) (fun ad S Q _ k => V_aload_n (pc2 := 44) (dk D_X6_handBy 22 rfl) rfl (V_lg 1 rfl) rfl k) ?_
  refine K_p (pc2 := 45) (lv2 := [(0, vR 79), (1, vR _), (2, vI _), (3, vR _)]) (st2 := [vR _, vR _, vR 79]) (fun ad S Q _ k => V_aload_n (pc2 := 45) (dk D_X6_handBy 23 rfl) rfl (V_lg 3 rfl) rfl k) ?_
  obtain ⟨h4, h⟩ := h
  obtain ⟨h5, h⟩ := h
  obtain ⟨e1, he2, hc3⟩ := h
  refine K_call (as := [vR 79, vR _, vR _]) (st := []) (pc2 := 48) (okL.all _ ⟨(Or.inr ⟨Or.inl ⟨by decide, by decide⟩, by decide⟩), (isH.ok h4 (by decide)), trivial, h5, trivial⟩) (okS.all _ trivial) (fun ad S Q Qc hC hc k => V_callV (as := [_, _]) (st := []) (M' := MX6_misuse) (ci := 6) (pc2 := 48) (dk D_X6_handBy 24 rfl) ml_6_273 mv_X6_misuse rfl rfl (by decide) rfl (Nat.le_of_ble_eq_true rfl) rfl he2 (hC.k' (fixH 79 6 (by decide) rfl)) hc k) hc3 (kRV.k fun  κ6 h mo7 => ?_)
  refine K_p (pc2 := 74) (lv2 := [(0, vR 79), (1, vR _), (2, vI _), (3, vR _)]) (st2 := []) (fun ad S Q _ k => V_goto (tgt := 74) (dk D_X6_handBy 25 rfl) (by decide) k) ?_
  exact h
theorem k_6_injectBy_28z {X : Cx} {d : Nat} {κ : Km} {Q : Res → Km → Prop} (r1 : Nat) (x2 : Int32) (x3 : Int32) (r4 : Nat) (h : (isH κ r1 10) ∧ (okv κ (vR r4)) ∧ ∃ e1 : Nat, e1 + 1 ≤ d ∧ KC' X e1 MX6_misuse [vR 79, vR r1, vR r4] κ (kRV fun  κ6 => Q (.inl none) κ6)) : K X d MX6_injectBy 28 [(0, vR 79), (1, vR r1), (2, vI x2), (3, vI x3), (4, vR r4)] [] κ Q := by
  refine K_p (pc2 := 29) (lv2 := [(0, vR 79), (1, vR _), (2, vI _), (3, vI _), (4, vR _)]) (st2 := [vR 79]) (fun ad S Q _ k => V_aload_n (pc2 := 29) (dk D_X6_injectBy 13 rfl) rfl (V_lg 0 rfl) rfl k) ?_
  refine K_p (pc2 := 30) (lv2 := [(0, vR 79), (1, vR _), (2, vI _), (3, vI _), (4, vR _)]) (st2 := [vR _, vR 79]) (fun ad S Q _ k => V_aload_n (pc2 := 30) (dk D_X6_injectBy 14 rfl) rfl (V_lg 1 rfl) rfl k) ?_
  refine K_p (pc2 := 32) (lv2 := [(0, vR 79), (1, vR _), (2, vI _), (3, vI _), (4, vR _)]) (st2 := [vR _, vR _, vR 79]) (fun ad S Q _ k => V_aload (pc2 := 32) (dk D_X6_injectBy 15 rfl) (V_lg 4 rfl) rfl k) ?_
  obtain ⟨h4, h⟩ := h
  obtain ⟨h5, h⟩ := h
  obtain ⟨e1, he2, hc3⟩ := h
  refine K_call (as := [vR 79, vR _, vR _]) (st := []) (pc2 := 35) (okL.all _ ⟨(Or.inr ⟨Or.inl ⟨by decide, by decide⟩, by decide⟩), (isH.ok h4 (by decide)), trivial, trivial, h5, trivial⟩) (okS.all _ trivial) (fun ad S Q Qc hC hc k => V_callV (as := [_, _]) (st := []) (M' := MX6_misuse) (ci := 6) (pc2 := 35) (dk D_X6_injectBy 16 rfl) ml_6_273 mv_X6_misuse rfl rfl (by decide) rfl (Nat.le_of_ble_eq_true rfl) rfl he2 (hC.k' (fixH 79 6 (by decide) rfl)) hc k) hc3 (kRV.k fun  κ6 h mo7 => ?_)
  exact K_ret (r := .inl none) (fun ad S Q _ k => V_return (dk D_X6_injectBy 17 rfl) rfl k) h
theorem k_6_closeBy_20z {X : Cx} {d : Nat} {κ : Km} {Q : Res → Km → Prop} (r1 : Nat) (r2 : Nat) (h : (isH κ r1 10) ∧ (okv κ (vR r2)) ∧ ∃ e1 : Nat, e1 + 1 ≤ d ∧ KC' X e1 MX6_misuse [vR 79, vR r1, vR r2] κ (kRV fun  κ6 => K X d MX6_closeBy 92 [(0, vR 79), (1, vR r1), (2, vR r2)] [] κ6 Q)) : K X d MX6_closeBy 20 [(0, vR 79), (1, vR r1), (2, vR r2)] [] κ Q := by
  refine K_p (pc2 := 21) (lv2 := [(0, vR 79), (1, vR _), (2, vR _)]) (st2 := [vR 79]) (fun ad S Q _ k => V_aload_n (pc2 := 21) (dk D_X6_closeBy 10 rfl) rfl (V_lg 0 rfl) rfl k) ?_
  refine K_p (pc2 := 22) (lv2 := [(0, vR 79), (1, vR _), (2, vR _)]) (st2 := [vR _, vR 79]) (fun ad S Q _ k => V_aload_n (pc2 := 22) (dk D_X6_closeBy 11 rfl) rfl (V_lg 1 rfl) rfl k) ?_
  refine K_p (pc2 := 23) (lv2 := [(0, vR 79), (1, vR _), (2, vR _)]) (st2 := [vR _, vR _, vR 79]) (fun ad S Q _ k => V_aload_n (pc2 := 23) (dk D_X6_closeBy 12 rfl) rfl (V_lg 2 rfl) rfl k) ?_
  obtain ⟨h4, h⟩ := h
  obtain ⟨h5, h⟩ := h
  obtain ⟨e1, he2, hc3⟩ := h
  refine K_call (as := [vR 79, vR _, vR _]) (st := []) (pc2 := 26) (okL.all _ ⟨(Or.inr ⟨Or.inl ⟨by decide, by decide⟩, by decide⟩), (isH.ok h4 (by decide)), h5, trivial⟩) (okS.all _ trivial) (fun ad S Q Qc hC hc k => V_callV (as := [_, _]) (st := []) (M' := MX6_misuse) (ci := 6) (pc2 := 26) (dk D_X6_closeBy 13 rfl) ml_6_273 mv_X6_misuse rfl rfl (by decide) rfl (Nat.le_of_ble_eq_true rfl) rfl he2 (hC.k' (fixH 79 6 (by decide) rfl)) hc k) hc3 (kRV.k fun  κ6 h mo7 => ?_)
  refine K_p (pc2 := 92) (lv2 := [(0, vR 79), (1, vR _), (2, vR _)]) (st2 := []) (fun ad S Q _ k => V_goto (tgt := 92) (dk D_X6_closeBy 14 rfl) (by decide) k) ?_
  exact h
theorem k_6_handBy_0z {X : Cx} {d : Nat} {κ : Km} {Q : Res → Km → Prop} (r1 : Nat) (h : (isH κ r1 10) ∧ ∃ e1 : Nat, e1 + 1 ≤ d ∧ KC' X e1 MX10_pop [vR r1] κ (kRI fun y4 κ6 => ∃ e8 : Nat, e8 + 1 ≤ d ∧ KC' X e8 MX10_pop [vR r1] κ6 (kRI fun y11 κ12 => ∃ e14 : Nat, e14 + 1 ≤ d ∧ KC' X e14 MX6_find [vR 79, vI y11] κ12 (kRR fun p17 κ18 => (((kI κ18 r1 11) = 0 → (p17 = 0 ∨ live κ18 p17) ∧ ((p17 = 0 → K X d MX6_handBy 42 [(0, vR 79), (1, vR r1), (2, vI y4), (3, vR p17)] [] κ18 Q) ∧ (¬ p17 = 0 → (isH κ18 p17 10) ∧ ∃ e23 : Nat, e23 + 1 ≤ d ∧ KC' X e23 MX10_isReady [vR p17] κ18 (kRI fun y26 κ28 => ((y26 = 0 → K X d MX6_handBy 42 [(0, vR 79), (1, vR r1), (2, vI y4), (3, vR p17)] [] κ28 Q) ∧ (¬ y26 = 0 → ∀ κ31 : Km, κ31 = cI κ28 r1 1 1 → ∀ κ32 : Km, κ32 = cI κ31 p17 5 (kI κ31 r1 5) → ∃ e33 : Nat, e33 + 1 ≤ d ∧ KC' X e33 MX6_give [vR 79, vI (kI κ32 r1 0), vR p17, vI y4] κ32 (kRV fun  κ36 => K X d MX6_handBy 74 [(0, vR 79), (1, vR r1), (2, vI y4), (3, vR p17)] [] κ36 Q))))))) ∧ (¬ (kI κ18 r1 11) = 0 → (okv κ18 (vR p17)) ∧ ∃ e38 : Nat, e38 + 1 ≤ d ∧ KC' X e38 MX6_raise [vR 79, vR r1, vI 10] κ18 (kRV fun  κ42 => K X d MX6_handBy 74 [(0, vR 79), (1, vR r1), (2, vI y4), (3, vR p17)] [] κ42 Q))))))) : K X d MX6_handBy 0 [(0, vR 79), (1, vR r1)] [] κ Q := by
  refine K_p (pc2 := 1) (lv2 := [(0, vR 79), (1, vR _)]) (st2 := [vR _]) (fun ad S Q _ k => V_aload_n (pc2 := 1) (dk D_X6_handBy 0 rfl) rfl (V_lg 1 rfl) rfl k) ?_
  obtain ⟨h5, h⟩ := h
  obtain ⟨e1, he2, hc3⟩ := h
  refine K_call (as := [vR _]) (st := []) (pc2 := 4) (okL.all _ ⟨(Or.inr ⟨Or.inl ⟨by decide, by decide⟩, by decide⟩), (isH.ok h5 (by decide)), trivial⟩) (okS.all _ trivial) (fun ad S Q Qc hC hc k => V_callV (as := []) (st := []) (M' := MX10_pop) (ci := 10) (pc2 := 4) (dk D_X6_handBy 1 rfl) ml_6_212 mv_X10_pop rfl rfl (by decide) rfl (Nat.le_of_ble_eq_true rfl) rfl he2 (hC.k' h5) hc k) hc3 (kRI.k fun y4 κ6 h mo7 => ?_)
  refine K_p (pc2 := 5) (lv2 := [(0, vR 79), (1, vR _), (2, vI _)]) (st2 := []) (fun ad S Q _ k => V_istore_n (pc2 := 5) (lv2 := [(0, _), (1, _), (2, _)]) (dk D_X6_handBy 2 rfl) rfl (by decide) rfl rfl k) ?_
  refine K_p (pc2 := 6) (lv2 := [(0, vR 79), (1, vR _), (2, vI _)]) (st2 := [vR 79]) (fun ad S Q _ k => V_aload_n (pc2 := 6) (dk D_X6_handBy 3 rfl) rfl (V_lg 0 rfl) rfl k) ?_
  refine K_p (pc2 := 7) (lv2 := [(0, vR 79), (1, vR _), (2, vI _)]) (st2 := [vR _, vR 79]) (fun ad S Q _ k => V_aload_n (pc2 := 7) (dk D_X6_handBy 4 rfl) rfl (V_lg 1 rfl) rfl k) ?_
  obtain ⟨e8, he9, hc10⟩ := h
  refine K_call (as := [vR _]) (st := [vR 79]) (pc2 := 10) (okL.all _ ⟨(Or.inr ⟨Or.inl ⟨by decide, by decide⟩, by decide⟩), (isH.ok (isH.mo h5 (by decide) mo7) (by decide)), trivial, trivial⟩) (okS.all _ ⟨(Or.inr ⟨Or.inl ⟨by decide, by decide⟩, by decide⟩), trivial⟩) (fun ad S Q Qc hC hc k => V_callV (as := []) (st := [_]) (M' := MX10_pop) (ci := 10) (pc2 := 10) (dk D_X6_handBy 5 rfl) ml_6_212 mv_X10_pop rfl rfl (by decide) rfl (Nat.le_of_ble_eq_true rfl) rfl he9 (hC.k' (isH.mo h5 (by decide) mo7)) hc k) hc10 (kRI.k fun y11 κ12 h mo13 => ?_)
  obtain ⟨e14, he15, hc16⟩ := h
  refine K_call (as := [vR 79, vI _]) (st := []) (pc2 := 13) (okL.all _ ⟨(Or.inr ⟨Or.inl ⟨by decide, by decide⟩, by decide⟩), (isH.ok (isH.mo (isH.mo h5 (by decide) mo7) (by decide) mo13) (by decide)), trivial, trivial⟩) (okS.all _ trivial) (fun ad S Q Qc hC hc k => V_callV (as := [_]) (st := []) (M' := MX6_find) (ci := 6) (pc2 := 13) (dk D_X6_handBy 6 rfl) ml_6_106 mv_X6_find rfl rfl (by decide) rfl (Nat.le_of_ble_eq_true rfl) rfl he15 (hC.k' (fixH 79 6 (by decide) rfl)) hc k) hc16 (kRR.k fun p17 κ18 h mo19 => ?_)
  refine K_p (pc2 := 14) (lv2 := [(0, vR 79), (1, vR _), (2, vI _), (3, vR _)]) (st2 := []) (fun ad S Q _ k => V_astore_n (pc2 := 14) (lv2 := [(0, _), (1, _), (2, _), (3, _)]) (dk D_X6_handBy 7 rfl) rfl (by decide) rfl rfl k) ?_
  refine K_p (pc2 := 15) (lv2 := [(0, vR 79), (1, vR _), (2, vI _), (3, vR _)]) (st2 := [vR _]) (fun ad S Q _ k => V_aload_n (pc2 := 15) (dk D_X6_handBy 8 rfl) rfl (V_lg 1 rfl) rfl k) ?_
  refine K_getI kc10 (pc2 := 18) 11 (dk D_X6_handBy 9 rfl) fl_6_134 (by decide) (fun _ _ => rfl) rfl (isH.mo (isH.mo (isH.mo h5 (by decide) mo7) (by decide) mo13) (by decide) mo19) ?_
  refine K_if (pa := 31) (pb := 21) (lv2 := [(0, vR 79), (1, vR _), (2, vI _), (3, vR _)]) (st2 := []) (fun ad S Q _ k1 k2 => V_ifeq (tgt := 31) (pc2 := 21) (dk D_X6_handBy 10 rfl) (by decide) rfl (fun q => k1 q) (fun q => k2 q)) (fun q20 => ?_) (fun q20 => ?_)
  · have h := h.1 q20
    refine K_p (pc2 := 32) (lv2 := [(0, vR 79), (1, vR _), (2, vI _), (3, vR _)]) (st2 := [vR _]) (fun ad S Q _ k => V_aload_n (pc2 := 32) (dk D_X6_handBy 16 rfl) rfl (V_lg 3 rfl) rfl k) ?_
    obtain ⟨h22, h⟩ := h
    refine K_ifnull (tgt := 42) (pc2 := 35) (dk D_X6_handBy 17 rfl) (by decide) rfl h22 (fun q21 => ?_) (fun q21 => ?_)
    · have h := h.1 q21
      exact h
    · have h := h.2 q21
      refine K_p (pc2 := 36) (lv2 := [(0, vR 79), (1, vR _), (2, vI _), (3, vR _)]) (st2 := [vR _]) (fun ad S Q _ k => V_aload_n (pc2 := 36) (dk D_X6_handBy 18 rfl) rfl (V_lg 3 rfl) rfl k) ?_
      obtain ⟨h27, h⟩ := h
      obtain ⟨e23, he24, hc25⟩ := h
      refine K_call (as := [vR _]) (st := []) (pc2 := 39) (okL.all _ ⟨(Or.inr ⟨Or.inl ⟨by decide, by decide⟩, by decide⟩), (isH.ok (isH.mo (isH.mo (isH.mo h5 (by decide) mo7) (by decide) mo13) (by decide) mo19) (by decide)), trivial, (isH.ok h27 (by decide)), trivial⟩) (okS.all _ trivial) (fun ad S Q Qc hC hc k => V_callV (as := []) (st := []) (M' := MX10_isReady) (ci := 10) (pc2 := 39) (dk D_X6_handBy 19 rfl) ml_6_270 mv_X10_isReady rfl rfl (by decide) rfl (Nat.le_of_ble_eq_true rfl) rfl he24 (hC.k' h27) hc k) hc25 (kRI.k fun y26 κ28 h mo29 => ?_)
      refine K_if (pa := 42) (pb := 51) (lv2 := [(0, vR 79), (1, vR _), (2, vI _), (3, vR _)]) (st2 := []) (fun ad S Q _ k1 k2 => V_ifne (tgt := 51) (pc2 := 42) (dk D_X6_handBy 20 rfl) (by decide) rfl (fun q => k2 q) (fun q => k1 q)) (fun q30 => ?_) (fun q30 => ?_)
      · have h := h.1 q30
        exact h
      · have h := h.2 q30
        refine K_p (pc2 := 52) (lv2 := [(0, vR 79), (1, vR _), (2, vI _), (3, vR _)]) (st2 := [vR _]) (fun ad S Q _ k => V_aload_n (pc2 := 52) (dk D_X6_handBy 26 rfl) rfl (V_lg 1 rfl) rfl k) ?_
        refine K_p (pc2 := 53) (lv2 := [(0, vR 79), (1, vR _), (2, vI _), (3, vR _)]) (st2 := [vI _, vR _]) (fun ad S Q _ k => V_iconst (x := 1) (pc2 := 53) (dk D_X6_handBy 27 rfl) (by decide) rfl k) ?_
        refine K_putI kc10 (pc2 := 56) 1 (dk D_X6_handBy 28 rfl) fl_6_131 (by decide) (Or.inl rfl) rfl rfl (isH.mo (isH.mo (isH.mo (isH.mo h5 (by decide) mo7) (by decide) mo13) (by decide) mo19) (by decide) mo29) (isH.n69 (isH.mo (isH.mo (isH.mo (isH.mo h5 (by decide) mo7) (by decide) mo13) (by decide) mo19) (by decide) mo29) (by decide)) ?_
        have h := h _ rfl
        refine K_p (pc2 := 57) (lv2 := [(0, vR 79), (1, vR _), (2, vI _), (3, vR _)]) (st2 := [vR _]) (fun ad S Q _ k => V_aload_n (pc2 := 57) (dk D_X6_handBy 29 rfl) rfl (V_lg 3 rfl) rfl k) ?_
        refine K_p (pc2 := 58) (lv2 := [(0, vR 79), (1, vR _), (2, vI _), (3, vR _)]) (st2 := [vR _, vR _]) (fun ad S Q _ k => V_aload_n (pc2 := 58) (dk D_X6_handBy 30 rfl) rfl (V_lg 1 rfl) rfl k) ?_
        refine K_getI kc10 (pc2 := 61) 5 (dk D_X6_handBy 31 rfl) fl_6_116 (by decide) (fun _ _ => rfl) rfl (isH.mo (isH.mo (isH.mo (isH.mo h5 (by decide) mo7) (by decide) mo13) (by decide) mo19) (by decide) mo29) ?_
        refine K_putI kc10 (pc2 := 64) 5 (dk D_X6_handBy 32 rfl) fl_6_116 (by decide) (Or.inl rfl) rfl rfl (isH.mo h27 (by decide) mo29) (isH.n69 (isH.mo h27 (by decide) mo29) (by decide)) ?_
        have h := h _ rfl
        refine K_p (pc2 := 65) (lv2 := [(0, vR 79), (1, vR _), (2, vI _), (3, vR _)]) (st2 := [vR 79]) (fun ad S Q _ k => V_aload_n (pc2 := 65) (dk D_X6_handBy 33 rfl) rfl (V_lg 0 rfl) rfl k) ?_
        refine K_p (pc2 := 66) (lv2 := [(0, vR 79), (1, vR _), (2, vI _), (3, vR _)]) (st2 := [vR _, vR 79]) (fun ad S Q _ k => V_aload_n (pc2 := 66) (dk D_X6_handBy 34 rfl) rfl (V_lg 1 rfl) rfl k) ?_
        refine K_getI kc10 (pc2 := 69) 0 (dk D_X6_handBy 35 rfl) fl_6_198 (by decide) (fun _ _ => rfl) rfl (isH.mo (isH.mo (isH.mo (isH.mo h5 (by decide) mo7) (by decide) mo13) (by decide) mo19) (by decide) mo29) ?_
        refine K_p (pc2 := 70) (lv2 := [(0, vR 79), (1, vR _), (2, vI _), (3, vR _)]) (st2 := [vR _, vI _, vR 79]) (fun ad S Q _ k => V_aload_n (pc2 := 70) (dk D_X6_handBy 36 rfl) rfl (V_lg 3 rfl) rfl k) ?_
        refine K_p (pc2 := 71) (lv2 := [(0, vR 79), (1, vR _), (2, vI _), (3, vR _)]) (st2 := [vI _, vR _, vI _, vR 79]) (fun ad S Q _ k => V_iload_n (pc2 := 71) (dk D_X6_handBy 37 rfl) rfl (V_lg 2 rfl) rfl k) ?_
        obtain ⟨e33, he34, hc35⟩ := h
        refine K_call (as := [vR 79, vI _, vR _, vI _]) (st := []) (pc2 := 74) (okL.all _ ⟨(Or.inr ⟨Or.inl ⟨by decide, by decide⟩, by decide⟩), (isH.ok (isH.mo (isH.mo (isH.mo (isH.mo h5 (by decide) mo7) (by decide) mo13) (by decide) mo19) (by decide) mo29) (by decide)), trivial, (isH.ok (isH.mo h27 (by decide) mo29) (by decide)), trivial⟩) (okS.all _ trivial) (fun ad S Q Qc hC hc k => V_callV (as := [_, _, _]) (st := []) (M' := MX6_give) (ci := 6) (pc2 := 74) (dk D_X6_handBy 38 rfl) ml_6_119 mv_X6_give rfl rfl (by decide) rfl (Nat.le_of_ble_eq_true rfl) rfl he34 (hC.k' (fixH 79 6 (by decide) rfl)) hc k) hc35 (kRV.k fun  κ36 h mo37 => ?_)
        exact h
  · have h := h.2 q20
    refine K_p (pc2 := 22) (lv2 := [(0, vR 79), (1, vR _), (2, vI _), (3, vR _)]) (st2 := [vR 79]) (fun ad S Q _ k => V_aload_n (pc2 := 22) (dk D_X6_handBy 11 rfl) rfl (V_lg 0 rfl) rfl k) ?_
    refine K_p (pc2 := 23) (lv2 := [(0, vR 79), (1, vR _), (2, vI _), (3, vR _)]) (st2 := [vR _, vR 79]) (fun ad S Q _ k => V_aload_n (pc2 := 23) (dk D_X6_handBy 12 rfl) rfl (V_lg 1 rfl) rfl k) ?_
    refine K_p (pc2 := 25) (lv2 := [(0, vR 79), (1, vR _), (2, vI _), (3, vR _)]) (st2 := [vI _, vR _, vR 79]) (fun ad S Q _ k => V_bipush (x := 10) (pc2 := 25) (dk D_X6_handBy 13 rfl) (by decide) rfl k) ?_
    obtain ⟨h41, h⟩ := h
    obtain ⟨e38, he39, hc40⟩ := h
    refine K_call (as := [vR 79, vR _, vI _]) (st := []) (pc2 := 28) (okL.all _ ⟨(Or.inr ⟨Or.inl ⟨by decide, by decide⟩, by decide⟩), (isH.ok (isH.mo (isH.mo (isH.mo h5 (by decide) mo7) (by decide) mo13) (by decide) mo19) (by decide)), trivial, h41, trivial⟩) (okS.all _ trivial) (fun ad S Q Qc hC hc k => V_callV (as := [_, _]) (st := []) (M' := MX6_raise) (ci := 6) (pc2 := 28) (dk D_X6_handBy 14 rfl) ml_6_195 mv_X6_raise rfl rfl (by decide) rfl (Nat.le_of_ble_eq_true rfl) rfl he39 (hC.k' (fixH 79 6 (by decide) rfl)) hc k) hc40 (kRV.k fun  κ42 h mo43 => ?_)
    refine K_p (pc2 := 74) (lv2 := [(0, vR 79), (1, vR _), (2, vI _), (3, vR _)]) (st2 := []) (fun ad S Q _ k => V_goto (tgt := 74) (dk D_X6_handBy 15 rfl) (by decide) k) ?_
    exact h
theorem k_6_leaveVoice_41z {X : Cx} {d : Nat} {κ : Km} {Q : Res → Km → Prop} (r1 : Nat) (x2 : Int32) (t1 : Nat) (t2 : Int32) (h : (isH κ r1 10) ∧ ∃ e1 : Nat, e1 + 1 ≤ d ∧ KC' X e1 MX6_end [vR 79, vR t1, vI t2] κ (kRV fun  κ5 => ((x2 = 0 → ∃ e8 : Nat, e8 + 1 ≤ d ∧ KC' X e8 MX4_add [vR 82, vI (kI κ5 r1 0), vI (kI κ5 r1 5)] κ5 (kRV fun  κ11 => ∀ κ13 : Km, κ13 = cI κ11 79 13 (kI κ11 r1 5) → ∃ e14 : Nat, e14 + 1 ≤ d ∧ KC' X e14 MX6_find [vR 79, vI (kI κ13 79 13)] κ13 (kRR fun p17 κ18 => (p17 = 0 ∨ live κ18 p17) ∧ ((p17 = 0 → (okv κ18 (vR p17)) ∧ ∃ e22 : Nat, e22 + 1 ≤ d ∧ KC' X e22 MX6_comeOut [vR 79] κ18 (kRV fun  κ26 => K X d MX6_leaveVoice 109 [(0, vR 79), (1, vR r1), (2, vI x2), (3, vR p17)] [] κ26 Q)) ∧ (¬ p17 = 0 → (isH κ18 p17 10) ∧ ∀ κ29 : Km, κ29 = cI κ18 p17 1 2 → K X d MX6_leaveVoice 109 [(0, vR 79), (1, vR r1), (2, vI x2), (3, vR p17)] [] κ29 Q))))) ∧ (¬ x2 = 0 → ∀ κ30 : Km, κ30 = cI κ5 79 14 0 → ∃ e31 : Nat, e31 + 1 ≤ d ∧ KC' X e31 MX6_goBack [vR 79, vR r1, vI 0, vI 1] κ30 (kRV fun  κ34 => Q (.inl none) κ34))))) : K X d MX6_leaveVoice 41 [(0, vR 79), (1, vR r1), (2, vI x2)] [vI t2, vR t1, vR 79] κ Q := by
  obtain ⟨h4, h⟩ := h
  obtain ⟨e1, he2, hc3⟩ := h
  refine K_call (as := [vR 79, vR _, vI _]) (st := []) (pc2 := 44) (okL.all _ ⟨(Or.inr ⟨Or.inl ⟨by decide, by decide⟩, by decide⟩), (isH.ok h4 (by decide)), trivial, trivial⟩) (okS.all _ trivial) (fun ad S Q Qc hC hc k => V_callV (as := [_, _]) (st := []) (M' := MX6_end) (ci := 6) (pc2 := 44) (dk D_X6_leaveVoice 21 rfl) ml_6_113 mv_X6_end rfl rfl (by decide) rfl (Nat.le_of_ble_eq_true rfl) rfl he2 (hC.k' (fixH 79 6 (by decide) rfl)) hc k) hc3 (kRV.k fun  κ5 h mo6 => ?_)
  refine K_p (pc2 := 45) (lv2 := [(0, vR 79), (1, vR _), (2, vI _)]) (st2 := [vI _]) (fun ad S Q _ k => V_iload_n (pc2 := 45) (dk D_X6_leaveVoice 22 rfl) rfl (V_lg 2 rfl) rfl k) ?_
  refine K_if (pa := 61) (pb := 48) (lv2 := [(0, vR 79), (1, vR _), (2, vI _)]) (st2 := []) (fun ad S Q _ k1 k2 => V_ifeq (tgt := 61) (pc2 := 48) (dk D_X6_leaveVoice 23 rfl) (by decide) rfl (fun q => k1 q) (fun q => k2 q)) (fun q7 => ?_) (fun q7 => ?_)
  · have h := h.1 q7
    refine K_p (pc2 := 62) (lv2 := [(0, vR 79), (1, vR _), (2, vI _)]) (st2 := [vR 79]) (fun ad S Q _ k => V_aload_n (pc2 := 62) (dk D_X6_leaveVoice 33 rfl) rfl (V_lg 0 rfl) rfl k) ?_
    refine K_getF kc6 (h' := 82) (pc2 := 65) 1 (by decide) (dk D_X6_leaveVoice 34 rfl) fl_6_18 (by decide) (fun _ _ => rfl) rfl (fixH 79 6 (by decide) rfl) (by decide) ?_
    refine K_p (pc2 := 66) (lv2 := [(0, vR 79), (1, vR _), (2, vI _)]) (st2 := [vR _, vR 82]) (fun ad S Q _ k => V_aload_n (pc2 := 66) (dk D_X6_leaveVoice 35 rfl) rfl (V_lg 1 rfl) rfl k) ?_
    refine K_getI kc10 (pc2 := 69) 0 (dk D_X6_leaveVoice 36 rfl) fl_6_198 (by decide) (fun _ _ => rfl) rfl (isH.mo h4 (by decide) mo6) ?_
    refine K_p (pc2 := 70) (lv2 := [(0, vR 79), (1, vR _), (2, vI _)]) (st2 := [vR _, vI _, vR 82]) (fun ad S Q _ k => V_aload_n (pc2 := 70) (dk D_X6_leaveVoice 37 rfl) rfl (V_lg 1 rfl) rfl k) ?_
    refine K_getI kc10 (pc2 := 73) 5 (dk D_X6_leaveVoice 38 rfl) fl_6_116 (by decide) (fun _ _ => rfl) rfl (isH.mo h4 (by decide) mo6) ?_
    obtain ⟨e8, he9, hc10⟩ := h
    refine K_call (as := [vR 82, vI _, vI _]) (st := []) (pc2 := 76) (okL.all _ ⟨(Or.inr ⟨Or.inl ⟨by decide, by decide⟩, by decide⟩), (isH.ok (isH.mo h4 (by decide) mo6) (by decide)), trivial, trivial⟩) (okS.all _ trivial) (fun ad S Q Qc hC hc k => V_callV (as := [_, _]) (st := []) (M' := MX4_add) (ci := 4) (pc2 := 76) (dk D_X6_leaveVoice 39 rfl) ml_6_215 mv_X4_add rfl rfl (by decide) rfl (Nat.le_of_ble_eq_true rfl) rfl he9 (hC.k' (fixH 82 4 (by decide) rfl)) hc k) hc10 (kRV.k fun  κ11 h mo12 => ?_)
    refine K_p (pc2 := 77) (lv2 := [(0, vR 79), (1, vR _), (2, vI _)]) (st2 := [vR 79]) (fun ad S Q _ k => V_aload_n (pc2 := 77) (dk D_X6_leaveVoice 40 rfl) rfl (V_lg 0 rfl) rfl k) ?_
    refine K_p (pc2 := 78) (lv2 := [(0, vR 79), (1, vR _), (2, vI _)]) (st2 := [vR _, vR 79]) (fun ad S Q _ k => V_aload_n (pc2 := 78) (dk D_X6_leaveVoice 41 rfl) rfl (V_lg 1 rfl) rfl k) ?_
    refine K_getI kc10 (pc2 := 81) 5 (dk D_X6_leaveVoice 42 rfl) fl_6_116 (by decide) (fun _ _ => rfl) rfl (isH.mo (isH.mo h4 (by decide) mo6) (by decide) mo12) ?_
    refine K_putI kc6 (pc2 := 84) 13 (dk D_X6_leaveVoice 43 rfl) fl_6_74 (by decide) (Or.inl rfl) rfl rfl (fixH 79 6 (by decide) rfl) (by decide) ?_
    have h := h _ rfl
    refine K_p (pc2 := 85) (lv2 := [(0, vR 79), (1, vR _), (2, vI _)]) (st2 := [vR 79]) (fun ad S Q _ k => V_aload_n (pc2 := 85) (dk D_X6_leaveVoice 44 rfl) rfl (V_lg 0 rfl) rfl k) ?_
    refine K_p (pc2 := 86) (lv2 := [(0, vR 79), (1, vR _), (2, vI _)]) (st2 := [vR 79, vR 79]) (fun ad S Q _ k => V_aload_n (pc2 := 86) (dk D_X6_leaveVoice 45 rfl) rfl (V_lg 0 rfl) rfl k) ?_
    refine K_getI kc6 (pc2 := 89) 13 (dk D_X6_leaveVoice 46 rfl) fl_6_74 (by decide) (fun _ _ => rfl) rfl (fixH 79 6 (by decide) rfl) ?_
    obtain ⟨e14, he15, hc16⟩ := h
    refine K_call (as := [vR 79, vI _]) (st := []) (pc2 := 92) (okL.all _ ⟨(Or.inr ⟨Or.inl ⟨by decide, by decide⟩, by decide⟩), (isH.ok (isH.mo (isH.mo h4 (by decide) mo6) (by decide) mo12) (by decide)), trivial, trivial⟩) (okS.all _ trivial) (fun ad S Q Qc hC hc k => V_callV (as := [_]) (st := []) (M' := MX6_find) (ci := 6) (pc2 := 92) (dk D_X6_leaveVoice 47 rfl) ml_6_106 mv_X6_find rfl rfl (by decide) rfl (Nat.le_of_ble_eq_true rfl) rfl he15 (hC.k' (fixH 79 6 (by decide) rfl)) hc k) hc16 (kRR.k fun p17 κ18 h mo19 => ?_)
    refine K_p (pc2 := 93) (lv2 := [(0, vR 79), (1, vR _), (2, vI _), (3, vR _)]) (st2 := []) (fun ad S Q _ k => V_astore_n (pc2 := 93) (lv2 := [(0, _), (1, _), (2, _), (3, _)]) (dk D_X6_leaveVoice 48 rfl) rfl (by decide) rfl rfl k) ?_
    refine K_p (pc2 := 94) (lv2 := [(0, vR 79), (1, vR _), (2, vI _), (3, vR _)]) (st2 := [vR _]) (fun ad S Q _ k => V_aload_n (pc2 := 94) (dk D_X6_leaveVoice 49 rfl) rfl (V_lg 3 rfl) rfl k) ?_
    obtain ⟨h21, h⟩ := h
    refine K_ifnonnull (tgt := 104) (pc2 := 97) (dk D_X6_leaveVoice 50 rfl) (by decide) rfl h21 (fun q20 => ?_) (fun q20 => ?_)
    · have h := h.1 q20
      refine K_p (pc2 := 98) (lv2 := [(0, vR 79), (1, vR _), (2, vI _), (3, vR _)]) (st2 := [vR 79]) (fun ad S Q _ k => V_aload_n (pc2 := 98) (dk D_X6_leaveVoice 51 rfl) rfl (V_lg 0 rfl) rfl k) ?_
      obtain ⟨h25, h⟩ := h
      obtain ⟨e22, he23, hc24⟩ := h
      refine K_call (as := [vR 79]) (st := []) (pc2 := 101) (okL.all _ ⟨(Or.inr ⟨Or.inl ⟨by decide, by decide⟩, by decide⟩), (isH.ok (isH.mo (isH.mo (isH.mo h4 (by decide) mo6) (by decide) mo12) (by decide) mo19) (by decide)), trivial, h25, trivial⟩) (okS.all _ trivial) (fun ad S Q Qc hC hc k => V_callV (as := []) (st := []) (M' := MX6_comeOut) (ci := 6) (pc2 := 101) (dk D_X6_leaveVoice 52 rfl) ml_6_287 mv_X6_comeOut rfl rfl (by decide) rfl (Nat.le_of_ble_eq_true rfl) rfl he23 (hC.k' (fixH 79 6 (by decide) rfl)) hc k) hc24 (kRV.k fun  κ26 h mo27 => ?_)
      refine K_p (pc2 := 109) (lv2 := [(0, vR 79), (1, vR _), (2, vI _), (3, vR _)]) (st2 := []) (fun ad S Q _ k => V_goto (tgt := 109) (dk D_X6_leaveVoice 53 rfl) (by decide) k) ?_
      exact h
    · have h := h.2 q20
      refine K_p (pc2 := 105) (lv2 := [(0, vR 79), (1, vR _), (2, vI _), (3, vR _)]) (st2 := [vR _]) (fun ad S Q _ k => V_aload_n (pc2 := 105) (dk D_X6_leaveVoice 54 rfl) rfl (V_lg 3 rfl) rfl k) ?_
      refine K_p (pc2 := 106) (lv2 := [(0, vR 79), (1, vR _), (2, vI _), (3, vR _)]) (st2 := [vI _, vR _]) (fun ad S Q _ k => V_iconst (x := 2) (pc2 := 106) (dk D_X6_leaveVoice 55 rfl) (by decide) rfl k) ?_
      obtain ⟨h28, h⟩ := h
      refine K_putI kc10 (pc2 := 109) 1 (dk D_X6_leaveVoice 56 rfl) fl_6_131 (by decide) (Or.inl rfl) rfl rfl h28 (isH.n69 h28 (by decide)) ?_
      have h := h _ rfl
      exact h
  · have h := h.2 q7
    refine K_p (pc2 := 49) (lv2 := [(0, vR 79), (1, vR _), (2, vI _)]) (st2 := [vR 79]) (fun ad S Q _ k => V_aload_n (pc2 := 49) (dk D_X6_leaveVoice 24 rfl) rfl (V_lg 0 rfl) rfl k) ?_
    refine K_p (pc2 := 50) (lv2 := [(0, vR 79), (1, vR _), (2, vI _)]) (st2 := [vI _, vR 79]) (fun ad S Q _ k => V_iconst (x := 0) (pc2 := 50) (dk D_X6_leaveVoice 25 rfl) (by decide) rfl k) ?_
    refine K_putI kc6 (pc2 := 53) 14 (dk D_X6_leaveVoice 26 rfl) fl_6_77 (by decide) (Or.inl rfl) rfl rfl (fixH 79 6 (by decide) rfl) (by decide) ?_
    have h := h _ rfl
    refine K_p (pc2 := 54) (lv2 := [(0, vR 79), (1, vR _), (2, vI _)]) (st2 := [vR 79]) (fun ad S Q _ k => V_aload_n (pc2 := 54) (dk D_X6_leaveVoice 27 rfl) rfl (V_lg 0 rfl) rfl k) ?_
    refine K_p (pc2 := 55) (lv2 := [(0, vR 79), (1, vR _), (2, vI _)]) (st2 := [vR _, vR 79]) (fun ad S Q _ k => V_aload_n (pc2 := 55) (dk D_X6_leaveVoice 28 rfl) rfl (V_lg 1 rfl) rfl k) ?_
    refine K_p (pc2 := 56) (lv2 := [(0, vR 79), (1, vR _), (2, vI _)]) (st2 := [vI _, vR _, vR 79]) (fun ad S Q _ k => V_iconst (x := 0) (pc2 := 56) (dk D_X6_leaveVoice 29 rfl) (by decide) rfl k) ?_
    refine K_p (pc2 := 57) (lv2 := [(0, vR 79), (1, vR _), (2, vI _)]) (st2 := [vI _, vI _, vR _, vR 79]) (fun ad S Q _ k => V_iconst (x := 1) (pc2 := 57) (dk D_X6_leaveVoice 30 rfl) (by decide) rfl k) ?_
    obtain ⟨e31, he32, hc33⟩ := h
    refine K_call (as := [vR 79, vR _, vI _, vI _]) (st := []) (pc2 := 60) (okL.all _ ⟨(Or.inr ⟨Or.inl ⟨by decide, by decide⟩, by decide⟩), (isH.ok (isH.mo h4 (by decide) mo6) (by decide)), trivial, trivial⟩) (okS.all _ trivial) (fun ad S Q Qc hC hc k => V_callV (as := [_, _, _]) (st := []) (M' := MX6_goBack) (ci := 6) (pc2 := 60) (dk D_X6_leaveVoice 31 rfl) ml_6_267 mv_X6_goBack rfl rfl (by decide) rfl (Nat.le_of_ble_eq_true rfl) rfl he32 (hC.k' (fixH 79 6 (by decide) rfl)) hc k) hc33 (kRV.k fun  κ34 h mo35 => ?_)
    exact K_ret (r := .inl none) (fun ad S Q _ k => V_return (dk D_X6_leaveVoice 32 rfl) rfl k) h
theorem k_6_misuse_0z {X : Cx} {d : Nat} {κ : Km} {Q : Res → Km → Prop} (r1 : Nat) (r2 : Nat) (h : (isH κ r1 10) ∧ (okv κ (vR r2) ∧ (r2 = 0 ∨ isH κ r2 10)) ∧ ∃ e1 : Nat, e1 + 1 ≤ d ∧ KC' X e1 MX6_raise [vR 79, vR r1, vI 10] κ (kRV fun  κ6 => ((r2 = 0 → K X d MX6_misuse 25 [(0, vR 79), (1, vR r1), (2, vR r2)] [] κ6 Q) ∧ (¬ r2 = 0 → ∃ e9 : Nat, e9 + 1 ≤ d ∧ KC' X e9 MX10_isReady [vR r2] κ6 (kRI fun y12 κ13 => ((y12 = 0 → ∃ e16 : Nat, e16 + 1 ≤ d ∧ KC' X e16 MX10_isOver [vR r2] κ13 (kRI fun y19 κ20 => ((y19 = 0 → ∀ κ23 : Km, κ23 = cI κ20 79 9 0 → K X d MX6_misuse 36 [(0, vR 79), (1, vR r1), (2, vR r2), (3, vR r1), (4, vI 0)] [] κ23 Q) ∧ (¬ y19 = 0 → K X d MX6_misuse 25 [(0, vR 79), (1, vR r1), (2, vR r2)] [] κ20 Q)))) ∧ (¬ y12 = 0 → K X d MX6_misuse 25 [(0, vR 79), (1, vR r1), (2, vR r2)] [] κ13 Q))))))) : K X d MX6_misuse 0 [(0, vR 79), (1, vR r1), (2, vR r2)] [] κ Q := by
  refine K_p (pc2 := 1) (lv2 := [(0, vR 79), (1, vR _), (2, vR _)]) (st2 := [vR 79]) (fun ad S Q _ k => V_aload_n (pc2 := 1) (dk D_X6_misuse 0 rfl) rfl (V_lg 0 rfl) rfl k) ?_
  refine K_p (pc2 := 2) (lv2 := [(0, vR 79), (1, vR _), (2, vR _)]) (st2 := [vR _, vR 79]) (fun ad S Q _ k => V_aload_n (pc2 := 2) (dk D_X6_misuse 1 rfl) rfl (V_lg 1 rfl) rfl k) ?_
  refine K_p (pc2 := 4) (lv2 := [(0, vR 79), (1, vR _), (2, vR _)]) (st2 := [vI _, vR _, vR 79]) (fun ad S Q _ k => V_bipush (x := 10) (pc2 := 4) (dk D_X6_misuse 2 rfl) (by decide) rfl k) ?_
  obtain ⟨h4, h⟩ := h
  obtain ⟨⟨h5a, h5b⟩, h⟩ := h
  obtain ⟨e1, he2, hc3⟩ := h
  refine K_call (as := [vR 79, vR _, vI _]) (st := []) (pc2 := 7) (okL.all _ ⟨(Or.inr ⟨Or.inl ⟨by decide, by decide⟩, by decide⟩), (isH.ok h4 (by decide)), h5a, trivial⟩) (okS.all _ trivial) (fun ad S Q Qc hC hc k => V_callV (as := [_, _]) (st := []) (M' := MX6_raise) (ci := 6) (pc2 := 7) (dk D_X6_misuse 3 rfl) ml_6_195 mv_X6_raise rfl rfl (by decide) rfl (Nat.le_of_ble_eq_true rfl) rfl he2 (hC.k' (fixH 79 6 (by decide) rfl)) hc k) hc3 (kRV.k fun  κ6 h mo7 => ?_)
  refine K_p (pc2 := 8) (lv2 := [(0, vR 79), (1, vR _), (2, vR _)]) (st2 := [vR _]) (fun ad S Q _ k => V_aload_n (pc2 := 8) (dk D_X6_misuse 4 rfl) rfl (V_lg 2 rfl) rfl k) ?_
  refine K_ifnull (tgt := 25) (pc2 := 11) (dk D_X6_misuse 5 rfl) (by decide) rfl (h5b.elim Or.inl (fun z => Or.inr (isH.mo z (by decide) mo7).1)) (fun q8 => ?_) (fun q8 => ?_)
  · have h := h.1 q8
    exact h
  · have h := h.2 q8
    have h5 := h5b.resolve_left q8
    refine K_p (pc2 := 12) (lv2 := [(0, vR 79), (1, vR _), (2, vR _)]) (st2 := [vR _]) (fun ad S Q _ k => V_aload_n (pc2 := 12) (dk D_X6_misuse 6 rfl) rfl (V_lg 2 rfl) rfl k) ?_
    obtain ⟨e9, he10, hc11⟩ := h
    refine K_call (as := [vR _]) (st := []) (pc2 := 15) (okL.all _ ⟨(Or.inr ⟨Or.inl ⟨by decide, by decide⟩, by decide⟩), (isH.ok (isH.mo h4 (by decide) mo7) (by decide)), (isH.ok (isH.mo h5 (by decide) mo7) (by decide)), trivial⟩) (okS.all _ trivial) (fun ad S Q Qc hC hc k => V_callV (as := []) (st := []) (M' := MX10_isReady) (ci := 10) (pc2 := 15) (dk D_X6_misuse 7 rfl) ml_6_270 mv_X10_isReady rfl rfl (by decide) rfl (Nat.le_of_ble_eq_true rfl) rfl he10 (hC.k' (isH.mo h5 (by decide) mo7)) hc k) hc11 (kRI.k fun y12 κ13 h mo14 => ?_)
    refine K_if (pa := 18) (pb := 25) (lv2 := [(0, vR 79), (1, vR _), (2, vR _)]) (st2 := []) (fun ad S Q _ k1 k2 => V_ifne (tgt := 25) (pc2 := 18) (dk D_X6_misuse 8 rfl) (by decide) rfl (fun q => k2 q) (fun q => k1 q)) (fun q15 => ?_) (fun q15 => ?_)
    · have h := h.1 q15
      refine K_p (pc2 := 19) (lv2 := [(0, vR 79), (1, vR _), (2, vR _)]) (st2 := [vR _]) (fun ad S Q _ k => V_aload_n (pc2 := 19) (dk D_X6_misuse 9 rfl) rfl (V_lg 2 rfl) rfl k) ?_
      obtain ⟨e16, he17, hc18⟩ := h
      refine K_call (as := [vR _]) (st := []) (pc2 := 22) (okL.all _ ⟨(Or.inr ⟨Or.inl ⟨by decide, by decide⟩, by decide⟩), (isH.ok (isH.mo (isH.mo h4 (by decide) mo7) (by decide) mo14) (by decide)), (isH.ok (isH.mo (isH.mo h5 (by decide) mo7) (by decide) mo14) (by decide)), trivial⟩) (okS.all _ trivial) (fun ad S Q Qc hC hc k => V_callV (as := []) (st := []) (M' := MX10_isOver) (ci := 10) (pc2 := 22) (dk D_X6_misuse 10 rfl) ml_6_110 mv_X10_isOver rfl rfl (by decide) rfl (Nat.le_of_ble_eq_true rfl) rfl he17 (hC.k' (isH.mo (isH.mo h5 (by decide) mo7) (by decide) mo14)) hc k) hc18 (kRI.k fun y19 κ20 h mo21 => ?_)
      refine K_if (pa := 26) (pb := 25) (lv2 := [(0, vR 79), (1, vR _), (2, vR _)]) (st2 := []) (fun ad S Q _ k1 k2 => V_ifeq (tgt := 26) (pc2 := 25) (dk D_X6_misuse 11 rfl) (by decide) rfl (fun q => k1 q) (fun q => k2 q)) (fun q22 => ?_) (fun q22 => ?_)
      · have h := h.1 q22
        refine K_p (pc2 := 27) (lv2 := [(0, vR 79), (1, vR _), (2, vR _)]) (st2 := [vR 79]) (fun ad S Q _ k => V_aload_n (pc2 := 27) (dk D_X6_misuse 13 rfl) rfl (V_lg 0 rfl) rfl k) ?_
        refine K_p (pc2 := 28) (lv2 := [(0, vR 79), (1, vR _), (2, vR _)]) (st2 := [vI _, vR 79]) (fun ad S Q _ k => V_iconst (x := 0) (pc2 := 28) (dk D_X6_misuse 14 rfl) (by decide) rfl k) ?_
        refine K_putI kc6 (pc2 := 31) 9 (dk D_X6_misuse 15 rfl) fl_6_61 (by decide) (Or.inl rfl) rfl rfl (fixH 79 6 (by decide) rfl) (by decide) ?_
        have h := h _ rfl
        refine K_p (pc2 := 32) (lv2 := [(0, vR 79), (1, vR _), (2, vR _)]) (st2 := [vR _]) (fun ad S Q _ k => V_aload_n (pc2 := 32) (dk D_X6_misuse 16 rfl) rfl (V_lg 1 rfl) rfl k) ?_
        refine K_p (pc2 := 33) (lv2 := [(0, vR 79), (1, vR _), (2, vR _), (3, vR _)]) (st2 := []) (fun ad S Q _ k => V_astore_n (pc2 := 33) (lv2 := [(0, _), (1, _), (2, _), (3, _)]) (dk D_X6_misuse 17 rfl) rfl (by decide) rfl rfl k) ?_
        refine K_p (pc2 := 34) (lv2 := [(0, vR 79), (1, vR _), (2, vR _), (3, vR _)]) (st2 := [vI _]) (fun ad S Q _ k => V_iconst (x := 0) (pc2 := 34) (dk D_X6_misuse 18 rfl) (by decide) rfl k) ?_
        refine K_p (pc2 := 36) (lv2 := [(0, vR 79), (1, vR _), (2, vR _), (3, vR _), (4, vI _)]) (st2 := []) (fun ad S Q _ k => V_istore (pc2 := 36) (lv2 := [(0, _), (1, _), (2, _), (3, _), (4, _)]) (dk D_X6_misuse 19 rfl) (by decide) rfl rfl k) ?_
        exact h
      · have h := h.2 q22
        exact h
    · have h := h.2 q15
      exact h
