theorem k_10_reset_0 {X : Cx} {d : Nat} {κ : Km} {Q : Res → Km → Prop} (r0 : Nat) (x1 : Int32) (x2 : Int32) (x3 : Int32) (x4 : Int32) (h : (isH κ r0 10) ∧ ∀ κ2 : Km, κ2 = cI κ r0 0 x1 → ∀ κ3 : Km, κ3 = cI κ2 r0 2 x2 → ∀ κ4 : Km, κ4 = cI κ3 r0 3 x3 → ∀ κ5 : Km, κ5 = cI κ4 r0 4 x4 → ∀ κ6 : Km, κ6 = cI κ5 r0 1 0 → ∀ κ7 : Km, κ7 = cI κ6 r0 5 (-9) → ∀ κ8 : Km, κ8 = cI κ7 r0 6 0 → ∀ κ9 : Km, κ9 = cI κ8 r0 7 0 → ∀ κ10 : Km, κ10 = cI κ9 r0 8 0 → ∀ κ11 : Km, κ11 = cI κ10 r0 11 0 → Q (.inl none) κ11) : K X d MX10_reset 0 [(0, vR r0), (1, vI x1), (2, vI x2), (3, vI x3), (4, vI x4)] [] κ Q := by
  refine K_p (pc2 := 1) (lv2 := [(0, vR _), (1, vI _), (2, vI _), (3, vI _), (4, vI _)]) (st2 := [vR _]) (fun ad S Q _ k => V_aload_n (pc2 := 1) (dk D_X10_reset 0 rfl) rfl (V_lg 0 rfl) rfl k) ?_
  refine K_p (pc2 := 2) (lv2 := [(0, vR _), (1, vI _), (2, vI _), (3, vI _), (4, vI _)]) (st2 := [vI _, vR _]) (fun ad S Q _ k => V_iload_n (pc2 := 2) (dk D_X10_reset 1 rfl) rfl (V_lg 1 rfl) rfl k) ?_
  obtain ⟨h1, h⟩ := h
  refine K_putI kc10 (pc2 := 5) 0 (dk D_X10_reset 2 rfl) fl_10_18 (by decide) (Or.inl rfl) rfl rfl h1 (isH.n69 h1 (by decide)) ?_
  have h := h _ rfl
  refine K_p (pc2 := 6) (lv2 := [(0, vR _), (1, vI _), (2, vI _), (3, vI _), (4, vI _)]) (st2 := [vR _]) (fun ad S Q _ k => V_aload_n (pc2 := 6) (dk D_X10_reset 3 rfl) rfl (V_lg 0 rfl) rfl k) ?_
  refine K_p (pc2 := 7) (lv2 := [(0, vR _), (1, vI _), (2, vI _), (3, vI _), (4, vI _)]) (st2 := [vI _, vR _]) (fun ad S Q _ k => V_iload_n (pc2 := 7) (dk D_X10_reset 4 rfl) rfl (V_lg 2 rfl) rfl k) ?_
  refine K_putI kc10 (pc2 := 10) 2 (dk D_X10_reset 5 rfl) fl_10_22 (by decide) (Or.inl rfl) rfl rfl h1 (isH.n69 h1 (by decide)) ?_
  have h := h _ rfl
  refine K_p (pc2 := 11) (lv2 := [(0, vR _), (1, vI _), (2, vI _), (3, vI _), (4, vI _)]) (st2 := [vR _]) (fun ad S Q _ k => V_aload_n (pc2 := 11) (dk D_X10_reset 6 rfl) rfl (V_lg 0 rfl) rfl k) ?_
  refine K_p (pc2 := 12) (lv2 := [(0, vR _), (1, vI _), (2, vI _), (3, vI _), (4, vI _)]) (st2 := [vI _, vR _]) (fun ad S Q _ k => V_iload_n (pc2 := 12) (dk D_X10_reset 7 rfl) rfl (V_lg 3 rfl) rfl k) ?_
  refine K_putI kc10 (pc2 := 15) 3 (dk D_X10_reset 8 rfl) fl_10_25 (by decide) (Or.inl rfl) rfl rfl h1 (isH.n69 h1 (by decide)) ?_
  have h := h _ rfl
  refine K_p (pc2 := 16) (lv2 := [(0, vR _), (1, vI _), (2, vI _), (3, vI _), (4, vI _)]) (st2 := [vR _]) (fun ad S Q _ k => V_aload_n (pc2 := 16) (dk D_X10_reset 9 rfl) rfl (V_lg 0 rfl) rfl k) ?_
  refine K_p (pc2 := 18) (lv2 := [(0, vR _), (1, vI _), (2, vI _), (3, vI _), (4, vI _)]) (st2 := [vI _, vR _]) (fun ad S Q _ k => V_iload (pc2 := 18) (dk D_X10_reset 10 rfl) (V_lg 4 rfl) rfl k) ?_
  refine K_putI kc10 (pc2 := 21) 4 (dk D_X10_reset 11 rfl) fl_10_28 (by decide) (Or.inl rfl) rfl rfl h1 (isH.n69 h1 (by decide)) ?_
  have h := h _ rfl
  refine K_p (pc2 := 22) (lv2 := [(0, vR _), (1, vI _), (2, vI _), (3, vI _), (4, vI _)]) (st2 := [vR _]) (fun ad S Q _ k => V_aload_n (pc2 := 22) (dk D_X10_reset 12 rfl) rfl (V_lg 0 rfl) rfl k) ?_
  refine K_p (pc2 := 23) (lv2 := [(0, vR _), (1, vI _), (2, vI _), (3, vI _), (4, vI _)]) (st2 := [vI _, vR _]) (fun ad S Q _ k => V_iconst (x := 0) (pc2 := 23) (dk D_X10_reset 13 rfl) (by decide) rfl k) ?_
  refine K_putI kc10 (pc2 := 26) 1 (dk D_X10_reset 14 rfl) fl_10_31 (by decide) (Or.inl rfl) rfl rfl h1 (isH.n69 h1 (by decide)) ?_
  have h := h _ rfl
  refine K_p (pc2 := 27) (lv2 := [(0, vR _), (1, vI _), (2, vI _), (3, vI _), (4, vI _)]) (st2 := [vR _]) (fun ad S Q _ k => V_aload_n (pc2 := 27) (dk D_X10_reset 15 rfl) rfl (V_lg 0 rfl) rfl k) ?_
  refine K_p (pc2 := 29) (lv2 := [(0, vR _), (1, vI _), (2, vI _), (3, vI _), (4, vI _)]) (st2 := [vI _, vR _]) (fun ad S Q _ k => V_bipush (x := (-9)) (pc2 := 29) (dk D_X10_reset 16 rfl) (by decide) rfl k) ?_
  refine K_putI kc10 (pc2 := 32) 5 (dk D_X10_reset 17 rfl) fl_10_34 (by decide) (Or.inl rfl) rfl rfl h1 (isH.n69 h1 (by decide)) ?_
  have h := h _ rfl
  refine K_p (pc2 := 33) (lv2 := [(0, vR _), (1, vI _), (2, vI _), (3, vI _), (4, vI _)]) (st2 := [vR _]) (fun ad S Q _ k => V_aload_n (pc2 := 33) (dk D_X10_reset 18 rfl) rfl (V_lg 0 rfl) rfl k) ?_
  refine K_p (pc2 := 34) (lv2 := [(0, vR _), (1, vI _), (2, vI _), (3, vI _), (4, vI _)]) (st2 := [vI _, vR _]) (fun ad S Q _ k => V_iconst (x := 0) (pc2 := 34) (dk D_X10_reset 19 rfl) (by decide) rfl k) ?_
  refine K_putI kc10 (pc2 := 37) 6 (dk D_X10_reset 20 rfl) fl_10_37 (by decide) (Or.inl rfl) rfl rfl h1 (isH.n69 h1 (by decide)) ?_
  have h := h _ rfl
  refine K_p (pc2 := 38) (lv2 := [(0, vR _), (1, vI _), (2, vI _), (3, vI _), (4, vI _)]) (st2 := [vR _]) (fun ad S Q _ k => V_aload_n (pc2 := 38) (dk D_X10_reset 21 rfl) rfl (V_lg 0 rfl) rfl k) ?_
  refine K_p (pc2 := 39) (lv2 := [(0, vR _), (1, vI _), (2, vI _), (3, vI _), (4, vI _)]) (st2 := [vI _, vR _]) (fun ad S Q _ k => V_iconst (x := 0) (pc2 := 39) (dk D_X10_reset 22 rfl) (by decide) rfl k) ?_
  refine K_putI kc10 (pc2 := 42) 7 (dk D_X10_reset 23 rfl) fl_10_40 (by decide) (Or.inl rfl) rfl rfl h1 (isH.n69 h1 (by decide)) ?_
  have h := h _ rfl
  refine K_p (pc2 := 43) (lv2 := [(0, vR _), (1, vI _), (2, vI _), (3, vI _), (4, vI _)]) (st2 := [vR _]) (fun ad S Q _ k => V_aload_n (pc2 := 43) (dk D_X10_reset 24 rfl) rfl (V_lg 0 rfl) rfl k) ?_
  refine K_p (pc2 := 44) (lv2 := [(0, vR _), (1, vI _), (2, vI _), (3, vI _), (4, vI _)]) (st2 := [vI _, vR _]) (fun ad S Q _ k => V_iconst (x := 0) (pc2 := 44) (dk D_X10_reset 25 rfl) (by decide) rfl k) ?_
  refine K_putI kc10 (pc2 := 47) 8 (dk D_X10_reset 26 rfl) fl_10_43 (by decide) (Or.inl rfl) rfl rfl h1 (isH.n69 h1 (by decide)) ?_
  have h := h _ rfl
  refine K_p (pc2 := 48) (lv2 := [(0, vR _), (1, vI _), (2, vI _), (3, vI _), (4, vI _)]) (st2 := [vR _]) (fun ad S Q _ k => V_aload_n (pc2 := 48) (dk D_X10_reset 27 rfl) rfl (V_lg 0 rfl) rfl k) ?_
  refine K_p (pc2 := 49) (lv2 := [(0, vR _), (1, vI _), (2, vI _), (3, vI _), (4, vI _)]) (st2 := [vI _, vR _]) (fun ad S Q _ k => V_iconst (x := 0) (pc2 := 49) (dk D_X10_reset 28 rfl) (by decide) rfl k) ?_
  refine K_putZ kc10 (pc2 := 52) 11 (dk D_X10_reset 29 rfl) fl_10_46 (by decide) (Or.inl rfl) rfl rfl h1 (isH.n69 h1 (by decide)) (Or.inl rfl) ?_
  have h := h _ rfl
  exact K_ret (r := .inl none) (fun ad S Q _ k => V_return (dk D_X10_reset 30 rfl) rfl k) h
theorem k_10_isOver_0 {X : Cx} {d : Nat} {κ : Km} {Q : Res → Km → Prop} (r0 : Nat) (h : (isH κ r0 10) ∧ (((kI κ r0 1) < 4 → K X d MX10_isOver 13 [(0, vR r0)] [vI 0] κ Q) ∧ (¬ (kI κ r0 1) < 4 → K X d MX10_isOver 13 [(0, vR r0)] [vI 1] κ Q))) : K X d MX10_isOver 0 [(0, vR r0)] [] κ Q := by
  refine K_p (pc2 := 1) (lv2 := [(0, vR _)]) (st2 := [vR _]) (fun ad S Q _ k => V_aload_n (pc2 := 1) (dk D_X10_isOver 0 rfl) rfl (V_lg 0 rfl) rfl k) ?_
  obtain ⟨h1, h⟩ := h
  refine K_getI kc10 (pc2 := 4) 1 (dk D_X10_isOver 1 rfl) fl_10_31 (by decide) (fun _ _ => rfl) rfl h1 ?_
  refine K_p (pc2 := 5) (lv2 := [(0, vR _)]) (st2 := [vI _, vI _]) (fun ad S Q _ k => V_iconst (x := 4) (pc2 := 5) (dk D_X10_isOver 2 rfl) (by decide) rfl k) ?_
  refine K_if (pa := 12) (pb := 8) (lv2 := [(0, vR _)]) (st2 := []) (fun ad S Q _ k1 k2 => V_cmplt (tgt := 12) (pc2 := 8) (dk D_X10_isOver 3 rfl) (by decide) rfl (fun q => k1 q) (fun q => k2 q)) (fun q2 => ?_) (fun q2 => ?_)
  · have h := h.1 q2
    refine K_p (pc2 := 13) (lv2 := [(0, vR _)]) (st2 := [vI _]) (fun ad S Q _ k => V_iconst (x := 0) (pc2 := 13) (dk D_X10_isOver 6 rfl) (by decide) rfl k) ?_
    exact h
  · have h := h.2 q2
    refine K_p (pc2 := 9) (lv2 := [(0, vR _)]) (st2 := [vI _]) (fun ad S Q _ k => V_iconst (x := 1) (pc2 := 9) (dk D_X10_isOver 4 rfl) (by decide) rfl k) ?_
    refine K_p (pc2 := 13) (lv2 := [(0, vR _)]) (st2 := [vI _]) (fun ad S Q _ k => V_goto (tgt := 13) (dk D_X10_isOver 5 rfl) (by decide) k) ?_
    exact h
theorem k_10_isOver_13 {X : Cx} {d : Nat} {κ : Km} {Q : Res → Km → Prop} (r0 : Nat) (t0 : Int32) (h : (t0 = 0 ∨ t0 = 1) ∧ Q (.inl (some (vI t0))) κ) : K X d MX10_isOver 13 [(0, vR r0)] [vI t0] κ Q := by
  obtain ⟨h1, h⟩ := h
  exact K_ret (r := .inl (some (vI _))) (fun ad S Q _ k => V_zreturn (dk D_X10_isOver 7 rfl) rfl h1 k) h
theorem k_10_isReady_0 {X : Cx} {d : Nat} {κ : Km} {Q : Res → Km → Prop} (r0 : Nat) (h : (isH κ r0 10) ∧ (((kI κ r0 1) = 0 → K X d MX10_isReady 15 [(0, vR r0)] [] κ Q) ∧ (¬ (kI κ r0 1) = 0 → (((kI κ r0 1) = 1 → K X d MX10_isReady 15 [(0, vR r0)] [] κ Q) ∧ (¬ (kI κ r0 1) = 1 → K X d MX10_isReady 20 [(0, vR r0)] [vI 0] κ Q))))) : K X d MX10_isReady 0 [(0, vR r0)] [] κ Q := by
  refine K_p (pc2 := 1) (lv2 := [(0, vR _)]) (st2 := [vR _]) (fun ad S Q _ k => V_aload_n (pc2 := 1) (dk D_X10_isReady 0 rfl) rfl (V_lg 0 rfl) rfl k) ?_
  obtain ⟨h1, h⟩ := h
  refine K_getI kc10 (pc2 := 4) 1 (dk D_X10_isReady 1 rfl) fl_10_31 (by decide) (fun _ _ => rfl) rfl h1 ?_
  refine K_if (pa := 15) (pb := 7) (lv2 := [(0, vR _)]) (st2 := []) (fun ad S Q _ k1 k2 => V_ifeq (tgt := 15) (pc2 := 7) (dk D_X10_isReady 2 rfl) (by decide) rfl (fun q => k1 q) (fun q => k2 q)) (fun q2 => ?_) (fun q2 => ?_)
  · have h := h.1 q2
    exact h
  · have h := h.2 q2
    refine K_p (pc2 := 8) (lv2 := [(0, vR _)]) (st2 := [vR _]) (fun ad S Q _ k => V_aload_n (pc2 := 8) (dk D_X10_isReady 3 rfl) rfl (V_lg 0 rfl) rfl k) ?_
    refine K_getI kc10 (pc2 := 11) 1 (dk D_X10_isReady 4 rfl) fl_10_31 (by decide) (fun _ _ => rfl) rfl h1 ?_
    refine K_p (pc2 := 12) (lv2 := [(0, vR _)]) (st2 := [vI _, vI _]) (fun ad S Q _ k => V_iconst (x := 1) (pc2 := 12) (dk D_X10_isReady 5 rfl) (by decide) rfl k) ?_
    refine K_if (pa := 15) (pb := 19) (lv2 := [(0, vR _)]) (st2 := []) (fun ad S Q _ k1 k2 => V_cmpne (tgt := 19) (pc2 := 15) (dk D_X10_isReady 6 rfl) (by decide) rfl (fun q => k2 q) (fun q => k1 q)) (fun q3 => ?_) (fun q3 => ?_)
    · have h := h.1 q3
      exact h
    · have h := h.2 q3
      refine K_p (pc2 := 20) (lv2 := [(0, vR _)]) (st2 := [vI _]) (fun ad S Q _ k => V_iconst (x := 0) (pc2 := 20) (dk D_X10_isReady 9 rfl) (by decide) rfl k) ?_
      exact h
theorem k_10_isReady_15 {X : Cx} {d : Nat} {κ : Km} {Q : Res → Km → Prop} (r0 : Nat) (h : K X d MX10_isReady 20 [(0, vR r0)] [vI 1] κ Q) : K X d MX10_isReady 15 [(0, vR r0)] [] κ Q := by
  refine K_p (pc2 := 16) (lv2 := [(0, vR _)]) (st2 := [vI _]) (fun ad S Q _ k => V_iconst (x := 1) (pc2 := 16) (dk D_X10_isReady 7 rfl) (by decide) rfl k) ?_
  refine K_p (pc2 := 20) (lv2 := [(0, vR _)]) (st2 := [vI _]) (fun ad S Q _ k => V_goto (tgt := 20) (dk D_X10_isReady 8 rfl) (by decide) k) ?_
  exact h
theorem k_10_isReady_20 {X : Cx} {d : Nat} {κ : Km} {Q : Res → Km → Prop} (r0 : Nat) (t0 : Int32) (h : (t0 = 0 ∨ t0 = 1) ∧ Q (.inl (some (vI t0))) κ) : K X d MX10_isReady 20 [(0, vR r0)] [vI t0] κ Q := by
  obtain ⟨h1, h⟩ := h
  exact K_ret (r := .inl (some (vI _))) (fun ad S Q _ k => V_zreturn (dk D_X10_isReady 10 rfl) rfl h1 k) h
theorem k_10_isLost_0 {X : Cx} {d : Nat} {κ : Km} {Q : Res → Km → Prop} (r0 : Nat) (h : (isH κ r0 10) ∧ (((kI κ r0 10) = 0 → ∃ e3 : Nat, e3 + 1 ≤ d ∧ KC' X e3 MX10_isOver [vR r0] κ (kRI fun y6 κ7 => ((y6 = 0 → K X d MX10_isLost 19 [(0, vR r0)] [vI 1] κ7 Q) ∧ (¬ y6 = 0 → K X d MX10_isLost 18 [(0, vR r0)] [] κ7 Q)))) ∧ (¬ (kI κ r0 10) = 0 → K X d MX10_isLost 18 [(0, vR r0)] [] κ Q))) : K X d MX10_isLost 0 [(0, vR r0)] [] κ Q := by
  refine K_p (pc2 := 1) (lv2 := [(0, vR _)]) (st2 := [vR _]) (fun ad S Q _ k => V_aload_n (pc2 := 1) (dk D_X10_isLost 0 rfl) rfl (V_lg 0 rfl) rfl k) ?_
  obtain ⟨h1, h⟩ := h
  refine K_getI kc10 (pc2 := 4) 10 (dk D_X10_isLost 1 rfl) fl_10_50 (by decide) (fun _ _ => rfl) rfl h1 ?_
  refine K_if (pa := 7) (pb := 18) (lv2 := [(0, vR _)]) (st2 := []) (fun ad S Q _ k1 k2 => V_ifne (tgt := 18) (pc2 := 7) (dk D_X10_isLost 2 rfl) (by decide) rfl (fun q => k2 q) (fun q => k1 q)) (fun q2 => ?_) (fun q2 => ?_)
  · have h := h.1 q2
    refine K_p (pc2 := 8) (lv2 := [(0, vR _)]) (st2 := [vR _]) (fun ad S Q _ k => V_aload_n (pc2 := 8) (dk D_X10_isLost 3 rfl) rfl (V_lg 0 rfl) rfl k) ?_
    obtain ⟨e3, he4, hc5⟩ := h
    refine K_call (as := [vR _]) (st := []) (pc2 := 11) (okL.all _ ⟨(isH.ok h1 (by decide)), trivial⟩) (okS.all _ trivial) (fun ad S Q Qc hC hc k => V_callV (as := []) (st := []) (M' := MX10_isOver) (ci := 10) (pc2 := 11) (dk D_X10_isLost 4 rfl) ml_10_53 mv_X10_isOver rfl rfl (by decide) rfl (Nat.le_of_ble_eq_true rfl) rfl he4 (hC.k' h1) hc k) hc5 (kRI.k fun y6 κ7 h mo8 => ?_)
    refine K_if (pa := 14) (pb := 18) (lv2 := [(0, vR _)]) (st2 := []) (fun ad S Q _ k1 k2 => V_ifne (tgt := 18) (pc2 := 14) (dk D_X10_isLost 5 rfl) (by decide) rfl (fun q => k2 q) (fun q => k1 q)) (fun q9 => ?_) (fun q9 => ?_)
    · have h := h.1 q9
      refine K_p (pc2 := 15) (lv2 := [(0, vR _)]) (st2 := [vI _]) (fun ad S Q _ k => V_iconst (x := 1) (pc2 := 15) (dk D_X10_isLost 6 rfl) (by decide) rfl k) ?_
      refine K_p (pc2 := 19) (lv2 := [(0, vR _)]) (st2 := [vI _]) (fun ad S Q _ k => V_goto (tgt := 19) (dk D_X10_isLost 7 rfl) (by decide) k) ?_
      exact h
    · have h := h.2 q9
      exact h
  · have h := h.2 q2
    exact h
theorem k_10_isLost_18 {X : Cx} {d : Nat} {κ : Km} {Q : Res → Km → Prop} (r0 : Nat) (h : K X d MX10_isLost 19 [(0, vR r0)] [vI 0] κ Q) : K X d MX10_isLost 18 [(0, vR r0)] [] κ Q := by
  refine K_p (pc2 := 19) (lv2 := [(0, vR _)]) (st2 := [vI _]) (fun ad S Q _ k => V_iconst (x := 0) (pc2 := 19) (dk D_X10_isLost 8 rfl) (by decide) rfl k) ?_
  exact h
theorem k_10_isLost_19 {X : Cx} {d : Nat} {κ : Km} {Q : Res → Km → Prop} (r0 : Nat) (t0 : Int32) (h : (t0 = 0 ∨ t0 = 1) ∧ Q (.inl (some (vI t0))) κ) : K X d MX10_isLost 19 [(0, vR r0)] [vI t0] κ Q := by
  obtain ⟨h1, h⟩ := h
  exact K_ret (r := .inl (some (vI _))) (fun ad S Q _ k => V_zreturn (dk D_X10_isLost 9 rfl) rfl h1 k) h
theorem k_10_pop_0 {X : Cx} {d : Nat} {κ : Km} {Q : Res → Km → Prop} (r0 : Nat) (h : (isH κ r0 10) ∧ (((kI κ r0 13) ≤ 0 → K X d MX10_pop 19 [(0, vR r0)] [] κ Q) ∧ (¬ (kI κ r0 13) ≤ 0 → (((kI κ r0 13) ≤ (nI (kW κ (r0 + 1))) → ∀ κ4 : Km, κ4 = cI κ r0 13 ((kI κ r0 13) - 1) → (isH κ4 (r0 + 1) 21) ∧ (vp_in (kI κ4 r0 13) (kW κ4 (r0 + 1))) ∧ Q (.inl (some (vI (kI κ4 (r0 + 1) ((kI κ4 r0 13) : Int32).toNatClampNeg)))) κ4) ∧ (¬ (kI κ r0 13) ≤ (nI (kW κ (r0 + 1))) → K X d MX10_pop 19 [(0, vR r0)] [] κ Q))))) : K X d MX10_pop 0 [(0, vR r0)] [] κ Q := by
  refine K_p (pc2 := 1) (lv2 := [(0, vR _)]) (st2 := [vR _]) (fun ad S Q _ k => V_aload_n (pc2 := 1) (dk D_X10_pop 0 rfl) rfl (V_lg 0 rfl) rfl k) ?_
  obtain ⟨h1, h⟩ := h
  refine K_getI kc10 (pc2 := 4) 13 (dk D_X10_pop 1 rfl) fl_10_61 (by decide) (fun _ _ => rfl) rfl h1 ?_
  refine K_if (pa := 19) (pb := 7) (lv2 := [(0, vR _)]) (st2 := []) (fun ad S Q _ k1 k2 => V_ifle (tgt := 19) (pc2 := 7) (dk D_X10_pop 2 rfl) (by decide) rfl (fun q => k1 q) (fun q => k2 q)) (fun q2 => ?_) (fun q2 => ?_)
  · have h := h.1 q2
    exact h
  · have h := h.2 q2
    refine K_p (pc2 := 8) (lv2 := [(0, vR _)]) (st2 := [vR _]) (fun ad S Q _ k => V_aload_n (pc2 := 8) (dk D_X10_pop 3 rfl) rfl (V_lg 0 rfl) rfl k) ?_
    refine K_getI kc10 (pc2 := 11) 13 (dk D_X10_pop 4 rfl) fl_10_61 (by decide) (fun _ _ => rfl) rfl h1 ?_
    refine K_p (pc2 := 12) (lv2 := [(0, vR _)]) (st2 := [vR _, vI _]) (fun ad S Q _ k => V_aload_n (pc2 := 12) (dk D_X10_pop 5 rfl) rfl (V_lg 0 rfl) rfl k) ?_
    refine K_getV (pc2 := 15) (dk D_X10_pop 6 rfl) fl_10_15 rfl h1 ?_
    refine K_alenV (pc2 := 16) (dk D_X10_pop 7 rfl) rfl h1 ?_
    refine K_if (pa := 21) (pb := 19) (lv2 := [(0, vR _)]) (st2 := []) (fun ad S Q _ k1 k2 => V_cmple (tgt := 21) (pc2 := 19) (dk D_X10_pop 8 rfl) (by decide) rfl (fun q => k1 q) (fun q => k2 q)) (fun q3 => ?_) (fun q3 => ?_)
    · have h := h.1 q3
      refine K_p (pc2 := 22) (lv2 := [(0, vR _)]) (st2 := [vR _]) (fun ad S Q _ k => V_aload_n (pc2 := 22) (dk D_X10_pop 11 rfl) rfl (V_lg 0 rfl) rfl k) ?_
      refine K_p (pc2 := 23) (lv2 := [(0, vR _)]) (st2 := [vR _, vR _]) (fun ad S Q _ k => V_dup (pc2 := 23) (dk D_X10_pop 12 rfl) rfl rfl k) ?_
      refine K_getI kc10 (pc2 := 26) 13 (dk D_X10_pop 13 rfl) fl_10_61 (by decide) (fun _ _ => rfl) rfl h1 ?_
      refine K_p (pc2 := 27) (lv2 := [(0, vR _)]) (st2 := [vI _, vI _, vR _]) (fun ad S Q _ k => V_iconst (x := 1) (pc2 := 27) (dk D_X10_pop 14 rfl) (by decide) rfl k) ?_
      refine K_p (pc2 := 28) (lv2 := [(0, vR _)]) (st2 := [vI _, vR _]) (fun ad S Q _ k => V_isub (pc2 := 28) (dk D_X10_pop 15 rfl) rfl k) ?_
      refine K_putI kc10 (pc2 := 31) 13 (dk D_X10_pop 16 rfl) fl_10_61 (by decide) (Or.inl rfl) rfl rfl h1 (isH.n69 h1 (by decide)) ?_
      have h := h _ rfl
      refine K_p (pc2 := 32) (lv2 := [(0, vR _)]) (st2 := [vR _]) (fun ad S Q _ k => V_aload_n (pc2 := 32) (dk D_X10_pop 17 rfl) rfl (V_lg 0 rfl) rfl k) ?_
      refine K_getV (pc2 := 35) (dk D_X10_pop 18 rfl) fl_10_15 rfl h1 ?_
      refine K_p (pc2 := 36) (lv2 := [(0, vR _)]) (st2 := [vR _, vR _]) (fun ad S Q _ k => V_aload_n (pc2 := 36) (dk D_X10_pop 19 rfl) rfl (V_lg 0 rfl) rfl k) ?_
      refine K_getI kc10 (pc2 := 39) 13 (dk D_X10_pop 20 rfl) fl_10_61 (by decide) (fun _ _ => rfl) rfl h1 ?_
      obtain ⟨h5, h⟩ := h
      obtain ⟨h6, h⟩ := h
      refine K_iald (pc2 := 40) (dk D_X10_pop 21 rfl) rfl h5 h6 ?_
      exact K_ret (r := .inl (some (vI _))) (fun ad S Q _ k => V_ireturn (dk D_X10_pop 22 rfl) rfl k) h
    · have h := h.2 q3
      exact h
theorem k_10_pop_19 {X : Cx} {d : Nat} {κ : Km} {Q : Res → Km → Prop} (r0 : Nat) (h : Q (.inl (some (vI 0))) κ) : K X d MX10_pop 19 [(0, vR r0)] [] κ Q := by
  refine K_p (pc2 := 20) (lv2 := [(0, vR _)]) (st2 := [vI _]) (fun ad S Q _ k => V_iconst (x := 0) (pc2 := 20) (dk D_X10_pop 9 rfl) (by decide) rfl k) ?_
  exact K_ret (r := .inl (some (vI _))) (fun ad S Q _ k => V_ireturn (dk D_X10_pop 10 rfl) rfl k) h
theorem k_10_peek_0 {X : Cx} {d : Nat} {κ : Km} {Q : Res → Km → Prop} (r0 : Nat) (h : (isH κ r0 10) ∧ ∃ e2 : Nat, e2 + 1 ≤ d ∧ KC' X e2 MX10_cell [vR r0, vI ((kI κ r0 13) - 1)] κ (kRI fun y5 κ6 => Q (.inl (some (vI y5))) κ6)) : K X d MX10_peek 0 [(0, vR r0)] [] κ Q := by
  refine K_p (pc2 := 1) (lv2 := [(0, vR _)]) (st2 := [vR _]) (fun ad S Q _ k => V_aload_n (pc2 := 1) (dk D_X10_peek 0 rfl) rfl (V_lg 0 rfl) rfl k) ?_
  refine K_p (pc2 := 2) (lv2 := [(0, vR _)]) (st2 := [vR _, vR _]) (fun ad S Q _ k => V_aload_n (pc2 := 2) (dk D_X10_peek 1 rfl) rfl (V_lg 0 rfl) rfl k) ?_
  obtain ⟨h1, h⟩ := h
  refine K_getI kc10 (pc2 := 5) 13 (dk D_X10_peek 2 rfl) fl_10_61 (by decide) (fun _ _ => rfl) rfl h1 ?_
  refine K_p (pc2 := 6) (lv2 := [(0, vR _)]) (st2 := [vI _, vI _, vR _]) (fun ad S Q _ k => V_iconst (x := 1) (pc2 := 6) (dk D_X10_peek 3 rfl) (by decide) rfl k) ?_
  refine K_p (pc2 := 7) (lv2 := [(0, vR _)]) (st2 := [vI _, vR _]) (fun ad S Q _ k => V_isub (pc2 := 7) (dk D_X10_peek 4 rfl) rfl k) ?_
  obtain ⟨e2, he3, hc4⟩ := h
  refine K_call (as := [vR _, vI _]) (st := []) (pc2 := 10) (okL.all _ ⟨(isH.ok h1 (by decide)), trivial⟩) (okS.all _ trivial) (fun ad S Q Qc hC hc k => V_callV (as := [_]) (st := []) (M' := MX10_cell) (ci := 10) (pc2 := 10) (dk D_X10_peek 5 rfl) ml_10_79 mv_X10_cell rfl rfl (by decide) rfl (Nat.le_of_ble_eq_true rfl) rfl he3 (hC.k' h1) hc k) hc4 (kRI.k fun y5 κ6 h mo7 => ?_)
  exact K_ret (r := .inl (some (vI _))) (fun ad S Q _ k => V_ireturn (dk D_X10_peek 6 rfl) rfl k) h
theorem k_10_cell_0 {X : Cx} {d : Nat} {κ : Km} {Q : Res → Km → Prop} (r0 : Nat) (x1 : Int32) (h : ((x1 < 0 → K X d MX10_cell 13 [(0, vR r0), (1, vI x1)] [] κ Q) ∧ (¬ x1 < 0 → (isH κ r0 10) ∧ ((x1 < (nI (kW κ (r0 + 1))) → (isH κ (r0 + 1) 21) ∧ (vp_in x1 (kW κ (r0 + 1))) ∧ K X d MX10_cell 23 [(0, vR r0), (1, vI x1)] [vI (kI κ (r0 + 1) (x1 : Int32).toNatClampNeg)] κ Q) ∧ (¬ x1 < (nI (kW κ (r0 + 1))) → K X d MX10_cell 13 [(0, vR r0), (1, vI x1)] [] κ Q))))) : K X d MX10_cell 0 [(0, vR r0), (1, vI x1)] [] κ Q := by
  refine K_p (pc2 := 1) (lv2 := [(0, vR _), (1, vI _)]) (st2 := [vI _]) (fun ad S Q _ k => V_iload_n (pc2 := 1) (dk D_X10_cell 0 rfl) rfl (V_lg 1 rfl) rfl k) ?_
  refine K_if (pa := 13) (pb := 4) (lv2 := [(0, vR _), (1, vI _)]) (st2 := []) (fun ad S Q _ k1 k2 => V_iflt (tgt := 13) (pc2 := 4) (dk D_X10_cell 1 rfl) (by decide) rfl (fun q => k1 q) (fun q => k2 q)) (fun q1 => ?_) (fun q1 => ?_)
  · have h := h.1 q1
    exact h
  · have h := h.2 q1
    refine K_p (pc2 := 5) (lv2 := [(0, vR _), (1, vI _)]) (st2 := [vI _]) (fun ad S Q _ k => V_iload_n (pc2 := 5) (dk D_X10_cell 2 rfl) rfl (V_lg 1 rfl) rfl k) ?_
    refine K_p (pc2 := 6) (lv2 := [(0, vR _), (1, vI _)]) (st2 := [vR _, vI _]) (fun ad S Q _ k => V_aload_n (pc2 := 6) (dk D_X10_cell 3 rfl) rfl (V_lg 0 rfl) rfl k) ?_
    obtain ⟨h2, h⟩ := h
    refine K_getV (pc2 := 9) (dk D_X10_cell 4 rfl) fl_10_15 rfl h2 ?_
    refine K_alenV (pc2 := 10) (dk D_X10_cell 5 rfl) rfl h2 ?_
    refine K_if (pa := 17) (pb := 13) (lv2 := [(0, vR _), (1, vI _)]) (st2 := []) (fun ad S Q _ k1 k2 => V_cmplt (tgt := 17) (pc2 := 13) (dk D_X10_cell 6 rfl) (by decide) rfl (fun q => k1 q) (fun q => k2 q)) (fun q3 => ?_) (fun q3 => ?_)
    · have h := h.1 q3
      refine K_p (pc2 := 18) (lv2 := [(0, vR _), (1, vI _)]) (st2 := [vR _]) (fun ad S Q _ k => V_aload_n (pc2 := 18) (dk D_X10_cell 9 rfl) rfl (V_lg 0 rfl) rfl k) ?_
      refine K_getV (pc2 := 21) (dk D_X10_cell 10 rfl) fl_10_15 rfl h2 ?_
      refine K_p (pc2 := 22) (lv2 := [(0, vR _), (1, vI _)]) (st2 := [vI _, vR _]) (fun ad S Q _ k => V_iload_n (pc2 := 22) (dk D_X10_cell 11 rfl) rfl (V_lg 1 rfl) rfl k) ?_
      obtain ⟨h4, h⟩ := h
      obtain ⟨h5, h⟩ := h
      refine K_iald (pc2 := 23) (dk D_X10_cell 12 rfl) rfl h4 h5 ?_
      exact h
    · have h := h.2 q3
      exact h
theorem k_10_cell_13 {X : Cx} {d : Nat} {κ : Km} {Q : Res → Km → Prop} (r0 : Nat) (x1 : Int32) (h : K X d MX10_cell 23 [(0, vR r0), (1, vI x1)] [vI 0] κ Q) : K X d MX10_cell 13 [(0, vR r0), (1, vI x1)] [] κ Q := by
  refine K_p (pc2 := 14) (lv2 := [(0, vR _), (1, vI _)]) (st2 := [vI _]) (fun ad S Q _ k => V_iconst (x := 0) (pc2 := 14) (dk D_X10_cell 7 rfl) (by decide) rfl k) ?_
  refine K_p (pc2 := 23) (lv2 := [(0, vR _), (1, vI _)]) (st2 := [vI _]) (fun ad S Q _ k => V_goto (tgt := 23) (dk D_X10_cell 8 rfl) (by decide) k) ?_
  exact h
theorem k_10_cell_23 {X : Cx} {d : Nat} {κ : Km} {Q : Res → Km → Prop} (r0 : Nat) (x1 : Int32) (t0 : Int32) (h : Q (.inl (some (vI t0))) κ) : K X d MX10_cell 23 [(0, vR r0), (1, vI x1)] [vI t0] κ Q := by
  exact K_ret (r := .inl (some (vI _))) (fun ad S Q _ k => V_ireturn (dk D_X10_cell 13 rfl) rfl k) h
theorem k_10_put_0 {X : Cx} {d : Nat} {κ : Km} {Q : Res → Km → Prop} (r0 : Nat) (x1 : Int32) (x2 : Int32) (h : ((x1 < 0 → K X d MX10_put 20 [(0, vR r0), (1, vI x1), (2, vI x2)] [] κ Q) ∧ (¬ x1 < 0 → (isH κ r0 10) ∧ (((nI (kW κ (r0 + 1))) ≤ x1 → K X d MX10_put 20 [(0, vR r0), (1, vI x1), (2, vI x2)] [] κ Q) ∧ (¬ (nI (kW κ (r0 + 1))) ≤ x1 → (isH κ (r0 + 1) 21) ∧ (vp_in x1 (kW κ (r0 + 1))) ∧ ∀ κ6 : Km, κ6 = cI κ (r0 + 1) ((x1 : Int32).toNatClampNeg) x2 → K X d MX10_put 20 [(0, vR r0), (1, vI x1), (2, vI x2)] [] κ6 Q))))) : K X d MX10_put 0 [(0, vR r0), (1, vI x1), (2, vI x2)] [] κ Q := by
  refine K_p (pc2 := 1) (lv2 := [(0, vR _), (1, vI _), (2, vI _)]) (st2 := [vI _]) (fun ad S Q _ k => V_iload_n (pc2 := 1) (dk D_X10_put 0 rfl) rfl (V_lg 1 rfl) rfl k) ?_
  refine K_if (pa := 20) (pb := 4) (lv2 := [(0, vR _), (1, vI _), (2, vI _)]) (st2 := []) (fun ad S Q _ k1 k2 => V_iflt (tgt := 20) (pc2 := 4) (dk D_X10_put 1 rfl) (by decide) rfl (fun q => k1 q) (fun q => k2 q)) (fun q1 => ?_) (fun q1 => ?_)
  · have h := h.1 q1
    exact h
  · have h := h.2 q1
    refine K_p (pc2 := 5) (lv2 := [(0, vR _), (1, vI _), (2, vI _)]) (st2 := [vI _]) (fun ad S Q _ k => V_iload_n (pc2 := 5) (dk D_X10_put 2 rfl) rfl (V_lg 1 rfl) rfl k) ?_
    refine K_p (pc2 := 6) (lv2 := [(0, vR _), (1, vI _), (2, vI _)]) (st2 := [vR _, vI _]) (fun ad S Q _ k => V_aload_n (pc2 := 6) (dk D_X10_put 3 rfl) rfl (V_lg 0 rfl) rfl k) ?_
    obtain ⟨h2, h⟩ := h
    refine K_getV (pc2 := 9) (dk D_X10_put 4 rfl) fl_10_15 rfl h2 ?_
    refine K_alenV (pc2 := 10) (dk D_X10_put 5 rfl) rfl h2 ?_
    refine K_if (pa := 20) (pb := 13) (lv2 := [(0, vR _), (1, vI _), (2, vI _)]) (st2 := []) (fun ad S Q _ k1 k2 => V_cmpge (tgt := 20) (pc2 := 13) (dk D_X10_put 6 rfl) (by decide) rfl (fun q => k1 q) (fun q => k2 q)) (fun q3 => ?_) (fun q3 => ?_)
    · have h := h.1 q3
      exact h
    · have h := h.2 q3
      refine K_p (pc2 := 14) (lv2 := [(0, vR _), (1, vI _), (2, vI _)]) (st2 := [vR _]) (fun ad S Q _ k => V_aload_n (pc2 := 14) (dk D_X10_put 7 rfl) rfl (V_lg 0 rfl) rfl k) ?_
      refine K_getV (pc2 := 17) (dk D_X10_put 8 rfl) fl_10_15 rfl h2 ?_
      refine K_p (pc2 := 18) (lv2 := [(0, vR _), (1, vI _), (2, vI _)]) (st2 := [vI _, vR _]) (fun ad S Q _ k => V_iload_n (pc2 := 18) (dk D_X10_put 9 rfl) rfl (V_lg 1 rfl) rfl k) ?_
      refine K_p (pc2 := 19) (lv2 := [(0, vR _), (1, vI _), (2, vI _)]) (st2 := [vI _, vI _, vR _]) (fun ad S Q _ k => V_iload_n (pc2 := 19) (dk D_X10_put 10 rfl) rfl (V_lg 2 rfl) rfl k) ?_
      obtain ⟨h4, h⟩ := h
      obtain ⟨h5, h⟩ := h
      refine K_iast (pc2 := 20) (dk D_X10_put 11 rfl) rfl h4 h5 ?_
      have h := h _ rfl
      exact h
theorem k_10_put_20 {X : Cx} {d : Nat} {κ : Km} {Q : Res → Km → Prop} (r0 : Nat) (x1 : Int32) (x2 : Int32) (h : Q (.inl none) κ) : K X d MX10_put 20 [(0, vR r0), (1, vI x1), (2, vI x2)] [] κ Q := by
  exact K_ret (r := .inl none) (fun ad S Q _ k => V_return (dk D_X10_put 12 rfl) rfl k) h
theorem k_10_canCall_0 {X : Cx} {d : Nat} {κ : Km} {Q : Res → Km → Prop} (r0 : Nat) (h : (isH κ r0 10) ∧ ((60 ≤ (kI κ r0 8) → K X d MX10_canCall 14 [(0, vR r0)] [vI 0] κ Q) ∧ (¬ 60 ≤ (kI κ r0 8) → K X d MX10_canCall 14 [(0, vR r0)] [vI 1] κ Q))) : K X d MX10_canCall 0 [(0, vR r0)] [] κ Q := by
  refine K_p (pc2 := 1) (lv2 := [(0, vR _)]) (st2 := [vR _]) (fun ad S Q _ k => V_aload_n (pc2 := 1) (dk D_X10_canCall 0 rfl) rfl (V_lg 0 rfl) rfl k) ?_
  obtain ⟨h1, h⟩ := h
  refine K_getI kc10 (pc2 := 4) 8 (dk D_X10_canCall 1 rfl) fl_10_43 (by decide) (fun _ _ => rfl) rfl h1 ?_
  refine K_p (pc2 := 6) (lv2 := [(0, vR _)]) (st2 := [vI _, vI _]) (fun ad S Q _ k => V_bipush (x := 60) (pc2 := 6) (dk D_X10_canCall 2 rfl) (by decide) rfl k) ?_
  refine K_if (pa := 13) (pb := 9) (lv2 := [(0, vR _)]) (st2 := []) (fun ad S Q _ k1 k2 => V_cmpge (tgt := 13) (pc2 := 9) (dk D_X10_canCall 3 rfl) (by decide) rfl (fun q => k1 q) (fun q => k2 q)) (fun q2 => ?_) (fun q2 => ?_)
  · have h := h.1 q2
    refine K_p (pc2 := 14) (lv2 := [(0, vR _)]) (st2 := [vI _]) (fun ad S Q _ k => V_iconst (x := 0) (pc2 := 14) (dk D_X10_canCall 6 rfl) (by decide) rfl k) ?_
    exact h
  · have h := h.2 q2
    refine K_p (pc2 := 10) (lv2 := [(0, vR _)]) (st2 := [vI _]) (fun ad S Q _ k => V_iconst (x := 1) (pc2 := 10) (dk D_X10_canCall 4 rfl) (by decide) rfl k) ?_
    refine K_p (pc2 := 14) (lv2 := [(0, vR _)]) (st2 := [vI _]) (fun ad S Q _ k => V_goto (tgt := 14) (dk D_X10_canCall 5 rfl) (by decide) k) ?_
    exact h
theorem k_10_canCall_14 {X : Cx} {d : Nat} {κ : Km} {Q : Res → Km → Prop} (r0 : Nat) (t0 : Int32) (h : (t0 = 0 ∨ t0 = 1) ∧ Q (.inl (some (vI t0))) κ) : K X d MX10_canCall 14 [(0, vR r0)] [vI t0] κ Q := by
  obtain ⟨h1, h⟩ := h
  exact K_ret (r := .inl (some (vI _))) (fun ad S Q _ k => V_zreturn (dk D_X10_canCall 7 rfl) rfl h1 k) h
theorem k_10_leave_0 {X : Cx} {d : Nat} {κ : Km} {Q : Res → Km → Prop} (r0 : Nat) (h : (isH κ r0 10) ∧ ((1 < (kI κ r0 8) → ∀ κ3 : Km, κ3 = cI κ r0 13 (kI κ r0 14) → ∃ e4 : Nat, e4 + 1 ≤ d ∧ KC' X e4 MX10_cell [vR r0, vI ((kI κ3 r0 14) + 1)] κ3 (kRI fun y7 κ8 => ∀ κ10 : Km, κ10 = cI κ8 r0 9 y7 → ∃ e11 : Nat, e11 + 1 ≤ d ∧ KC' X e11 MX10_cell [vR r0, vI ((kI κ10 r0 14) + 2)] κ10 (kRI fun y14 κ15 => ∀ κ17 : Km, κ17 = cI κ15 r0 14 y14 → ∀ κ18 : Km, κ18 = cI κ17 r0 8 ((kI κ17 r0 8) - 1) → Q (.inl (some (vI 1))) κ18))) ∧ (¬ 1 < (kI κ r0 8) → Q (.inl (some (vI 0))) κ))) : K X d MX10_leave 0 [(0, vR r0)] [] κ Q := by
  refine K_p (pc2 := 1) (lv2 := [(0, vR _)]) (st2 := [vR _]) (fun ad S Q _ k => V_aload_n (pc2 := 1) (dk D_X10_leave 0 rfl) rfl (V_lg 0 rfl) rfl k) ?_
  obtain ⟨h1, h⟩ := h
  refine K_getI kc10 (pc2 := 4) 8 (dk D_X10_leave 1 rfl) fl_10_43 (by decide) (fun _ _ => rfl) rfl h1 ?_
  refine K_p (pc2 := 5) (lv2 := [(0, vR _)]) (st2 := [vI _, vI _]) (fun ad S Q _ k => V_iconst (x := 1) (pc2 := 5) (dk D_X10_leave 2 rfl) (by decide) rfl k) ?_
  refine K_if (pa := 10) (pb := 8) (lv2 := [(0, vR _)]) (st2 := []) (fun ad S Q _ k1 k2 => V_cmpgt (tgt := 10) (pc2 := 8) (dk D_X10_leave 3 rfl) (by decide) rfl (fun q => k1 q) (fun q => k2 q)) (fun q2 => ?_) (fun q2 => ?_)
  · have h := h.1 q2
    refine K_p (pc2 := 11) (lv2 := [(0, vR _)]) (st2 := [vR _]) (fun ad S Q _ k => V_aload_n (pc2 := 11) (dk D_X10_leave 6 rfl) rfl (V_lg 0 rfl) rfl k) ?_
    refine K_p (pc2 := 12) (lv2 := [(0, vR _)]) (st2 := [vR _, vR _]) (fun ad S Q _ k => V_aload_n (pc2 := 12) (dk D_X10_leave 7 rfl) rfl (V_lg 0 rfl) rfl k) ?_
    refine K_getI kc10 (pc2 := 15) 14 (dk D_X10_leave 8 rfl) fl_10_64 (by decide) (fun _ _ => rfl) rfl h1 ?_
    refine K_putI kc10 (pc2 := 18) 13 (dk D_X10_leave 9 rfl) fl_10_61 (by decide) (Or.inl rfl) rfl rfl h1 (isH.n69 h1 (by decide)) ?_
    have h := h _ rfl
    refine K_p (pc2 := 19) (lv2 := [(0, vR _)]) (st2 := [vR _]) (fun ad S Q _ k => V_aload_n (pc2 := 19) (dk D_X10_leave 10 rfl) rfl (V_lg 0 rfl) rfl k) ?_
    refine K_p (pc2 := 20) (lv2 := [(0, vR _)]) (st2 := [vR _, vR _]) (fun ad S Q _ k => V_aload_n (pc2 := 20) (dk D_X10_leave 11 rfl) rfl (V_lg 0 rfl) rfl k) ?_
    refine K_p (pc2 := 21) (lv2 := [(0, vR _)]) (st2 := [vR _, vR _, vR _]) (fun ad S Q _ k => V_aload_n (pc2 := 21) (dk D_X10_leave 12 rfl) rfl (V_lg 0 rfl) rfl k) ?_
    refine K_getI kc10 (pc2 := 24) 14 (dk D_X10_leave 13 rfl) fl_10_64 (by decide) (fun _ _ => rfl) rfl h1 ?_
    refine K_p (pc2 := 25) (lv2 := [(0, vR _)]) (st2 := [vI _, vI _, vR _, vR _]) (fun ad S Q _ k => V_iconst (x := 1) (pc2 := 25) (dk D_X10_leave 14 rfl) (by decide) rfl k) ?_
    refine K_p (pc2 := 26) (lv2 := [(0, vR _)]) (st2 := [vI _, vR _, vR _]) (fun ad S Q _ k => V_iadd (pc2 := 26) (dk D_X10_leave 15 rfl) rfl k) ?_
    obtain ⟨e4, he5, hc6⟩ := h
    refine K_call (as := [vR _, vI _]) (st := [vR _]) (pc2 := 29) (okL.all _ ⟨(isH.ok h1 (by decide)), trivial⟩) (okS.all _ ⟨(isH.ok h1 (by decide)), trivial⟩) (fun ad S Q Qc hC hc k => V_callV (as := [_]) (st := [_]) (M' := MX10_cell) (ci := 10) (pc2 := 29) (dk D_X10_leave 16 rfl) ml_10_79 mv_X10_cell rfl rfl (by decide) rfl (Nat.le_of_ble_eq_true rfl) rfl he5 (hC.k' h1) hc k) hc6 (kRI.k fun y7 κ8 h mo9 => ?_)
    refine K_putI kc10 (pc2 := 32) 9 (dk D_X10_leave 17 rfl) fl_10_70 (by decide) (Or.inl rfl) rfl rfl (isH.mo h1 (by decide) mo9) (isH.n69 (isH.mo h1 (by decide) mo9) (by decide)) ?_
    have h := h _ rfl
    refine K_p (pc2 := 33) (lv2 := [(0, vR _)]) (st2 := [vR _]) (fun ad S Q _ k => V_aload_n (pc2 := 33) (dk D_X10_leave 18 rfl) rfl (V_lg 0 rfl) rfl k) ?_
    refine K_p (pc2 := 34) (lv2 := [(0, vR _)]) (st2 := [vR _, vR _]) (fun ad S Q _ k => V_aload_n (pc2 := 34) (dk D_X10_leave 19 rfl) rfl (V_lg 0 rfl) rfl k) ?_
    refine K_p (pc2 := 35) (lv2 := [(0, vR _)]) (st2 := [vR _, vR _, vR _]) (fun ad S Q _ k => V_aload_n (pc2 := 35) (dk D_X10_leave 20 rfl) rfl (V_lg 0 rfl) rfl k) ?_
    refine K_getI kc10 (pc2 := 38) 14 (dk D_X10_leave 21 rfl) fl_10_64 (by decide) (fun _ _ => rfl) rfl (isH.mo h1 (by decide) mo9) ?_
    refine K_p (pc2 := 39) (lv2 := [(0, vR _)]) (st2 := [vI _, vI _, vR _, vR _]) (fun ad S Q _ k => V_iconst (x := 2) (pc2 := 39) (dk D_X10_leave 22 rfl) (by decide) rfl k) ?_
    refine K_p (pc2 := 40) (lv2 := [(0, vR _)]) (st2 := [vI _, vR _, vR _]) (fun ad S Q _ k => V_iadd (pc2 := 40) (dk D_X10_leave 23 rfl) rfl k) ?_
    obtain ⟨e11, he12, hc13⟩ := h
    refine K_call (as := [vR _, vI _]) (st := [vR _]) (pc2 := 43) (okL.all _ ⟨(isH.ok (isH.mo h1 (by decide) mo9) (by decide)), trivial⟩) (okS.all _ ⟨(isH.ok (isH.mo h1 (by decide) mo9) (by decide)), trivial⟩) (fun ad S Q Qc hC hc k => V_callV (as := [_]) (st := [_]) (M' := MX10_cell) (ci := 10) (pc2 := 43) (dk D_X10_leave 24 rfl) ml_10_79 mv_X10_cell rfl rfl (by decide) rfl (Nat.le_of_ble_eq_true rfl) rfl he12 (hC.k' (isH.mo h1 (by decide) mo9)) hc k) hc13 (kRI.k fun y14 κ15 h mo16 => ?_)
    refine K_putI kc10 (pc2 := 46) 14 (dk D_X10_leave 25 rfl) fl_10_64 (by decide) (Or.inl rfl) rfl rfl (isH.mo (isH.mo h1 (by decide) mo9) (by decide) mo16) (isH.n69 (isH.mo (isH.mo h1 (by decide) mo9) (by decide) mo16) (by decide)) ?_
    have h := h _ rfl
    refine K_p (pc2 := 47) (lv2 := [(0, vR _)]) (st2 := [vR _]) (fun ad S Q _ k => V_aload_n (pc2 := 47) (dk D_X10_leave 26 rfl) rfl (V_lg 0 rfl) rfl k) ?_
    refine K_p (pc2 := 48) (lv2 := [(0, vR _)]) (st2 := [vR _, vR _]) (fun ad S Q _ k => V_dup (pc2 := 48) (dk D_X10_leave 27 rfl) rfl rfl k) ?_
    refine K_getI kc10 (pc2 := 51) 8 (dk D_X10_leave 28 rfl) fl_10_43 (by decide) (fun _ _ => rfl) rfl (isH.mo (isH.mo h1 (by decide) mo9) (by decide) mo16) ?_
    refine K_p (pc2 := 52) (lv2 := [(0, vR _)]) (st2 := [vI _, vI _, vR _]) (fun ad S Q _ k => V_iconst (x := 1) (pc2 := 52) (dk D_X10_leave 29 rfl) (by decide) rfl k) ?_
    refine K_p (pc2 := 53) (lv2 := [(0, vR _)]) (st2 := [vI _, vR _]) (fun ad S Q _ k => V_isub (pc2 := 53) (dk D_X10_leave 30 rfl) rfl k) ?_
    refine K_putI kc10 (pc2 := 56) 8 (dk D_X10_leave 31 rfl) fl_10_43 (by decide) (Or.inl rfl) rfl rfl (isH.mo (isH.mo h1 (by decide) mo9) (by decide) mo16) (isH.n69 (isH.mo (isH.mo h1 (by decide) mo9) (by decide) mo16) (by decide)) ?_
    have h := h _ rfl
    refine K_p (pc2 := 57) (lv2 := [(0, vR _)]) (st2 := [vI _]) (fun ad S Q _ k => V_iconst (x := 1) (pc2 := 57) (dk D_X10_leave 32 rfl) (by decide) rfl k) ?_
    exact K_ret (r := .inl (some (vI _))) (fun ad S Q _ k => V_zreturn (dk D_X10_leave 33 rfl) rfl (Or.inr rfl) k) h
  · have h := h.2 q2
    refine K_p (pc2 := 9) (lv2 := [(0, vR _)]) (st2 := [vI _]) (fun ad S Q _ k => V_iconst (x := 0) (pc2 := 9) (dk D_X10_leave 4 rfl) (by decide) rfl k) ?_
    exact K_ret (r := .inl (some (vI _))) (fun ad S Q _ k => V_zreturn (dk D_X10_leave 5 rfl) rfl (Or.inl rfl) k) h
theorem k_10_place_0 {X : Cx} {d : Nat} {κ : Km} {Q : Res → Km → Prop} (r0 : Nat) (h : (isH κ r0 10) ∧ ((((kI κ r0 14) + 3) < 0 → K X d MX10_place 20 [(0, vR r0), (1, vI ((kI κ r0 14) + 3))] [] κ Q) ∧ (¬ ((kI κ r0 14) + 3) < 0 → ((((kI κ r0 14) + 3) < (nI (kW κ (r0 + 1))) → (isH κ (r0 + 1) 21) ∧ (vp_in ((kI κ r0 14) + 3) (kW κ (r0 + 1))) ∧ K X d MX10_place 31 [(0, vR r0), (1, vI ((kI κ r0 14) + 3))] [vI (kI κ (r0 + 1) (((kI κ r0 14) + 3) : Int32).toNatClampNeg)] κ Q) ∧ (¬ ((kI κ r0 14) + 3) < (nI (kW κ (r0 + 1))) → K X d MX10_place 20 [(0, vR r0), (1, vI ((kI κ r0 14) + 3))] [] κ Q))))) : K X d MX10_place 0 [(0, vR r0)] [] κ Q := by
  refine K_p (pc2 := 1) (lv2 := [(0, vR _)]) (st2 := [vR _]) (fun ad S Q _ k => V_aload_n (pc2 := 1) (dk D_X10_place 0 rfl) rfl (V_lg 0 rfl) rfl k) ?_
  obtain ⟨h1, h⟩ := h
  refine K_getI kc10 (pc2 := 4) 14 (dk D_X10_place 1 rfl) fl_10_64 (by decide) (fun _ _ => rfl) rfl h1 ?_
  refine K_p (pc2 := 5) (lv2 := [(0, vR _)]) (st2 := [vI _, vI _]) (fun ad S Q _ k => V_iconst (x := 3) (pc2 := 5) (dk D_X10_place 2 rfl) (by decide) rfl k) ?_
  refine K_p (pc2 := 6) (lv2 := [(0, vR _)]) (st2 := [vI _]) (fun ad S Q _ k => V_iadd (pc2 := 6) (dk D_X10_place 3 rfl) rfl k) ?_
  refine K_p (pc2 := 7) (lv2 := [(0, vR _), (1, vI _)]) (st2 := []) (fun ad S Q _ k => V_istore_n (pc2 := 7) (lv2 := [(0, _), (1, _)]) (dk D_X10_place 4 rfl) rfl (by decide) rfl rfl k) ?_
  refine K_p (pc2 := 8) (lv2 := [(0, vR _), (1, vI _)]) (st2 := [vI _]) (fun ad S Q _ k => V_iload_n (pc2 := 8) (dk D_X10_place 5 rfl) rfl (V_lg 1 rfl) rfl k) ?_
  refine K_if (pa := 20) (pb := 11) (lv2 := [(0, vR _), (1, vI _)]) (st2 := []) (fun ad S Q _ k1 k2 => V_iflt (tgt := 20) (pc2 := 11) (dk D_X10_place 6 rfl) (by decide) rfl (fun q => k1 q) (fun q => k2 q)) (fun q2 => ?_) (fun q2 => ?_)
  · have h := h.1 q2
    exact h
  · have h := h.2 q2
    refine K_p (pc2 := 12) (lv2 := [(0, vR _), (1, vI _)]) (st2 := [vI _]) (fun ad S Q _ k => V_iload_n (pc2 := 12) (dk D_X10_place 7 rfl) rfl (V_lg 1 rfl) rfl k) ?_
    refine K_p (pc2 := 13) (lv2 := [(0, vR _), (1, vI _)]) (st2 := [vR _, vI _]) (fun ad S Q _ k => V_aload_n (pc2 := 13) (dk D_X10_place 8 rfl) rfl (V_lg 0 rfl) rfl k) ?_
    refine K_getV (pc2 := 16) (dk D_X10_place 9 rfl) fl_10_15 rfl h1 ?_
    refine K_alenV (pc2 := 17) (dk D_X10_place 10 rfl) rfl h1 ?_
    refine K_if (pa := 25) (pb := 20) (lv2 := [(0, vR _), (1, vI _)]) (st2 := []) (fun ad S Q _ k1 k2 => V_cmplt (tgt := 25) (pc2 := 20) (dk D_X10_place 11 rfl) (by decide) rfl (fun q => k1 q) (fun q => k2 q)) (fun q3 => ?_) (fun q3 => ?_)
    · have h := h.1 q3
      refine K_p (pc2 := 26) (lv2 := [(0, vR _), (1, vI _)]) (st2 := [vR _]) (fun ad S Q _ k => V_aload_n (pc2 := 26) (dk D_X10_place 14 rfl) rfl (V_lg 0 rfl) rfl k) ?_
      refine K_getV (pc2 := 29) (dk D_X10_place 15 rfl) fl_10_15 rfl h1 ?_
      refine K_p (pc2 := 30) (lv2 := [(0, vR _), (1, vI _)]) (st2 := [vI _, vR _]) (fun ad S Q _ k => V_iload_n (pc2 := 30) (dk D_X10_place 16 rfl) rfl (V_lg 1 rfl) rfl k) ?_
      obtain ⟨h4, h⟩ := h
      obtain ⟨h5, h⟩ := h
      refine K_iald (pc2 := 31) (dk D_X10_place 17 rfl) rfl h4 h5 ?_
      exact h
    · have h := h.2 q3
      exact h
theorem k_10_place_20 {X : Cx} {d : Nat} {κ : Km} {Q : Res → Km → Prop} (r0 : Nat) (x1 : Int32) (h : K X d MX10_place 31 [(0, vR r0), (1, vI x1)] [vI (-9)] κ Q) : K X d MX10_place 20 [(0, vR r0), (1, vI x1)] [] κ Q := by
  refine K_p (pc2 := 22) (lv2 := [(0, vR _), (1, vI _)]) (st2 := [vI _]) (fun ad S Q _ k => V_bipush (x := (-9)) (pc2 := 22) (dk D_X10_place 12 rfl) (by decide) rfl k) ?_
  refine K_p (pc2 := 31) (lv2 := [(0, vR _), (1, vI _)]) (st2 := [vI _]) (fun ad S Q _ k => V_goto (tgt := 31) (dk D_X10_place 13 rfl) (by decide) k) ?_
  exact h
theorem k_10_place_31 {X : Cx} {d : Nat} {κ : Km} {Q : Res → Km → Prop} (r0 : Nat) (x1 : Int32) (t0 : Int32) (h : Q (.inl (some (vI t0))) κ) : K X d MX10_place 31 [(0, vR r0), (1, vI x1)] [vI t0] κ Q := by
  exact K_ret (r := .inl (some (vI _))) (fun ad S Q _ k => V_ireturn (dk D_X10_place 18 rfl) rfl k) h
theorem k_10_setPlace_0 {X : Cx} {d : Nat} {κ : Km} {Q : Res → Km → Prop} (r0 : Nat) (x1 : Int32) (h : (isH κ r0 10) ∧ ∃ e2 : Nat, e2 + 1 ≤ d ∧ KC' X e2 MX10_put [vR r0, vI ((kI κ r0 14) + 3), vI x1] κ (kRV fun  κ5 => Q (.inl none) κ5)) : K X d MX10_setPlace 0 [(0, vR r0), (1, vI x1)] [] κ Q := by
  refine K_p (pc2 := 1) (lv2 := [(0, vR _), (1, vI _)]) (st2 := [vR _]) (fun ad S Q _ k => V_aload_n (pc2 := 1) (dk D_X10_setPlace 0 rfl) rfl (V_lg 0 rfl) rfl k) ?_
  refine K_p (pc2 := 2) (lv2 := [(0, vR _), (1, vI _)]) (st2 := [vR _, vR _]) (fun ad S Q _ k => V_aload_n (pc2 := 2) (dk D_X10_setPlace 1 rfl) rfl (V_lg 0 rfl) rfl k) ?_
  obtain ⟨h1, h⟩ := h
  refine K_getI kc10 (pc2 := 5) 14 (dk D_X10_setPlace 2 rfl) fl_10_64 (by decide) (fun _ _ => rfl) rfl h1 ?_
  refine K_p (pc2 := 6) (lv2 := [(0, vR _), (1, vI _)]) (st2 := [vI _, vI _, vR _]) (fun ad S Q _ k => V_iconst (x := 3) (pc2 := 6) (dk D_X10_setPlace 3 rfl) (by decide) rfl k) ?_
  refine K_p (pc2 := 7) (lv2 := [(0, vR _), (1, vI _)]) (st2 := [vI _, vR _]) (fun ad S Q _ k => V_iadd (pc2 := 7) (dk D_X10_setPlace 4 rfl) rfl k) ?_
  refine K_p (pc2 := 8) (lv2 := [(0, vR _), (1, vI _)]) (st2 := [vI _, vI _, vR _]) (fun ad S Q _ k => V_iload_n (pc2 := 8) (dk D_X10_setPlace 5 rfl) rfl (V_lg 1 rfl) rfl k) ?_
  obtain ⟨e2, he3, hc4⟩ := h
  refine K_call (as := [vR _, vI _, vI _]) (st := []) (pc2 := 11) (okL.all _ ⟨(isH.ok h1 (by decide)), trivial, trivial⟩) (okS.all _ trivial) (fun ad S Q Qc hC hc k => V_callV (as := [_, _]) (st := []) (M' := MX10_put) (ci := 10) (pc2 := 11) (dk D_X10_setPlace 6 rfl) ml_10_57 mv_X10_put rfl rfl (by decide) rfl (Nat.le_of_ble_eq_true rfl) rfl he3 (hC.k' h1) hc k) hc4 (kRV.k fun  κ5 h mo6 => ?_)
  exact K_ret (r := .inl none) (fun ad S Q _ k => V_return (dk D_X10_setPlace 7 rfl) rfl k) h
theorem k_10_frameOf_0 {X : Cx} {d : Nat} {κ : Km} {Q : Res → Km → Prop} (r0 : Nat) (x1 : Int32) (h : ((x1 < 0 → K X d MX10_frameOf 12 [(0, vR r0), (1, vI x1)] [] κ Q) ∧ (¬ x1 < 0 → (isH κ r0 10) ∧ ((x1 < (kI κ r0 8) → K X d MX10_frameOf 22 [(0, vR r0), (1, vI x1), (2, vI (kI κ r0 14)), (3, vI 0)] [] κ Q) ∧ (¬ x1 < (kI κ r0 8) → K X d MX10_frameOf 12 [(0, vR r0), (1, vI x1)] [] κ Q))))) : K X d MX10_frameOf 0 [(0, vR r0), (1, vI x1)] [] κ Q := by
  refine K_p (pc2 := 1) (lv2 := [(0, vR _), (1, vI _)]) (st2 := [vI _]) (fun ad S Q _ k => V_iload_n (pc2 := 1) (dk D_X10_frameOf 0 rfl) rfl (V_lg 1 rfl) rfl k) ?_
  refine K_if (pa := 12) (pb := 4) (lv2 := [(0, vR _), (1, vI _)]) (st2 := []) (fun ad S Q _ k1 k2 => V_iflt (tgt := 12) (pc2 := 4) (dk D_X10_frameOf 1 rfl) (by decide) rfl (fun q => k1 q) (fun q => k2 q)) (fun q1 => ?_) (fun q1 => ?_)
  · have h := h.1 q1
    exact h
  · have h := h.2 q1
    refine K_p (pc2 := 5) (lv2 := [(0, vR _), (1, vI _)]) (st2 := [vI _]) (fun ad S Q _ k => V_iload_n (pc2 := 5) (dk D_X10_frameOf 2 rfl) rfl (V_lg 1 rfl) rfl k) ?_
    refine K_p (pc2 := 6) (lv2 := [(0, vR _), (1, vI _)]) (st2 := [vR _, vI _]) (fun ad S Q _ k => V_aload_n (pc2 := 6) (dk D_X10_frameOf 3 rfl) rfl (V_lg 0 rfl) rfl k) ?_
    obtain ⟨h2, h⟩ := h
    refine K_getI kc10 (pc2 := 9) 8 (dk D_X10_frameOf 4 rfl) fl_10_43 (by decide) (fun _ _ => rfl) rfl h2 ?_
    refine K_if (pa := 15) (pb := 12) (lv2 := [(0, vR _), (1, vI _)]) (st2 := []) (fun ad S Q _ k1 k2 => V_cmplt (tgt := 15) (pc2 := 12) (dk D_X10_frameOf 5 rfl) (by decide) rfl (fun q => k1 q) (fun q => k2 q)) (fun q3 => ?_) (fun q3 => ?_)
    · have h := h.1 q3
      refine K_p (pc2 := 16) (lv2 := [(0, vR _), (1, vI _)]) (st2 := [vR _]) (fun ad S Q _ k => V_aload_n (pc2 := 16) (dk D_X10_frameOf 8 rfl) rfl (V_lg 0 rfl) rfl k) ?_
      refine K_getI kc10 (pc2 := 19) 14 (dk D_X10_frameOf 9 rfl) fl_10_64 (by decide) (fun _ _ => rfl) rfl h2 ?_
      refine K_p (pc2 := 20) (lv2 := [(0, vR _), (1, vI _), (2, vI _)]) (st2 := []) (fun ad S Q _ k => V_istore_n (pc2 := 20) (lv2 := [(0, _), (1, _), (2, _)]) (dk D_X10_frameOf 10 rfl) rfl (by decide) rfl rfl k) ?_
      refine K_p (pc2 := 21) (lv2 := [(0, vR _), (1, vI _), (2, vI _)]) (st2 := [vI _]) (fun ad S Q _ k => V_iconst (x := 0) (pc2 := 21) (dk D_X10_frameOf 11 rfl) (by decide) rfl k) ?_
      refine K_p (pc2 := 22) (lv2 := [(0, vR _), (1, vI _), (2, vI _), (3, vI _)]) (st2 := []) (fun ad S Q _ k => V_istore_n (pc2 := 22) (lv2 := [(0, _), (1, _), (2, _), (3, _)]) (dk D_X10_frameOf 12 rfl) rfl (by decide) rfl rfl k) ?_
      exact h
    · have h := h.2 q3
      exact h
theorem k_10_frameOf_12 {X : Cx} {d : Nat} {κ : Km} {Q : Res → Km → Prop} (r0 : Nat) (x1 : Int32) (h : Q (.inl (some (vI (-9)))) κ) : K X d MX10_frameOf 12 [(0, vR r0), (1, vI x1)] [] κ Q := by
  refine K_p (pc2 := 14) (lv2 := [(0, vR _), (1, vI _)]) (st2 := [vI _]) (fun ad S Q _ k => V_bipush (x := (-9)) (pc2 := 14) (dk D_X10_frameOf 6 rfl) (by decide) rfl k) ?_
  exact K_ret (r := .inl (some (vI _))) (fun ad S Q _ k => V_ireturn (dk D_X10_frameOf 7 rfl) rfl k) h
theorem k_10_frameOf_22 {X : Cx} {d : Nat} {κ : Km} {Q : Res → Km → Prop} (r0 : Nat) (x1 : Int32) (x2 : Int32) (x3 : Int32) (h : ((x1 ≤ x3 → Q (.inl (some (vI x2))) κ) ∧ (¬ x1 ≤ x3 → (isH κ r0 10) ∧ ∃ e2 : Nat, e2 + 1 ≤ d ∧ KC' X e2 MX10_cell [vR r0, vI (x2 + 2)] κ (kRI fun y5 κ7 => K X d MX10_frameOf 22 [(0, vR r0), (1, vI x1), (2, vI y5), (3, vI (x3 + 1))] [] κ7 Q)))) : K X d MX10_frameOf 22 [(0, vR r0), (1, vI x1), (2, vI x2), (3, vI x3)] [] κ Q := by
  refine K_p (pc2 := 23) (lv2 := [(0, vR _), (1, vI _), (2, vI _), (3, vI _)]) (st2 := [vI _]) (fun ad S Q _ k => V_iload_n (pc2 := 23) (dk D_X10_frameOf 13 rfl) rfl (V_lg 3 rfl) rfl k) ?_
  refine K_p (pc2 := 24) (lv2 := [(0, vR _), (1, vI _), (2, vI _), (3, vI _)]) (st2 := [vI _, vI _]) (fun ad S Q _ k => V_iload_n (pc2 := 24) (dk D_X10_frameOf 14 rfl) rfl (V_lg 1 rfl) rfl k) ?_
  refine K_if (pa := 41) (pb := 27) (lv2 := [(0, vR _), (1, vI _), (2, vI _), (3, vI _)]) (st2 := []) (fun ad S Q _ k1 k2 => V_cmpge (tgt := 41) (pc2 := 27) (dk D_X10_frameOf 15 rfl) (by decide) rfl (fun q => k1 q) (fun q => k2 q)) (fun q1 => ?_) (fun q1 => ?_)
  · have h := h.1 q1
    refine K_p (pc2 := 42) (lv2 := [(0, vR _), (1, vI _), (2, vI _), (3, vI _)]) (st2 := [vI _]) (fun ad S Q _ k => V_iload_n (pc2 := 42) (dk D_X10_frameOf 24 rfl) rfl (V_lg 2 rfl) rfl k) ?_
    exact K_ret (r := .inl (some (vI _))) (fun ad S Q _ k => V_ireturn (dk D_X10_frameOf 25 rfl) rfl k) h
  · have h := h.2 q1
    refine K_p (pc2 := 28) (lv2 := [(0, vR _), (1, vI _), (2, vI _), (3, vI _)]) (st2 := [vR _]) (fun ad S Q _ k => V_aload_n (pc2 := 28) (dk D_X10_frameOf 16 rfl) rfl (V_lg 0 rfl) rfl k) ?_
    refine K_p (pc2 := 29) (lv2 := [(0, vR _), (1, vI _), (2, vI _), (3, vI _)]) (st2 := [vI _, vR _]) (fun ad S Q _ k => V_iload_n (pc2 := 29) (dk D_X10_frameOf 17 rfl) rfl (V_lg 2 rfl) rfl k) ?_
    refine K_p (pc2 := 30) (lv2 := [(0, vR _), (1, vI _), (2, vI _), (3, vI _)]) (st2 := [vI _, vI _, vR _]) (fun ad S Q _ k => V_iconst (x := 2) (pc2 := 30) (dk D_X10_frameOf 18 rfl) (by decide) rfl k) ?_
    refine K_p (pc2 := 31) (lv2 := [(0, vR _), (1, vI _), (2, vI _), (3, vI _)]) (st2 := [vI _, vR _]) (fun ad S Q _ k => V_iadd (pc2 := 31) (dk D_X10_frameOf 19 rfl) rfl k) ?_
    obtain ⟨h6, h⟩ := h
    obtain ⟨e2, he3, hc4⟩ := h
    refine K_call (as := [vR _, vI _]) (st := []) (pc2 := 34) (okL.all _ ⟨(isH.ok h6 (by decide)), trivial, trivial, trivial, trivial⟩) (okS.all _ trivial) (fun ad S Q Qc hC hc k => V_callV (as := [_]) (st := []) (M' := MX10_cell) (ci := 10) (pc2 := 34) (dk D_X10_frameOf 20 rfl) ml_10_79 mv_X10_cell rfl rfl (by decide) rfl (Nat.le_of_ble_eq_true rfl) rfl he3 (hC.k' h6) hc k) hc4 (kRI.k fun y5 κ7 h mo8 => ?_)
    refine K_p (pc2 := 35) (lv2 := [(0, vR _), (1, vI _), (2, vI _), (3, vI _)]) (st2 := []) (fun ad S Q _ k => V_istore_n (pc2 := 35) (lv2 := [(0, _), (1, _), (2, _), (3, _)]) (dk D_X10_frameOf 21 rfl) rfl (by decide) rfl rfl k) ?_
    refine K_p (pc2 := 38) (lv2 := [(0, vR _), (1, vI _), (2, vI _), (3, vI _)]) (st2 := []) (fun ad S Q _ k => V_iinc (y := _ + 1) (pc2 := 38) (lv2 := [(0, _), (1, _), (2, _), (3, _)]) (dk D_X10_frameOf 22 rfl) (V_lg 3 rfl) rfl (by decide) rfl rfl k) ?_
    refine K_p (pc2 := 22) (lv2 := [(0, vR _), (1, vI _), (2, vI _), (3, vI _)]) (st2 := []) (fun ad S Q _ k => V_goto (tgt := 22) (dk D_X10_frameOf 23 rfl) (by decide) k) ?_
    exact h
theorem k_10_variablesOf_0 {X : Cx} {d : Nat} {κ : Km} {Q : Res → Km → Prop} (r0 : Nat) (x1 : Int32) (h : ((0 ≤ x1 → (isH κ r0 10) ∧ ∃ e2 : Nat, e2 + 1 ≤ d ∧ KC' X e2 MX10_cell [vR r0, vI x1] κ (kRI fun y5 κ7 => K X d MX10_variablesOf 13 [(0, vR r0), (1, vI x1)] [vI y5] κ7 Q)) ∧ (¬ 0 ≤ x1 → K X d MX10_variablesOf 13 [(0, vR r0), (1, vI x1)] [vI 0] κ Q))) : K X d MX10_variablesOf 0 [(0, vR r0), (1, vI x1)] [] κ Q := by
  refine K_p (pc2 := 1) (lv2 := [(0, vR _), (1, vI _)]) (st2 := [vI _]) (fun ad S Q _ k => V_iload_n (pc2 := 1) (dk D_X10_variablesOf 0 rfl) rfl (V_lg 1 rfl) rfl k) ?_
  refine K_if (pa := 8) (pb := 4) (lv2 := [(0, vR _), (1, vI _)]) (st2 := []) (fun ad S Q _ k1 k2 => V_ifge (tgt := 8) (pc2 := 4) (dk D_X10_variablesOf 1 rfl) (by decide) rfl (fun q => k1 q) (fun q => k2 q)) (fun q1 => ?_) (fun q1 => ?_)
  · have h := h.1 q1
    refine K_p (pc2 := 9) (lv2 := [(0, vR _), (1, vI _)]) (st2 := [vR _]) (fun ad S Q _ k => V_aload_n (pc2 := 9) (dk D_X10_variablesOf 4 rfl) rfl (V_lg 0 rfl) rfl k) ?_
    refine K_p (pc2 := 10) (lv2 := [(0, vR _), (1, vI _)]) (st2 := [vI _, vR _]) (fun ad S Q _ k => V_iload_n (pc2 := 10) (dk D_X10_variablesOf 5 rfl) rfl (V_lg 1 rfl) rfl k) ?_
    obtain ⟨h6, h⟩ := h
    obtain ⟨e2, he3, hc4⟩ := h
    refine K_call (as := [vR _, vI _]) (st := []) (pc2 := 13) (okL.all _ ⟨(isH.ok h6 (by decide)), trivial, trivial⟩) (okS.all _ trivial) (fun ad S Q Qc hC hc k => V_callV (as := [_]) (st := []) (M' := MX10_cell) (ci := 10) (pc2 := 13) (dk D_X10_variablesOf 6 rfl) ml_10_79 mv_X10_cell rfl rfl (by decide) rfl (Nat.le_of_ble_eq_true rfl) rfl he3 (hC.k' h6) hc k) hc4 (kRI.k fun y5 κ7 h mo8 => ?_)
    exact h
  · have h := h.2 q1
    refine K_p (pc2 := 5) (lv2 := [(0, vR _), (1, vI _)]) (st2 := [vI _]) (fun ad S Q _ k => V_iconst (x := 0) (pc2 := 5) (dk D_X10_variablesOf 2 rfl) (by decide) rfl k) ?_
    refine K_p (pc2 := 13) (lv2 := [(0, vR _), (1, vI _)]) (st2 := [vI _]) (fun ad S Q _ k => V_goto (tgt := 13) (dk D_X10_variablesOf 3 rfl) (by decide) k) ?_
    exact h
theorem k_10_variablesOf_13 {X : Cx} {d : Nat} {κ : Km} {Q : Res → Km → Prop} (r0 : Nat) (x1 : Int32) (t0 : Int32) (h : Q (.inl (some (vI t0))) κ) : K X d MX10_variablesOf 13 [(0, vR r0), (1, vI x1)] [vI t0] κ Q := by
  exact K_ret (r := .inl (some (vI _))) (fun ad S Q _ k => V_ireturn (dk D_X10_variablesOf 7 rfl) rfl k) h
theorem k_10_variable_0 {X : Cx} {d : Nat} {κ : Km} {Q : Res → Km → Prop} (r0 : Nat) (x1 : Int32) (x2 : Int32) (h : (isH κ r0 10) ∧ ∃ e1 : Nat, e1 + 1 ≤ d ∧ KC' X e1 MX10_cell [vR r0, vI ((x1 + 4) + x2)] κ (kRI fun y4 κ6 => Q (.inl (some (vI y4))) κ6)) : K X d MX10_variable 0 [(0, vR r0), (1, vI x1), (2, vI x2)] [] κ Q := by
  refine K_p (pc2 := 1) (lv2 := [(0, vR _), (1, vI _), (2, vI _)]) (st2 := [vR _]) (fun ad S Q _ k => V_aload_n (pc2 := 1) (dk D_X10_variable 0 rfl) rfl (V_lg 0 rfl) rfl k) ?_
  refine K_p (pc2 := 2) (lv2 := [(0, vR _), (1, vI _), (2, vI _)]) (st2 := [vI _, vR _]) (fun ad S Q _ k => V_iload_n (pc2 := 2) (dk D_X10_variable 1 rfl) rfl (V_lg 1 rfl) rfl k) ?_
  refine K_p (pc2 := 3) (lv2 := [(0, vR _), (1, vI _), (2, vI _)]) (st2 := [vI _, vI _, vR _]) (fun ad S Q _ k => V_iconst (x := 4) (pc2 := 3) (dk D_X10_variable 2 rfl) (by decide) rfl k) ?_
  refine K_p (pc2 := 4) (lv2 := [(0, vR _), (1, vI _), (2, vI _)]) (st2 := [vI _, vR _]) (fun ad S Q _ k => V_iadd (pc2 := 4) (dk D_X10_variable 3 rfl) rfl k) ?_
  refine K_p (pc2 := 5) (lv2 := [(0, vR _), (1, vI _), (2, vI _)]) (st2 := [vI _, vI _, vR _]) (fun ad S Q _ k => V_iload_n (pc2 := 5) (dk D_X10_variable 4 rfl) rfl (V_lg 2 rfl) rfl k) ?_
  refine K_p (pc2 := 6) (lv2 := [(0, vR _), (1, vI _), (2, vI _)]) (st2 := [vI _, vR _]) (fun ad S Q _ k => V_iadd (pc2 := 6) (dk D_X10_variable 5 rfl) rfl k) ?_
  obtain ⟨h5, h⟩ := h
  obtain ⟨e1, he2, hc3⟩ := h
  refine K_call (as := [vR _, vI _]) (st := []) (pc2 := 9) (okL.all _ ⟨(isH.ok h5 (by decide)), trivial, trivial, trivial⟩) (okS.all _ trivial) (fun ad S Q Qc hC hc k => V_callV (as := [_]) (st := []) (M' := MX10_cell) (ci := 10) (pc2 := 9) (dk D_X10_variable 6 rfl) ml_10_79 mv_X10_cell rfl rfl (by decide) rfl (Nat.le_of_ble_eq_true rfl) rfl he2 (hC.k' h5) hc k) hc3 (kRI.k fun y4 κ6 h mo7 => ?_)
  exact K_ret (r := .inl (some (vI _))) (fun ad S Q _ k => V_ireturn (dk D_X10_variable 7 rfl) rfl k) h
theorem k_10_openGuard_0 {X : Cx} {d : Nat} {κ : Km} {Q : Res → Km → Prop} (r0 : Nat) (x1 : Int32) (h : (isH κ r0 10) ∧ ∃ e2 : Nat, e2 + 1 ≤ d ∧ KC' X e2 MX10_push [vR r0, vI (kI κ r0 15)] κ (kRV fun  κ5 => ∃ e7 : Nat, e7 + 1 ≤ d ∧ KC' X e7 MX10_push [vR r0, vI x1] κ5 (kRV fun  κ10 => ∃ e12 : Nat, e12 + 1 ≤ d ∧ KC' X e12 MX10_push [vR r0, vI 0] κ10 (kRV fun  κ15 => ∃ e17 : Nat, e17 + 1 ≤ d ∧ KC' X e17 MX10_push [vR r0, vI 0] κ15 (kRV fun  κ20 => ∀ κ22 : Km, κ22 = cI κ20 r0 15 (kI κ r0 13) → Q (.inl none) κ22))))) : K X d MX10_openGuard 0 [(0, vR r0), (1, vI x1)] [] κ Q := by
  refine K_p (pc2 := 1) (lv2 := [(0, vR _), (1, vI _)]) (st2 := [vR _]) (fun ad S Q _ k => V_aload_n (pc2 := 1) (dk D_X10_openGuard 0 rfl) rfl (V_lg 0 rfl) rfl k) ?_
  obtain ⟨h1, h⟩ := h
  refine K_getI kc10 (pc2 := 4) 13 (dk D_X10_openGuard 1 rfl) fl_10_61 (by decide) (fun _ _ => rfl) rfl h1 ?_
  refine K_p (pc2 := 5) (lv2 := [(0, vR _), (1, vI _), (2, vI _)]) (st2 := []) (fun ad S Q _ k => V_istore_n (pc2 := 5) (lv2 := [(0, _), (1, _), (2, _)]) (dk D_X10_openGuard 2 rfl) rfl (by decide) rfl rfl k) ?_
  refine K_p (pc2 := 6) (lv2 := [(0, vR _), (1, vI _), (2, vI _)]) (st2 := [vR _]) (fun ad S Q _ k => V_aload_n (pc2 := 6) (dk D_X10_openGuard 3 rfl) rfl (V_lg 0 rfl) rfl k) ?_
  refine K_p (pc2 := 7) (lv2 := [(0, vR _), (1, vI _), (2, vI _)]) (st2 := [vR _, vR _]) (fun ad S Q _ k => V_aload_n (pc2 := 7) (dk D_X10_openGuard 4 rfl) rfl (V_lg 0 rfl) rfl k) ?_
  refine K_getI kc10 (pc2 := 10) 15 (dk D_X10_openGuard 5 rfl) fl_10_67 (by decide) (fun _ _ => rfl) rfl h1 ?_
  obtain ⟨e2, he3, hc4⟩ := h
  refine K_call (as := [vR _, vI _]) (st := []) (pc2 := 13) (okL.all _ ⟨(isH.ok h1 (by decide)), trivial, trivial, trivial⟩) (okS.all _ trivial) (fun ad S Q Qc hC hc k => V_callV (as := [_]) (st := []) (M' := MX10_push) (ci := 10) (pc2 := 13) (dk D_X10_openGuard 6 rfl) ml_10_100 mv_X10_push rfl rfl (by decide) rfl (Nat.le_of_ble_eq_true rfl) rfl he3 (hC.k' h1) hc k) hc4 (kRV.k fun  κ5 h mo6 => ?_)
  refine K_p (pc2 := 14) (lv2 := [(0, vR _), (1, vI _), (2, vI _)]) (st2 := [vR _]) (fun ad S Q _ k => V_aload_n (pc2 := 14) (dk D_X10_openGuard 7 rfl) rfl (V_lg 0 rfl) rfl k) ?_
  refine K_p (pc2 := 15) (lv2 := [(0, vR _), (1, vI _), (2, vI _)]) (st2 := [vI _, vR _]) (fun ad S Q _ k => V_iload_n (pc2 := 15) (dk D_X10_openGuard 8 rfl) rfl (V_lg 1 rfl) rfl k) ?_
  obtain ⟨e7, he8, hc9⟩ := h
  refine K_call (as := [vR _, vI _]) (st := []) (pc2 := 18) (okL.all _ ⟨(isH.ok (isH.mo h1 (by decide) mo6) (by decide)), trivial, trivial, trivial⟩) (okS.all _ trivial) (fun ad S Q Qc hC hc k => V_callV (as := [_]) (st := []) (M' := MX10_push) (ci := 10) (pc2 := 18) (dk D_X10_openGuard 9 rfl) ml_10_100 mv_X10_push rfl rfl (by decide) rfl (Nat.le_of_ble_eq_true rfl) rfl he8 (hC.k' (isH.mo h1 (by decide) mo6)) hc k) hc9 (kRV.k fun  κ10 h mo11 => ?_)
  refine K_p (pc2 := 19) (lv2 := [(0, vR _), (1, vI _), (2, vI _)]) (st2 := [vR _]) (fun ad S Q _ k => V_aload_n (pc2 := 19) (dk D_X10_openGuard 10 rfl) rfl (V_lg 0 rfl) rfl k) ?_
  refine K_p (pc2 := 20) (lv2 := [(0, vR _), (1, vI _), (2, vI _)]) (st2 := [vI _, vR _]) (fun ad S Q _ k => V_iconst (x := 0) (pc2 := 20) (dk D_X10_openGuard 11 rfl) (by decide) rfl k) ?_
  obtain ⟨e12, he13, hc14⟩ := h
  refine K_call (as := [vR _, vI _]) (st := []) (pc2 := 23) (okL.all _ ⟨(isH.ok (isH.mo (isH.mo h1 (by decide) mo6) (by decide) mo11) (by decide)), trivial, trivial, trivial⟩) (okS.all _ trivial) (fun ad S Q Qc hC hc k => V_callV (as := [_]) (st := []) (M' := MX10_push) (ci := 10) (pc2 := 23) (dk D_X10_openGuard 12 rfl) ml_10_100 mv_X10_push rfl rfl (by decide) rfl (Nat.le_of_ble_eq_true rfl) rfl he13 (hC.k' (isH.mo (isH.mo h1 (by decide) mo6) (by decide) mo11)) hc k) hc14 (kRV.k fun  κ15 h mo16 => ?_)
  refine K_p (pc2 := 24) (lv2 := [(0, vR _), (1, vI _), (2, vI _)]) (st2 := [vR _]) (fun ad S Q _ k => V_aload_n (pc2 := 24) (dk D_X10_openGuard 13 rfl) rfl (V_lg 0 rfl) rfl k) ?_
  refine K_p (pc2 := 25) (lv2 := [(0, vR _), (1, vI _), (2, vI _)]) (st2 := [vI _, vR _]) (fun ad S Q _ k => V_iconst (x := 0) (pc2 := 25) (dk D_X10_openGuard 14 rfl) (by decide) rfl k) ?_
  obtain ⟨e17, he18, hc19⟩ := h
  refine K_call (as := [vR _, vI _]) (st := []) (pc2 := 28) (okL.all _ ⟨(isH.ok (isH.mo (isH.mo (isH.mo h1 (by decide) mo6) (by decide) mo11) (by decide) mo16) (by decide)), trivial, trivial, trivial⟩) (okS.all _ trivial) (fun ad S Q Qc hC hc k => V_callV (as := [_]) (st := []) (M' := MX10_push) (ci := 10) (pc2 := 28) (dk D_X10_openGuard 15 rfl) ml_10_100 mv_X10_push rfl rfl (by decide) rfl (Nat.le_of_ble_eq_true rfl) rfl he18 (hC.k' (isH.mo (isH.mo (isH.mo h1 (by decide) mo6) (by decide) mo11) (by decide) mo16)) hc k) hc19 (kRV.k fun  κ20 h mo21 => ?_)
  refine K_p (pc2 := 29) (lv2 := [(0, vR _), (1, vI _), (2, vI _)]) (st2 := [vR _]) (fun ad S Q _ k => V_aload_n (pc2 := 29) (dk D_X10_openGuard 16 rfl) rfl (V_lg 0 rfl) rfl k) ?_
  refine K_p (pc2 := 30) (lv2 := [(0, vR _), (1, vI _), (2, vI _)]) (st2 := [vI _, vR _]) (fun ad S Q _ k => V_iload_n (pc2 := 30) (dk D_X10_openGuard 17 rfl) rfl (V_lg 2 rfl) rfl k) ?_
  refine K_putI kc10 (pc2 := 33) 15 (dk D_X10_openGuard 18 rfl) fl_10_67 (by decide) (Or.inl rfl) rfl rfl (isH.mo (isH.mo (isH.mo (isH.mo h1 (by decide) mo6) (by decide) mo11) (by decide) mo16) (by decide) mo21) (isH.n69 (isH.mo (isH.mo (isH.mo (isH.mo h1 (by decide) mo6) (by decide) mo11) (by decide) mo16) (by decide) mo21) (by decide)) ?_
  have h := h _ rfl
  exact K_ret (r := .inl none) (fun ad S Q _ k => V_return (dk D_X10_openGuard 19 rfl) rfl k) h
theorem k_10_isGuarded_0 {X : Cx} {d : Nat} {κ : Km} {Q : Res → Km → Prop} (r0 : Nat) (h : (isH κ r0 10) ∧ (((kI κ r0 15) ≤ (kI κ r0 14) → K X d MX10_isGuarded 16 [(0, vR r0)] [vI 0] κ Q) ∧ (¬ (kI κ r0 15) ≤ (kI κ r0 14) → K X d MX10_isGuarded 16 [(0, vR r0)] [vI 1] κ Q))) : K X d MX10_isGuarded 0 [(0, vR r0)] [] κ Q := by
  refine K_p (pc2 := 1) (lv2 := [(0, vR _)]) (st2 := [vR _]) (fun ad S Q _ k => V_aload_n (pc2 := 1) (dk D_X10_isGuarded 0 rfl) rfl (V_lg 0 rfl) rfl k) ?_
  obtain ⟨h1, h⟩ := h
  refine K_getI kc10 (pc2 := 4) 15 (dk D_X10_isGuarded 1 rfl) fl_10_67 (by decide) (fun _ _ => rfl) rfl h1 ?_
  refine K_p (pc2 := 5) (lv2 := [(0, vR _)]) (st2 := [vR _, vI _]) (fun ad S Q _ k => V_aload_n (pc2 := 5) (dk D_X10_isGuarded 2 rfl) rfl (V_lg 0 rfl) rfl k) ?_
  refine K_getI kc10 (pc2 := 8) 14 (dk D_X10_isGuarded 3 rfl) fl_10_64 (by decide) (fun _ _ => rfl) rfl h1 ?_
  refine K_if (pa := 15) (pb := 11) (lv2 := [(0, vR _)]) (st2 := []) (fun ad S Q _ k1 k2 => V_cmple (tgt := 15) (pc2 := 11) (dk D_X10_isGuarded 4 rfl) (by decide) rfl (fun q => k1 q) (fun q => k2 q)) (fun q2 => ?_) (fun q2 => ?_)
  · have h := h.1 q2
    refine K_p (pc2 := 16) (lv2 := [(0, vR _)]) (st2 := [vI _]) (fun ad S Q _ k => V_iconst (x := 0) (pc2 := 16) (dk D_X10_isGuarded 7 rfl) (by decide) rfl k) ?_
    exact h
  · have h := h.2 q2
    refine K_p (pc2 := 12) (lv2 := [(0, vR _)]) (st2 := [vI _]) (fun ad S Q _ k => V_iconst (x := 1) (pc2 := 12) (dk D_X10_isGuarded 5 rfl) (by decide) rfl k) ?_
    refine K_p (pc2 := 16) (lv2 := [(0, vR _)]) (st2 := [vI _]) (fun ad S Q _ k => V_goto (tgt := 16) (dk D_X10_isGuarded 6 rfl) (by decide) k) ?_
    exact h
theorem k_10_isGuarded_16 {X : Cx} {d : Nat} {κ : Km} {Q : Res → Km → Prop} (r0 : Nat) (t0 : Int32) (h : (t0 = 0 ∨ t0 = 1) ∧ Q (.inl (some (vI t0))) κ) : K X d MX10_isGuarded 16 [(0, vR r0)] [vI t0] κ Q := by
  obtain ⟨h1, h⟩ := h
  exact K_ret (r := .inl (some (vI _))) (fun ad S Q _ k => V_zreturn (dk D_X10_isGuarded 8 rfl) rfl h1 k) h
theorem k_10_isInGuarded_0 {X : Cx} {d : Nat} {κ : Km} {Q : Res → Km → Prop} (r0 : Nat) (h : (isH κ r0 10) ∧ ∃ e2 : Nat, e2 + 1 ≤ d ∧ KC' X e2 MX10_cell [vR r0, vI ((kI κ r0 15) + 2)] κ (kRI fun y5 κ6 => ((y5 = 0 → K X d MX10_isInGuarded 20 [(0, vR r0), (1, vI y5)] [] κ6 Q) ∧ (¬ y5 = 0 → ((y5 = 1 → K X d MX10_isInGuarded 20 [(0, vR r0), (1, vI y5)] [] κ6 Q) ∧ (¬ y5 = 1 → K X d MX10_isInGuarded 25 [(0, vR r0), (1, vI y5)] [vI 0] κ6 Q)))))) : K X d MX10_isInGuarded 0 [(0, vR r0)] [] κ Q := by
  refine K_p (pc2 := 1) (lv2 := [(0, vR _)]) (st2 := [vR _]) (fun ad S Q _ k => V_aload_n (pc2 := 1) (dk D_X10_isInGuarded 0 rfl) rfl (V_lg 0 rfl) rfl k) ?_
  refine K_p (pc2 := 2) (lv2 := [(0, vR _)]) (st2 := [vR _, vR _]) (fun ad S Q _ k => V_aload_n (pc2 := 2) (dk D_X10_isInGuarded 1 rfl) rfl (V_lg 0 rfl) rfl k) ?_
  obtain ⟨h1, h⟩ := h
  refine K_getI kc10 (pc2 := 5) 15 (dk D_X10_isInGuarded 2 rfl) fl_10_67 (by decide) (fun _ _ => rfl) rfl h1 ?_
  refine K_p (pc2 := 6) (lv2 := [(0, vR _)]) (st2 := [vI _, vI _, vR _]) (fun ad S Q _ k => V_iconst (x := 2) (pc2 := 6) (dk D_X10_isInGuarded 3 rfl) (by decide) rfl k) ?_
  refine K_p (pc2 := 7) (lv2 := [(0, vR _)]) (st2 := [vI _, vR _]) (fun ad S Q _ k => V_iadd (pc2 := 7) (dk D_X10_isInGuarded 4 rfl) rfl k) ?_
  obtain ⟨e2, he3, hc4⟩ := h
  refine K_call (as := [vR _, vI _]) (st := []) (pc2 := 10) (okL.all _ ⟨(isH.ok h1 (by decide)), trivial⟩) (okS.all _ trivial) (fun ad S Q Qc hC hc k => V_callV (as := [_]) (st := []) (M' := MX10_cell) (ci := 10) (pc2 := 10) (dk D_X10_isInGuarded 5 rfl) ml_10_79 mv_X10_cell rfl rfl (by decide) rfl (Nat.le_of_ble_eq_true rfl) rfl he3 (hC.k' h1) hc k) hc4 (kRI.k fun y5 κ6 h mo7 => ?_)
  refine K_p (pc2 := 11) (lv2 := [(0, vR _), (1, vI _)]) (st2 := []) (fun ad S Q _ k => V_istore_n (pc2 := 11) (lv2 := [(0, _), (1, _)]) (dk D_X10_isInGuarded 6 rfl) rfl (by decide) rfl rfl k) ?_
  refine K_p (pc2 := 12) (lv2 := [(0, vR _), (1, vI _)]) (st2 := [vI _]) (fun ad S Q _ k => V_iload_n (pc2 := 12) (dk D_X10_isInGuarded 7 rfl) rfl (V_lg 1 rfl) rfl k) ?_
  refine K_if (pa := 20) (pb := 15) (lv2 := [(0, vR _), (1, vI _)]) (st2 := []) (fun ad S Q _ k1 k2 => V_ifeq (tgt := 20) (pc2 := 15) (dk D_X10_isInGuarded 8 rfl) (by decide) rfl (fun q => k1 q) (fun q => k2 q)) (fun q8 => ?_) (fun q8 => ?_)
  · have h := h.1 q8
    exact h
  · have h := h.2 q8
    refine K_p (pc2 := 16) (lv2 := [(0, vR _), (1, vI _)]) (st2 := [vI _]) (fun ad S Q _ k => V_iload_n (pc2 := 16) (dk D_X10_isInGuarded 9 rfl) rfl (V_lg 1 rfl) rfl k) ?_
    refine K_p (pc2 := 17) (lv2 := [(0, vR _), (1, vI _)]) (st2 := [vI _, vI _]) (fun ad S Q _ k => V_iconst (x := 1) (pc2 := 17) (dk D_X10_isInGuarded 10 rfl) (by decide) rfl k) ?_
    refine K_if (pa := 20) (pb := 24) (lv2 := [(0, vR _), (1, vI _)]) (st2 := []) (fun ad S Q _ k1 k2 => V_cmpne (tgt := 24) (pc2 := 20) (dk D_X10_isInGuarded 11 rfl) (by decide) rfl (fun q => k2 q) (fun q => k1 q)) (fun q9 => ?_) (fun q9 => ?_)
    · have h := h.1 q9
      exact h
    · have h := h.2 q9
      refine K_p (pc2 := 25) (lv2 := [(0, vR _), (1, vI _)]) (st2 := [vI _]) (fun ad S Q _ k => V_iconst (x := 0) (pc2 := 25) (dk D_X10_isInGuarded 14 rfl) (by decide) rfl k) ?_
      exact h
theorem k_10_isInGuarded_20 {X : Cx} {d : Nat} {κ : Km} {Q : Res → Km → Prop} (r0 : Nat) (x1 : Int32) (h : K X d MX10_isInGuarded 25 [(0, vR r0), (1, vI x1)] [vI 1] κ Q) : K X d MX10_isInGuarded 20 [(0, vR r0), (1, vI x1)] [] κ Q := by
  refine K_p (pc2 := 21) (lv2 := [(0, vR _), (1, vI _)]) (st2 := [vI _]) (fun ad S Q _ k => V_iconst (x := 1) (pc2 := 21) (dk D_X10_isInGuarded 12 rfl) (by decide) rfl k) ?_
  refine K_p (pc2 := 25) (lv2 := [(0, vR _), (1, vI _)]) (st2 := [vI _]) (fun ad S Q _ k => V_goto (tgt := 25) (dk D_X10_isInGuarded 13 rfl) (by decide) k) ?_
  exact h
theorem k_10_isInGuarded_25 {X : Cx} {d : Nat} {κ : Km} {Q : Res → Km → Prop} (r0 : Nat) (x1 : Int32) (t0 : Int32) (h : (t0 = 0 ∨ t0 = 1) ∧ Q (.inl (some (vI t0))) κ) : K X d MX10_isInGuarded 25 [(0, vR r0), (1, vI x1)] [vI t0] κ Q := by
  obtain ⟨h1, h⟩ := h
  exact K_ret (r := .inl (some (vI _))) (fun ad S Q _ k => V_zreturn (dk D_X10_isInGuarded 15 rfl) rfl h1 k) h
theorem k_10_handlers_0 {X : Cx} {d : Nat} {κ : Km} {Q : Res → Km → Prop} (r0 : Nat) (h : (isH κ r0 10) ∧ ∃ e2 : Nat, e2 + 1 ≤ d ∧ KC' X e2 MX10_cell [vR r0, vI ((kI κ r0 15) + 1)] κ (kRI fun y5 κ6 => Q (.inl (some (vI y5))) κ6)) : K X d MX10_handlers 0 [(0, vR r0)] [] κ Q := by
  refine K_p (pc2 := 1) (lv2 := [(0, vR _)]) (st2 := [vR _]) (fun ad S Q _ k => V_aload_n (pc2 := 1) (dk D_X10_handlers 0 rfl) rfl (V_lg 0 rfl) rfl k) ?_
  refine K_p (pc2 := 2) (lv2 := [(0, vR _)]) (st2 := [vR _, vR _]) (fun ad S Q _ k => V_aload_n (pc2 := 2) (dk D_X10_handlers 1 rfl) rfl (V_lg 0 rfl) rfl k) ?_
  obtain ⟨h1, h⟩ := h
  refine K_getI kc10 (pc2 := 5) 15 (dk D_X10_handlers 2 rfl) fl_10_67 (by decide) (fun _ _ => rfl) rfl h1 ?_
  refine K_p (pc2 := 6) (lv2 := [(0, vR _)]) (st2 := [vI _, vI _, vR _]) (fun ad S Q _ k => V_iconst (x := 1) (pc2 := 6) (dk D_X10_handlers 3 rfl) (by decide) rfl k) ?_
  refine K_p (pc2 := 7) (lv2 := [(0, vR _)]) (st2 := [vI _, vR _]) (fun ad S Q _ k => V_iadd (pc2 := 7) (dk D_X10_handlers 4 rfl) rfl k) ?_
  obtain ⟨e2, he3, hc4⟩ := h
  refine K_call (as := [vR _, vI _]) (st := []) (pc2 := 10) (okL.all _ ⟨(isH.ok h1 (by decide)), trivial⟩) (okS.all _ trivial) (fun ad S Q Qc hC hc k => V_callV (as := [_]) (st := []) (M' := MX10_cell) (ci := 10) (pc2 := 10) (dk D_X10_handlers 5 rfl) ml_10_79 mv_X10_cell rfl rfl (by decide) rfl (Nat.le_of_ble_eq_true rfl) rfl he3 (hC.k' h1) hc k) hc4 (kRI.k fun y5 κ6 h mo7 => ?_)
  exact K_ret (r := .inl (some (vI _))) (fun ad S Q _ k => V_ireturn (dk D_X10_handlers 6 rfl) rfl k) h
theorem k_10_phase_0 {X : Cx} {d : Nat} {κ : Km} {Q : Res → Km → Prop} (r0 : Nat) (h : (isH κ r0 10) ∧ ∃ e2 : Nat, e2 + 1 ≤ d ∧ KC' X e2 MX10_cell [vR r0, vI ((kI κ r0 15) + 2)] κ (kRI fun y5 κ6 => Q (.inl (some (vI y5))) κ6)) : K X d MX10_phase 0 [(0, vR r0)] [] κ Q := by
  refine K_p (pc2 := 1) (lv2 := [(0, vR _)]) (st2 := [vR _]) (fun ad S Q _ k => V_aload_n (pc2 := 1) (dk D_X10_phase 0 rfl) rfl (V_lg 0 rfl) rfl k) ?_
  refine K_p (pc2 := 2) (lv2 := [(0, vR _)]) (st2 := [vR _, vR _]) (fun ad S Q _ k => V_aload_n (pc2 := 2) (dk D_X10_phase 1 rfl) rfl (V_lg 0 rfl) rfl k) ?_
  obtain ⟨h1, h⟩ := h
  refine K_getI kc10 (pc2 := 5) 15 (dk D_X10_phase 2 rfl) fl_10_67 (by decide) (fun _ _ => rfl) rfl h1 ?_
  refine K_p (pc2 := 6) (lv2 := [(0, vR _)]) (st2 := [vI _, vI _, vR _]) (fun ad S Q _ k => V_iconst (x := 2) (pc2 := 6) (dk D_X10_phase 3 rfl) (by decide) rfl k) ?_
  refine K_p (pc2 := 7) (lv2 := [(0, vR _)]) (st2 := [vI _, vR _]) (fun ad S Q _ k => V_iadd (pc2 := 7) (dk D_X10_phase 4 rfl) rfl k) ?_
  obtain ⟨e2, he3, hc4⟩ := h
  refine K_call (as := [vR _, vI _]) (st := []) (pc2 := 10) (okL.all _ ⟨(isH.ok h1 (by decide)), trivial⟩) (okS.all _ trivial) (fun ad S Q Qc hC hc k => V_callV (as := [_]) (st := []) (M' := MX10_cell) (ci := 10) (pc2 := 10) (dk D_X10_phase 5 rfl) ml_10_79 mv_X10_cell rfl rfl (by decide) rfl (Nat.le_of_ble_eq_true rfl) rfl he3 (hC.k' h1) hc k) hc4 (kRI.k fun y5 κ6 h mo7 => ?_)
  exact K_ret (r := .inl (some (vI _))) (fun ad S Q _ k => V_ireturn (dk D_X10_phase 6 rfl) rfl k) h
theorem k_10_keptByGuard_0 {X : Cx} {d : Nat} {κ : Km} {Q : Res → Km → Prop} (r0 : Nat) (h : (isH κ r0 10) ∧ ∃ e2 : Nat, e2 + 1 ≤ d ∧ KC' X e2 MX10_cell [vR r0, vI ((kI κ r0 15) + 3)] κ (kRI fun y5 κ6 => Q (.inl (some (vI y5))) κ6)) : K X d MX10_keptByGuard 0 [(0, vR r0)] [] κ Q := by
  refine K_p (pc2 := 1) (lv2 := [(0, vR _)]) (st2 := [vR _]) (fun ad S Q _ k => V_aload_n (pc2 := 1) (dk D_X10_keptByGuard 0 rfl) rfl (V_lg 0 rfl) rfl k) ?_
  refine K_p (pc2 := 2) (lv2 := [(0, vR _)]) (st2 := [vR _, vR _]) (fun ad S Q _ k => V_aload_n (pc2 := 2) (dk D_X10_keptByGuard 1 rfl) rfl (V_lg 0 rfl) rfl k) ?_
  obtain ⟨h1, h⟩ := h
  refine K_getI kc10 (pc2 := 5) 15 (dk D_X10_keptByGuard 2 rfl) fl_10_67 (by decide) (fun _ _ => rfl) rfl h1 ?_
  refine K_p (pc2 := 6) (lv2 := [(0, vR _)]) (st2 := [vI _, vI _, vR _]) (fun ad S Q _ k => V_iconst (x := 3) (pc2 := 6) (dk D_X10_keptByGuard 3 rfl) (by decide) rfl k) ?_
  refine K_p (pc2 := 7) (lv2 := [(0, vR _)]) (st2 := [vI _, vR _]) (fun ad S Q _ k => V_iadd (pc2 := 7) (dk D_X10_keptByGuard 4 rfl) rfl k) ?_
  obtain ⟨e2, he3, hc4⟩ := h
  refine K_call (as := [vR _, vI _]) (st := []) (pc2 := 10) (okL.all _ ⟨(isH.ok h1 (by decide)), trivial⟩) (okS.all _ trivial) (fun ad S Q Qc hC hc k => V_callV (as := [_]) (st := []) (M' := MX10_cell) (ci := 10) (pc2 := 10) (dk D_X10_keptByGuard 5 rfl) ml_10_79 mv_X10_cell rfl rfl (by decide) rfl (Nat.le_of_ble_eq_true rfl) rfl he3 (hC.k' h1) hc k) hc4 (kRI.k fun y5 κ6 h mo7 => ?_)
  exact K_ret (r := .inl (some (vI _))) (fun ad S Q _ k => V_ireturn (dk D_X10_keptByGuard 6 rfl) rfl k) h
theorem k_10_turnGuard_0 {X : Cx} {d : Nat} {κ : Km} {Q : Res → Km → Prop} (r0 : Nat) (x1 : Int32) (x2 : Int32) (x3 : Int32) (h : (isH κ r0 10) ∧ ∃ e2 : Nat, e2 + 1 ≤ d ∧ KC' X e2 MX10_put [vR r0, vI ((kI κ r0 15) + 2), vI x1] κ (kRV fun  κ5 => ∃ e7 : Nat, e7 + 1 ≤ d ∧ KC' X e7 MX10_put [vR r0, vI ((kI κ5 r0 15) + 3), vI x2] κ5 (kRV fun  κ10 => ∀ κ12 : Km, κ12 = cI κ10 r0 13 ((kI κ10 r0 15) + 4) → ∀ κ13 : Km, κ13 = cI κ12 r0 9 x3 → Q (.inl none) κ13))) : K X d MX10_turnGuard 0 [(0, vR r0), (1, vI x1), (2, vI x2), (3, vI x3)] [] κ Q := by
  refine K_p (pc2 := 1) (lv2 := [(0, vR _), (1, vI _), (2, vI _), (3, vI _)]) (st2 := [vR _]) (fun ad S Q _ k => V_aload_n (pc2 := 1) (dk D_X10_turnGuard 0 rfl) rfl (V_lg 0 rfl) rfl k) ?_
  refine K_p (pc2 := 2) (lv2 := [(0, vR _), (1, vI _), (2, vI _), (3, vI _)]) (st2 := [vR _, vR _]) (fun ad S Q _ k => V_aload_n (pc2 := 2) (dk D_X10_turnGuard 1 rfl) rfl (V_lg 0 rfl) rfl k) ?_
  obtain ⟨h1, h⟩ := h
  refine K_getI kc10 (pc2 := 5) 15 (dk D_X10_turnGuard 2 rfl) fl_10_67 (by decide) (fun _ _ => rfl) rfl h1 ?_
  refine K_p (pc2 := 6) (lv2 := [(0, vR _), (1, vI _), (2, vI _), (3, vI _)]) (st2 := [vI _, vI _, vR _]) (fun ad S Q _ k => V_iconst (x := 2) (pc2 := 6) (dk D_X10_turnGuard 3 rfl) (by decide) rfl k) ?_
  refine K_p (pc2 := 7) (lv2 := [(0, vR _), (1, vI _), (2, vI _), (3, vI _)]) (st2 := [vI _, vR _]) (fun ad S Q _ k => V_iadd (pc2 := 7) (dk D_X10_turnGuard 4 rfl) rfl k) ?_
  refine K_p (pc2 := 8) (lv2 := [(0, vR _), (1, vI _), (2, vI _), (3, vI _)]) (st2 := [vI _, vI _, vR _]) (fun ad S Q _ k => V_iload_n (pc2 := 8) (dk D_X10_turnGuard 5 rfl) rfl (V_lg 1 rfl) rfl k) ?_
  obtain ⟨e2, he3, hc4⟩ := h
  refine K_call (as := [vR _, vI _, vI _]) (st := []) (pc2 := 11) (okL.all _ ⟨(isH.ok h1 (by decide)), trivial, trivial, trivial, trivial⟩) (okS.all _ trivial) (fun ad S Q Qc hC hc k => V_callV (as := [_, _]) (st := []) (M' := MX10_put) (ci := 10) (pc2 := 11) (dk D_X10_turnGuard 6 rfl) ml_10_57 mv_X10_put rfl rfl (by decide) rfl (Nat.le_of_ble_eq_true rfl) rfl he3 (hC.k' h1) hc k) hc4 (kRV.k fun  κ5 h mo6 => ?_)
  refine K_p (pc2 := 12) (lv2 := [(0, vR _), (1, vI _), (2, vI _), (3, vI _)]) (st2 := [vR _]) (fun ad S Q _ k => V_aload_n (pc2 := 12) (dk D_X10_turnGuard 7 rfl) rfl (V_lg 0 rfl) rfl k) ?_
  refine K_p (pc2 := 13) (lv2 := [(0, vR _), (1, vI _), (2, vI _), (3, vI _)]) (st2 := [vR _, vR _]) (fun ad S Q _ k => V_aload_n (pc2 := 13) (dk D_X10_turnGuard 8 rfl) rfl (V_lg 0 rfl) rfl k) ?_
  refine K_getI kc10 (pc2 := 16) 15 (dk D_X10_turnGuard 9 rfl) fl_10_67 (by decide) (fun _ _ => rfl) rfl (isH.mo h1 (by decide) mo6) ?_
  refine K_p (pc2 := 17) (lv2 := [(0, vR _), (1, vI _), (2, vI _), (3, vI _)]) (st2 := [vI _, vI _, vR _]) (fun ad S Q _ k => V_iconst (x := 3) (pc2 := 17) (dk D_X10_turnGuard 10 rfl) (by decide) rfl k) ?_
  refine K_p (pc2 := 18) (lv2 := [(0, vR _), (1, vI _), (2, vI _), (3, vI _)]) (st2 := [vI _, vR _]) (fun ad S Q _ k => V_iadd (pc2 := 18) (dk D_X10_turnGuard 11 rfl) rfl k) ?_
  refine K_p (pc2 := 19) (lv2 := [(0, vR _), (1, vI _), (2, vI _), (3, vI _)]) (st2 := [vI _, vI _, vR _]) (fun ad S Q _ k => V_iload_n (pc2 := 19) (dk D_X10_turnGuard 12 rfl) rfl (V_lg 2 rfl) rfl k) ?_
  obtain ⟨e7, he8, hc9⟩ := h
  refine K_call (as := [vR _, vI _, vI _]) (st := []) (pc2 := 22) (okL.all _ ⟨(isH.ok (isH.mo h1 (by decide) mo6) (by decide)), trivial, trivial, trivial, trivial⟩) (okS.all _ trivial) (fun ad S Q Qc hC hc k => V_callV (as := [_, _]) (st := []) (M' := MX10_put) (ci := 10) (pc2 := 22) (dk D_X10_turnGuard 13 rfl) ml_10_57 mv_X10_put rfl rfl (by decide) rfl (Nat.le_of_ble_eq_true rfl) rfl he8 (hC.k' (isH.mo h1 (by decide) mo6)) hc k) hc9 (kRV.k fun  κ10 h mo11 => ?_)
  refine K_p (pc2 := 23) (lv2 := [(0, vR _), (1, vI _), (2, vI _), (3, vI _)]) (st2 := [vR _]) (fun ad S Q _ k => V_aload_n (pc2 := 23) (dk D_X10_turnGuard 14 rfl) rfl (V_lg 0 rfl) rfl k) ?_
  refine K_p (pc2 := 24) (lv2 := [(0, vR _), (1, vI _), (2, vI _), (3, vI _)]) (st2 := [vR _, vR _]) (fun ad S Q _ k => V_aload_n (pc2 := 24) (dk D_X10_turnGuard 15 rfl) rfl (V_lg 0 rfl) rfl k) ?_
  refine K_getI kc10 (pc2 := 27) 15 (dk D_X10_turnGuard 16 rfl) fl_10_67 (by decide) (fun _ _ => rfl) rfl (isH.mo (isH.mo h1 (by decide) mo6) (by decide) mo11) ?_
  refine K_p (pc2 := 28) (lv2 := [(0, vR _), (1, vI _), (2, vI _), (3, vI _)]) (st2 := [vI _, vI _, vR _]) (fun ad S Q _ k => V_iconst (x := 4) (pc2 := 28) (dk D_X10_turnGuard 17 rfl) (by decide) rfl k) ?_
  refine K_p (pc2 := 29) (lv2 := [(0, vR _), (1, vI _), (2, vI _), (3, vI _)]) (st2 := [vI _, vR _]) (fun ad S Q _ k => V_iadd (pc2 := 29) (dk D_X10_turnGuard 18 rfl) rfl k) ?_
  refine K_putI kc10 (pc2 := 32) 13 (dk D_X10_turnGuard 19 rfl) fl_10_61 (by decide) (Or.inl rfl) rfl rfl (isH.mo (isH.mo h1 (by decide) mo6) (by decide) mo11) (isH.n69 (isH.mo (isH.mo h1 (by decide) mo6) (by decide) mo11) (by decide)) ?_
  have h := h _ rfl
  refine K_p (pc2 := 33) (lv2 := [(0, vR _), (1, vI _), (2, vI _), (3, vI _)]) (st2 := [vR _]) (fun ad S Q _ k => V_aload_n (pc2 := 33) (dk D_X10_turnGuard 20 rfl) rfl (V_lg 0 rfl) rfl k) ?_
  refine K_p (pc2 := 34) (lv2 := [(0, vR _), (1, vI _), (2, vI _), (3, vI _)]) (st2 := [vI _, vR _]) (fun ad S Q _ k => V_iload_n (pc2 := 34) (dk D_X10_turnGuard 21 rfl) rfl (V_lg 3 rfl) rfl k) ?_
  refine K_putI kc10 (pc2 := 37) 9 (dk D_X10_turnGuard 22 rfl) fl_10_70 (by decide) (Or.inl rfl) rfl rfl (isH.mo (isH.mo h1 (by decide) mo6) (by decide) mo11) (isH.n69 (isH.mo (isH.mo h1 (by decide) mo6) (by decide) mo11) (by decide)) ?_
  have h := h _ rfl
  exact K_ret (r := .inl none) (fun ad S Q _ k => V_return (dk D_X10_turnGuard 23 rfl) rfl k) h
theorem k_10_closeGuard_0 {X : Cx} {d : Nat} {κ : Km} {Q : Res → Km → Prop} (r0 : Nat) (h : (isH κ r0 10) ∧ ∀ κ2 : Km, κ2 = cI κ r0 13 (kI κ r0 15) → ∃ e3 : Nat, e3 + 1 ≤ d ∧ KC' X e3 MX10_cell [vR r0, vI (kI κ2 r0 15)] κ2 (kRI fun y6 κ7 => ∀ κ9 : Km, κ9 = cI κ7 r0 15 y6 → Q (.inl none) κ9)) : K X d MX10_closeGuard 0 [(0, vR r0)] [] κ Q := by
  refine K_p (pc2 := 1) (lv2 := [(0, vR _)]) (st2 := [vR _]) (fun ad S Q _ k => V_aload_n (pc2 := 1) (dk D_X10_closeGuard 0 rfl) rfl (V_lg 0 rfl) rfl k) ?_
  refine K_p (pc2 := 2) (lv2 := [(0, vR _)]) (st2 := [vR _, vR _]) (fun ad S Q _ k => V_aload_n (pc2 := 2) (dk D_X10_closeGuard 1 rfl) rfl (V_lg 0 rfl) rfl k) ?_
  obtain ⟨h1, h⟩ := h
  refine K_getI kc10 (pc2 := 5) 15 (dk D_X10_closeGuard 2 rfl) fl_10_67 (by decide) (fun _ _ => rfl) rfl h1 ?_
  refine K_putI kc10 (pc2 := 8) 13 (dk D_X10_closeGuard 3 rfl) fl_10_61 (by decide) (Or.inl rfl) rfl rfl h1 (isH.n69 h1 (by decide)) ?_
  have h := h _ rfl
  refine K_p (pc2 := 9) (lv2 := [(0, vR _)]) (st2 := [vR _]) (fun ad S Q _ k => V_aload_n (pc2 := 9) (dk D_X10_closeGuard 4 rfl) rfl (V_lg 0 rfl) rfl k) ?_
  refine K_p (pc2 := 10) (lv2 := [(0, vR _)]) (st2 := [vR _, vR _]) (fun ad S Q _ k => V_aload_n (pc2 := 10) (dk D_X10_closeGuard 5 rfl) rfl (V_lg 0 rfl) rfl k) ?_
  refine K_p (pc2 := 11) (lv2 := [(0, vR _)]) (st2 := [vR _, vR _, vR _]) (fun ad S Q _ k => V_aload_n (pc2 := 11) (dk D_X10_closeGuard 6 rfl) rfl (V_lg 0 rfl) rfl k) ?_
  refine K_getI kc10 (pc2 := 14) 15 (dk D_X10_closeGuard 7 rfl) fl_10_67 (by decide) (fun _ _ => rfl) rfl h1 ?_
  obtain ⟨e3, he4, hc5⟩ := h
  refine K_call (as := [vR _, vI _]) (st := [vR _]) (pc2 := 17) (okL.all _ ⟨(isH.ok h1 (by decide)), trivial⟩) (okS.all _ ⟨(isH.ok h1 (by decide)), trivial⟩) (fun ad S Q Qc hC hc k => V_callV (as := [_]) (st := [_]) (M' := MX10_cell) (ci := 10) (pc2 := 17) (dk D_X10_closeGuard 8 rfl) ml_10_79 mv_X10_cell rfl rfl (by decide) rfl (Nat.le_of_ble_eq_true rfl) rfl he4 (hC.k' h1) hc k) hc5 (kRI.k fun y6 κ7 h mo8 => ?_)
  refine K_putI kc10 (pc2 := 20) 15 (dk D_X10_closeGuard 9 rfl) fl_10_67 (by decide) (Or.inl rfl) rfl rfl (isH.mo h1 (by decide) mo8) (isH.n69 (isH.mo h1 (by decide) mo8) (by decide)) ?_
  have h := h _ rfl
  exact K_ret (r := .inl none) (fun ad S Q _ k => V_return (dk D_X10_closeGuard 10 rfl) rfl k) h
theorem k_10_caught_0 {X : Cx} {d : Nat} {κ : Km} {Q : Res → Km → Prop} (r0 : Nat) (h : (isH κ r0 10) ∧ K X d MX10_caught 7 [(0, vR r0), (1, vI (kI κ r0 15)), (2, vI 0)] [] κ Q) : K X d MX10_caught 0 [(0, vR r0)] [] κ Q := by
  refine K_p (pc2 := 1) (lv2 := [(0, vR _)]) (st2 := [vR _]) (fun ad S Q _ k => V_aload_n (pc2 := 1) (dk D_X10_caught 0 rfl) rfl (V_lg 0 rfl) rfl k) ?_
  obtain ⟨h1, h⟩ := h
  refine K_getI kc10 (pc2 := 4) 15 (dk D_X10_caught 1 rfl) fl_10_67 (by decide) (fun _ _ => rfl) rfl h1 ?_
  refine K_p (pc2 := 5) (lv2 := [(0, vR _), (1, vI _)]) (st2 := []) (fun ad S Q _ k => V_istore_n (pc2 := 5) (lv2 := [(0, _), (1, _)]) (dk D_X10_caught 2 rfl) rfl (by decide) rfl rfl k) ?_
  refine K_p (pc2 := 6) (lv2 := [(0, vR _), (1, vI _)]) (st2 := [vI _]) (fun ad S Q _ k => V_iconst (x := 0) (pc2 := 6) (dk D_X10_caught 3 rfl) (by decide) rfl k) ?_
  refine K_p (pc2 := 7) (lv2 := [(0, vR _), (1, vI _), (2, vI _)]) (st2 := []) (fun ad S Q _ k => V_istore_n (pc2 := 7) (lv2 := [(0, _), (1, _), (2, _)]) (dk D_X10_caught 4 rfl) rfl (by decide) rfl rfl k) ?_
  exact h
theorem k_10_caught_7 {X : Cx} {d : Nat} {κ : Km} {Q : Res → Km → Prop} (r0 : Nat) (x1 : Int32) (x2 : Int32) (h : ((24 ≤ x2 → K X d MX10_caught 52 [(0, vR r0), (1, vI x1), (2, vI x2)] [] κ Q) ∧ (¬ 24 ≤ x2 → (isH κ r0 10) ∧ ((x1 ≤ (kI κ r0 14) → K X d MX10_caught 52 [(0, vR r0), (1, vI x1), (2, vI x2)] [] κ Q) ∧ (¬ x1 ≤ (kI κ r0 14) → ∃ e4 : Nat, e4 + 1 ≤ d ∧ KC' X e4 MX10_cell [vR r0, vI (x1 + 2)] κ (kRI fun y7 κ8 => ((y7 = 1 → ∃ e11 : Nat, e11 + 1 ≤ d ∧ KC' X e11 MX10_cell [vR r0, vI (x1 + 3)] κ8 (kRI fun y14 κ15 => Q (.inl (some (vI y14))) κ15)) ∧ (¬ y7 = 1 → ∃ e17 : Nat, e17 + 1 ≤ d ∧ KC' X e17 MX10_cell [vR r0, vI x1] κ8 (kRI fun y20 κ21 => K X d MX10_caught 7 [(0, vR r0), (1, vI y20), (2, vI (x2 + 1))] [] κ21 Q))))))))) : K X d MX10_caught 7 [(0, vR r0), (1, vI x1), (2, vI x2)] [] κ Q := by
  refine K_p (pc2 := 8) (lv2 := [(0, vR _), (1, vI _), (2, vI _)]) (st2 := [vI _]) (fun ad S Q _ k => V_iload_n (pc2 := 8) (dk D_X10_caught 5 rfl) rfl (V_lg 2 rfl) rfl k) ?_
  refine K_p (pc2 := 10) (lv2 := [(0, vR _), (1, vI _), (2, vI _)]) (st2 := [vI _, vI _]) (fun ad S Q _ k => V_bipush (x := 24) (pc2 := 10) (dk D_X10_caught 6 rfl) (by decide) rfl k) ?_
  refine K_if (pa := 52) (pb := 13) (lv2 := [(0, vR _), (1, vI _), (2, vI _)]) (st2 := []) (fun ad S Q _ k1 k2 => V_cmpge (tgt := 52) (pc2 := 13) (dk D_X10_caught 7 rfl) (by decide) rfl (fun q => k1 q) (fun q => k2 q)) (fun q1 => ?_) (fun q1 => ?_)
  · have h := h.1 q1
    exact h
  · have h := h.2 q1
    refine K_p (pc2 := 14) (lv2 := [(0, vR _), (1, vI _), (2, vI _)]) (st2 := [vI _]) (fun ad S Q _ k => V_iload_n (pc2 := 14) (dk D_X10_caught 8 rfl) rfl (V_lg 1 rfl) rfl k) ?_
    refine K_p (pc2 := 15) (lv2 := [(0, vR _), (1, vI _), (2, vI _)]) (st2 := [vR _, vI _]) (fun ad S Q _ k => V_aload_n (pc2 := 15) (dk D_X10_caught 9 rfl) rfl (V_lg 0 rfl) rfl k) ?_
    obtain ⟨h2, h⟩ := h
    refine K_getI kc10 (pc2 := 18) 14 (dk D_X10_caught 10 rfl) fl_10_64 (by decide) (fun _ _ => rfl) rfl h2 ?_
    refine K_if (pa := 52) (pb := 21) (lv2 := [(0, vR _), (1, vI _), (2, vI _)]) (st2 := []) (fun ad S Q _ k1 k2 => V_cmple (tgt := 52) (pc2 := 21) (dk D_X10_caught 11 rfl) (by decide) rfl (fun q => k1 q) (fun q => k2 q)) (fun q3 => ?_) (fun q3 => ?_)
    · have h := h.1 q3
      exact h
    · have h := h.2 q3
      refine K_p (pc2 := 22) (lv2 := [(0, vR _), (1, vI _), (2, vI _)]) (st2 := [vR _]) (fun ad S Q _ k => V_aload_n (pc2 := 22) (dk D_X10_caught 12 rfl) rfl (V_lg 0 rfl) rfl k) ?_
      refine K_p (pc2 := 23) (lv2 := [(0, vR _), (1, vI _), (2, vI _)]) (st2 := [vI _, vR _]) (fun ad S Q _ k => V_iload_n (pc2 := 23) (dk D_X10_caught 13 rfl) rfl (V_lg 1 rfl) rfl k) ?_
      refine K_p (pc2 := 24) (lv2 := [(0, vR _), (1, vI _), (2, vI _)]) (st2 := [vI _, vI _, vR _]) (fun ad S Q _ k => V_iconst (x := 2) (pc2 := 24) (dk D_X10_caught 14 rfl) (by decide) rfl k) ?_
      refine K_p (pc2 := 25) (lv2 := [(0, vR _), (1, vI _), (2, vI _)]) (st2 := [vI _, vR _]) (fun ad S Q _ k => V_iadd (pc2 := 25) (dk D_X10_caught 15 rfl) rfl k) ?_
      obtain ⟨e4, he5, hc6⟩ := h
      refine K_call (as := [vR _, vI _]) (st := []) (pc2 := 28) (okL.all _ ⟨(isH.ok h2 (by decide)), trivial, trivial, trivial⟩) (okS.all _ trivial) (fun ad S Q Qc hC hc k => V_callV (as := [_]) (st := []) (M' := MX10_cell) (ci := 10) (pc2 := 28) (dk D_X10_caught 16 rfl) ml_10_79 mv_X10_cell rfl rfl (by decide) rfl (Nat.le_of_ble_eq_true rfl) rfl he5 (hC.k' h2) hc k) hc6 (kRI.k fun y7 κ8 h mo9 => ?_)
      refine K_p (pc2 := 29) (lv2 := [(0, vR _), (1, vI _), (2, vI _)]) (st2 := [vI _, vI _]) (fun ad S Q _ k => V_iconst (x := 1) (pc2 := 29) (dk D_X10_caught 17 rfl) (by decide) rfl k) ?_
      refine K_if (pa := 32) (pb := 40) (lv2 := [(0, vR _), (1, vI _), (2, vI _)]) (st2 := []) (fun ad S Q _ k1 k2 => V_cmpne (tgt := 40) (pc2 := 32) (dk D_X10_caught 18 rfl) (by decide) rfl (fun q => k2 q) (fun q => k1 q)) (fun q10 => ?_) (fun q10 => ?_)
      · have h := h.1 q10
        refine K_p (pc2 := 33) (lv2 := [(0, vR _), (1, vI _), (2, vI _)]) (st2 := [vR _]) (fun ad S Q _ k => V_aload_n (pc2 := 33) (dk D_X10_caught 19 rfl) rfl (V_lg 0 rfl) rfl k) ?_
        refine K_p (pc2 := 34) (lv2 := [(0, vR _), (1, vI _), (2, vI _)]) (st2 := [vI _, vR _]) (fun ad S Q _ k => V_iload_n (pc2 := 34) (dk D_X10_caught 20 rfl) rfl (V_lg 1 rfl) rfl k) ?_
        refine K_p (pc2 := 35) (lv2 := [(0, vR _), (1, vI _), (2, vI _)]) (st2 := [vI _, vI _, vR _]) (fun ad S Q _ k => V_iconst (x := 3) (pc2 := 35) (dk D_X10_caught 21 rfl) (by decide) rfl k) ?_
        refine K_p (pc2 := 36) (lv2 := [(0, vR _), (1, vI _), (2, vI _)]) (st2 := [vI _, vR _]) (fun ad S Q _ k => V_iadd (pc2 := 36) (dk D_X10_caught 22 rfl) rfl k) ?_
        obtain ⟨e11, he12, hc13⟩ := h
        refine K_call (as := [vR _, vI _]) (st := []) (pc2 := 39) (okL.all _ ⟨(isH.ok (isH.mo h2 (by decide) mo9) (by decide)), trivial, trivial, trivial⟩) (okS.all _ trivial) (fun ad S Q Qc hC hc k => V_callV (as := [_]) (st := []) (M' := MX10_cell) (ci := 10) (pc2 := 39) (dk D_X10_caught 23 rfl) ml_10_79 mv_X10_cell rfl rfl (by decide) rfl (Nat.le_of_ble_eq_true rfl) rfl he12 (hC.k' (isH.mo h2 (by decide) mo9)) hc k) hc13 (kRI.k fun y14 κ15 h mo16 => ?_)
        exact K_ret (r := .inl (some (vI _))) (fun ad S Q _ k => V_ireturn (dk D_X10_caught 24 rfl) rfl k) h
      · have h := h.2 q10
        refine K_p (pc2 := 41) (lv2 := [(0, vR _), (1, vI _), (2, vI _)]) (st2 := [vR _]) (fun ad S Q _ k => V_aload_n (pc2 := 41) (dk D_X10_caught 25 rfl) rfl (V_lg 0 rfl) rfl k) ?_
        refine K_p (pc2 := 42) (lv2 := [(0, vR _), (1, vI _), (2, vI _)]) (st2 := [vI _, vR _]) (fun ad S Q _ k => V_iload_n (pc2 := 42) (dk D_X10_caught 26 rfl) rfl (V_lg 1 rfl) rfl k) ?_
        obtain ⟨e17, he18, hc19⟩ := h
        refine K_call (as := [vR _, vI _]) (st := []) (pc2 := 45) (okL.all _ ⟨(isH.ok (isH.mo h2 (by decide) mo9) (by decide)), trivial, trivial, trivial⟩) (okS.all _ trivial) (fun ad S Q Qc hC hc k => V_callV (as := [_]) (st := []) (M' := MX10_cell) (ci := 10) (pc2 := 45) (dk D_X10_caught 27 rfl) ml_10_79 mv_X10_cell rfl rfl (by decide) rfl (Nat.le_of_ble_eq_true rfl) rfl he18 (hC.k' (isH.mo h2 (by decide) mo9)) hc k) hc19 (kRI.k fun y20 κ21 h mo22 => ?_)
        refine K_p (pc2 := 46) (lv2 := [(0, vR _), (1, vI _), (2, vI _)]) (st2 := []) (fun ad S Q _ k => V_istore_n (pc2 := 46) (lv2 := [(0, _), (1, _), (2, _)]) (dk D_X10_caught 28 rfl) rfl (by decide) rfl rfl k) ?_
        refine K_p (pc2 := 49) (lv2 := [(0, vR _), (1, vI _), (2, vI _)]) (st2 := []) (fun ad S Q _ k => V_iinc (y := _ + 1) (pc2 := 49) (lv2 := [(0, _), (1, _), (2, _)]) (dk D_X10_caught 29 rfl) (V_lg 2 rfl) rfl (by decide) rfl rfl k) ?_
        refine K_p (pc2 := 7) (lv2 := [(0, vR _), (1, vI _), (2, vI _)]) (st2 := []) (fun ad S Q _ k => V_goto (tgt := 7) (dk D_X10_caught 30 rfl) (by decide) k) ?_
        exact h
theorem k_10_caught_52 {X : Cx} {d : Nat} {κ : Km} {Q : Res → Km → Prop} (r0 : Nat) (x1 : Int32) (x2 : Int32) (h : Q (.inl (some (vI 0))) κ) : K X d MX10_caught 52 [(0, vR r0), (1, vI x1), (2, vI x2)] [] κ Q := by
  refine K_p (pc2 := 53) (lv2 := [(0, vR _), (1, vI _), (2, vI _)]) (st2 := [vI _]) (fun ad S Q _ k => V_iconst (x := 0) (pc2 := 53) (dk D_X10_caught 31 rfl) (by decide) rfl k) ?_
  exact K_ret (r := .inl (some (vI _))) (fun ad S Q _ k => V_ireturn (dk D_X10_caught 32 rfl) rfl k) h
theorem k_10_work_0 {X : Cx} {d : Nat} {κ : Km} {Q : Res → Km → Prop} (r0 : Nat) (x1 : Int32) (x2 : Int32) (h : ((x1 = 1 → (isH κ r0 10) ∧ ∃ e19 : Nat, e19 + 1 ≤ d ∧ KC' X e19 MX10_push [vR r0, vI x2] κ (kRV fun  κ23 => Q (.inl (some (vI 1))) κ23)) ∧ (x1 = 2 → (isH κ r0 10) ∧ ∃ e26 : Nat, e26 + 1 ≤ d ∧ KC' X e26 MX10_variable [vR r0, vI (kI κ r0 14), vI x2] κ (kRI fun y29 κ30 => ∃ e32 : Nat, e32 + 1 ≤ d ∧ KC' X e32 MX10_push [vR r0, vI y29] κ30 (kRV fun  κ35 => Q (.inl (some (vI 1))) κ35))) ∧ (x1 = 3 → (isH κ r0 10) ∧ ∃ e38 : Nat, e38 + 1 ≤ d ∧ KC' X e38 MX10_pop [vR r0] κ (kRI fun y41 κ42 => ∃ e44 : Nat, e44 + 1 ≤ d ∧ KC' X e44 MX10_put [vR r0, vI (((kI κ r0 14) + 4) + x2), vI y41] κ42 (kRV fun  κ47 => Q (.inl (some (vI 1))) κ47))) ∧ (x1 = 4 → (isH κ r0 10) ∧ ∃ e49 : Nat, e49 + 1 ≤ d ∧ KC' X e49 MX10_pop [vR r0] κ (kRI fun y52 κ54 => Q (.inl (some (vI 1))) κ54)) ∧ (x1 = 5 → (isH κ r0 10) ∧ ∃ e57 : Nat, e57 + 1 ≤ d ∧ KC' X e57 MX10_push [vR r0, vI (kI κ r0 0)] κ (kRV fun  κ60 => Q (.inl (some (vI 1))) κ60)) ∧ (x1 = 6 → (isH κ r0 10) ∧ ∃ e62 : Nat, e62 + 1 ≤ d ∧ KC' X e62 MX10_pop [vR r0] κ (kRI fun y65 κ67 => ∃ e69 : Nat, e69 + 1 ≤ d ∧ KC' X e69 MX10_push [vR r0, vI (-y65)] κ67 (kRV fun  κ72 => Q (.inl (some (vI 1))) κ72))) ∧ (x1 = 7 → (isH κ r0 10) ∧ ∃ e74 : Nat, e74 + 1 ≤ d ∧ KC' X e74 MX10_pop [vR r0] κ (kRI fun y77 κ79 => ((y77 = 0 → K X d MX10_work 161 [(0, vR r0), (1, vI x1), (2, vI x2)] [vI 1, vR r0] κ79 Q) ∧ (¬ y77 = 0 → K X d MX10_work 161 [(0, vR r0), (1, vI x1), (2, vI x2)] [vI 0, vR r0] κ79 Q)))) ∧ (x1 = 15 → (isH κ r0 10) ∧ ∀ κ83 : Km, κ83 = cI κ r0 9 x2 → Q (.inl (some (vI 1))) κ83) ∧ (x1 = 16 → (isH κ r0 10) ∧ ∃ e84 : Nat, e84 + 1 ≤ d ∧ KC' X e84 MX10_pop [vR r0] κ (kRI fun y87 κ89 => ((y87 = 0 → K X d MX10_work 189 [(0, vR r0), (1, vI x1), (2, vI x2)] [vI x2, vR r0] κ89 Q) ∧ (¬ y87 = 0 → K X d MX10_work 189 [(0, vR r0), (1, vI x1), (2, vI x2)] [vI (kI κ89 r0 9), vR r0] κ89 Q)))) ∧ (¬ (x1 = 1 ∨ x1 = 2 ∨ x1 = 3 ∨ x1 = 4 ∨ x1 = 5 ∨ x1 = 6 ∨ x1 = 7 ∨ x1 = 15 ∨ x1 = 16) → (isH κ r0 10) ∧ ∃ e3 : Nat, e3 + 1 ≤ d ∧ KC' X e3 MX10_combine [vR r0, vI x1] κ (kRI fun y6 κ8 => (y6 = 0 ∨ y6 = 1) ∧ Q (.inl (some (vI y6))) κ8)))) : K X d MX10_work 0 [(0, vR r0), (1, vI x1), (2, vI x2)] [] κ Q := by
  refine K_p (pc2 := 1) (lv2 := [(0, vR _), (1, vI _), (2, vI _)]) (st2 := [vI _]) (fun ad S Q _ k => V_iload_n (pc2 := 1) (dk D_X10_work 0 rfl) rfl (V_lg 1 rfl) rfl k) ?_
  refine K_table (dk D_X10_work 1 rfl) [80, 87, 102, 120, 127, 137, 148, 194, 194, 194, 194, 194, 194, 194, 166, 173] 194 (by decide) (by decide) rfl (by decide) (fun q1 => ?_) (fun j2 hj q1 => ?_)
  · have h := h.2.2.2.2.2.2.2.2.2 (by rintro (hk | hk | hk | hk | hk | hk | hk | hk | hk) <;> (rw [hk] at q1; revert q1; decide))
    refine K_p (pc2 := 195) (lv2 := [(0, vR _), (1, vI _), (2, vI _)]) (st2 := [vR _]) (fun ad S Q _ k => V_aload_n (pc2 := 195) (dk D_X10_work 72 rfl) rfl (V_lg 0 rfl) rfl k) ?_
    refine K_p (pc2 := 196) (lv2 := [(0, vR _), (1, vI _), (2, vI _)]) (st2 := [vI _, vR _]) (fun ad S Q _ k => V_iload_n (pc2 := 196) (dk D_X10_work 73 rfl) rfl (V_lg 1 rfl) rfl k) ?_
    obtain ⟨h15, h⟩ := h
    obtain ⟨e11, he12, hc13⟩ := h
    refine K_call (as := [vR _, vI _]) (st := []) (pc2 := 199) (okL.all _ ⟨(isH.ok h15 (by decide)), trivial, trivial, trivial⟩) (okS.all _ trivial) (fun ad S Q Qc hC hc k => V_callV (as := [_]) (st := []) (M' := MX10_combine) (ci := 10) (pc2 := 199) (dk D_X10_work 74 rfl) ml_10_111 mv_X10_combine rfl rfl (by decide) rfl (Nat.le_of_ble_eq_true rfl) rfl he12 (hC.k' h15) hc k) hc13 (kRI.k fun y14 κ16 h mo17 => ?_)
    obtain ⟨h18, h⟩ := h
    exact K_ret (r := .inl (some (vI _))) (fun ad S Q _ k => V_zreturn (dk D_X10_work 75 rfl) rfl h18 k) h
  · have hj2 : j2 = 0 ∨ j2 = 1 ∨ j2 = 2 ∨ j2 = 3 ∨ j2 = 4 ∨ j2 = 5 ∨ j2 = 6 ∨ j2 = 7 ∨ j2 = 8 ∨ j2 = 9 ∨ j2 = 10 ∨ j2 = 11 ∨ j2 = 12 ∨ j2 = 13 ∨ j2 = 14 ∨ j2 = 15 := by simp at hj; omega
    clear hj
    rcases hj2 with rfl | rfl | rfl | rfl | rfl | rfl | rfl | rfl | rfl | rfl | rfl | rfl | rfl | rfl | rfl | rfl
    · have hx : x1 = 1 := Int32.toInt_inj.mp (by rw [q1]; decide)
      have h := h.1 hx
      refine K_p (pc2 := 81) (lv2 := [(0, vR _), (1, vI _), (2, vI _)]) (st2 := [vR _]) (fun ad S Q _ k => V_aload_n (pc2 := 81) (dk D_X10_work 2 rfl) rfl (V_lg 0 rfl) rfl k) ?_
      refine K_p (pc2 := 82) (lv2 := [(0, vR _), (1, vI _), (2, vI _)]) (st2 := [vI _, vR _]) (fun ad S Q _ k => V_iload_n (pc2 := 82) (dk D_X10_work 3 rfl) rfl (V_lg 2 rfl) rfl k) ?_
      obtain ⟨h22, h⟩ := h
      obtain ⟨e19, he20, hc21⟩ := h
      refine K_call (as := [vR _, vI _]) (st := []) (pc2 := 85) (okL.all _ ⟨(isH.ok h22 (by decide)), trivial, trivial, trivial⟩) (okS.all _ trivial) (fun ad S Q Qc hC hc k => V_callV (as := [_]) (st := []) (M' := MX10_push) (ci := 10) (pc2 := 85) (dk D_X10_work 4 rfl) ml_10_100 mv_X10_push rfl rfl (by decide) rfl (Nat.le_of_ble_eq_true rfl) rfl he20 (hC.k' h22) hc k) hc21 (kRV.k fun  κ23 h mo24 => ?_)
      refine K_p (pc2 := 86) (lv2 := [(0, vR _), (1, vI _), (2, vI _)]) (st2 := [vI _]) (fun ad S Q _ k => V_iconst (x := 1) (pc2 := 86) (dk D_X10_work 5 rfl) (by decide) rfl k) ?_
      exact K_ret (r := .inl (some (vI _))) (fun ad S Q _ k => V_zreturn (dk D_X10_work 6 rfl) rfl (Or.inr rfl) k) h
    · have hx : x1 = 2 := Int32.toInt_inj.mp (by rw [q1]; decide)
      have h := h.2.1 hx
      refine K_p (pc2 := 88) (lv2 := [(0, vR _), (1, vI _), (2, vI _)]) (st2 := [vR _]) (fun ad S Q _ k => V_aload_n (pc2 := 88) (dk D_X10_work 7 rfl) rfl (V_lg 0 rfl) rfl k) ?_
      refine K_p (pc2 := 89) (lv2 := [(0, vR _), (1, vI _), (2, vI _)]) (st2 := [vR _, vR _]) (fun ad S Q _ k => V_aload_n (pc2 := 89) (dk D_X10_work 8 rfl) rfl (V_lg 0 rfl) rfl k) ?_
      refine K_p (pc2 := 90) (lv2 := [(0, vR _), (1, vI _), (2, vI _)]) (st2 := [vR _, vR _, vR _]) (fun ad S Q _ k => V_aload_n (pc2 := 90) (dk D_X10_work 9 rfl) rfl (V_lg 0 rfl) rfl k) ?_
      obtain ⟨h25, h⟩ := h
      refine K_getI kc10 (pc2 := 93) 14 (dk D_X10_work 10 rfl) fl_10_64 (by decide) (fun _ _ => rfl) rfl h25 ?_
      refine K_p (pc2 := 94) (lv2 := [(0, vR _), (1, vI _), (2, vI _)]) (st2 := [vI _, vI _, vR _, vR _]) (fun ad S Q _ k => V_iload_n (pc2 := 94) (dk D_X10_work 11 rfl) rfl (V_lg 2 rfl) rfl k) ?_
      obtain ⟨e26, he27, hc28⟩ := h
      refine K_call (as := [vR _, vI _, vI _]) (st := [vR _]) (pc2 := 97) (okL.all _ ⟨(isH.ok h25 (by decide)), trivial, trivial, trivial⟩) (okS.all _ ⟨(isH.ok h25 (by decide)), trivial⟩) (fun ad S Q Qc hC hc k => V_callV (as := [_, _]) (st := [_]) (M' := MX10_variable) (ci := 10) (pc2 := 97) (dk D_X10_work 12 rfl) ml_10_104 mv_X10_variable rfl rfl (by decide) rfl (Nat.le_of_ble_eq_true rfl) rfl he27 (hC.k' h25) hc k) hc28 (kRI.k fun y29 κ30 h mo31 => ?_)
      obtain ⟨e32, he33, hc34⟩ := h
      refine K_call (as := [vR _, vI _]) (st := []) (pc2 := 100) (okL.all _ ⟨(isH.ok (isH.mo h25 (by decide) mo31) (by decide)), trivial, trivial, trivial⟩) (okS.all _ trivial) (fun ad S Q Qc hC hc k => V_callV (as := [_]) (st := []) (M' := MX10_push) (ci := 10) (pc2 := 100) (dk D_X10_work 13 rfl) ml_10_100 mv_X10_push rfl rfl (by decide) rfl (Nat.le_of_ble_eq_true rfl) rfl he33 (hC.k' (isH.mo h25 (by decide) mo31)) hc k) hc34 (kRV.k fun  κ35 h mo36 => ?_)
      refine K_p (pc2 := 101) (lv2 := [(0, vR _), (1, vI _), (2, vI _)]) (st2 := [vI _]) (fun ad S Q _ k => V_iconst (x := 1) (pc2 := 101) (dk D_X10_work 14 rfl) (by decide) rfl k) ?_
      exact K_ret (r := .inl (some (vI _))) (fun ad S Q _ k => V_zreturn (dk D_X10_work 15 rfl) rfl (Or.inr rfl) k) h
    · have hx : x1 = 3 := Int32.toInt_inj.mp (by rw [q1]; decide)
      have h := h.2.2.1 hx
      refine K_p (pc2 := 103) (lv2 := [(0, vR _), (1, vI _), (2, vI _)]) (st2 := [vR _]) (fun ad S Q _ k => V_aload_n (pc2 := 103) (dk D_X10_work 16 rfl) rfl (V_lg 0 rfl) rfl k) ?_
      refine K_p (pc2 := 104) (lv2 := [(0, vR _), (1, vI _), (2, vI _)]) (st2 := [vR _, vR _]) (fun ad S Q _ k => V_aload_n (pc2 := 104) (dk D_X10_work 17 rfl) rfl (V_lg 0 rfl) rfl k) ?_
      obtain ⟨h37, h⟩ := h
      refine K_getI kc10 (pc2 := 107) 14 (dk D_X10_work 18 rfl) fl_10_64 (by decide) (fun _ _ => rfl) rfl h37 ?_
      refine K_p (pc2 := 108) (lv2 := [(0, vR _), (1, vI _), (2, vI _)]) (st2 := [vI _, vI _, vR _]) (fun ad S Q _ k => V_iconst (x := 4) (pc2 := 108) (dk D_X10_work 19 rfl) (by decide) rfl k) ?_
      refine K_p (pc2 := 109) (lv2 := [(0, vR _), (1, vI _), (2, vI _)]) (st2 := [vI _, vR _]) (fun ad S Q _ k => V_iadd (pc2 := 109) (dk D_X10_work 20 rfl) rfl k) ?_
      refine K_p (pc2 := 110) (lv2 := [(0, vR _), (1, vI _), (2, vI _)]) (st2 := [vI _, vI _, vR _]) (fun ad S Q _ k => V_iload_n (pc2 := 110) (dk D_X10_work 21 rfl) rfl (V_lg 2 rfl) rfl k) ?_
      refine K_p (pc2 := 111) (lv2 := [(0, vR _), (1, vI _), (2, vI _)]) (st2 := [vI _, vR _]) (fun ad S Q _ k => V_iadd (pc2 := 111) (dk D_X10_work 22 rfl) rfl k) ?_
      refine K_p (pc2 := 112) (lv2 := [(0, vR _), (1, vI _), (2, vI _)]) (st2 := [vR _, vI _, vR _]) (fun ad S Q _ k => V_aload_n (pc2 := 112) (dk D_X10_work 23 rfl) rfl (V_lg 0 rfl) rfl k) ?_
      obtain ⟨e38, he39, hc40⟩ := h
      refine K_call (as := [vR _]) (st := [vI _, vR _]) (pc2 := 115) (okL.all _ ⟨(isH.ok h37 (by decide)), trivial, trivial, trivial⟩) (okS.all _ ⟨trivial, (isH.ok h37 (by decide)), trivial⟩) (fun ad S Q Qc hC hc k => V_callV (as := []) (st := [_, _]) (M' := MX10_pop) (ci := 10) (pc2 := 115) (dk D_X10_work 24 rfl) ml_10_107 mv_X10_pop rfl rfl (by decide) rfl (Nat.le_of_ble_eq_true rfl) rfl he39 (hC.k' h37) hc k) hc40 (kRI.k fun y41 κ42 h mo43 => ?_)
      obtain ⟨e44, he45, hc46⟩ := h
      refine K_call (as := [vR _, vI _, vI _]) (st := []) (pc2 := 118) (okL.all _ ⟨(isH.ok (isH.mo h37 (by decide) mo43) (by decide)), trivial, trivial, trivial⟩) (okS.all _ trivial) (fun ad S Q Qc hC hc k => V_callV (as := [_, _]) (st := []) (M' := MX10_put) (ci := 10) (pc2 := 118) (dk D_X10_work 25 rfl) ml_10_57 mv_X10_put rfl rfl (by decide) rfl (Nat.le_of_ble_eq_true rfl) rfl he45 (hC.k' (isH.mo h37 (by decide) mo43)) hc k) hc46 (kRV.k fun  κ47 h mo48 => ?_)
      refine K_p (pc2 := 119) (lv2 := [(0, vR _), (1, vI _), (2, vI _)]) (st2 := [vI _]) (fun ad S Q _ k => V_iconst (x := 1) (pc2 := 119) (dk D_X10_work 26 rfl) (by decide) rfl k) ?_
      exact K_ret (r := .inl (some (vI _))) (fun ad S Q _ k => V_zreturn (dk D_X10_work 27 rfl) rfl (Or.inr rfl) k) h
    · have hx : x1 = 4 := Int32.toInt_inj.mp (by rw [q1]; decide)
      have h := h.2.2.2.1 hx
      refine K_p (pc2 := 121) (lv2 := [(0, vR _), (1, vI _), (2, vI _)]) (st2 := [vR _]) (fun ad S Q _ k => V_aload_n (pc2 := 121) (dk D_X10_work 28 rfl) rfl (V_lg 0 rfl) rfl k) ?_
      obtain ⟨h53, h⟩ := h
      obtain ⟨e49, he50, hc51⟩ := h
      refine K_call (as := [vR _]) (st := []) (pc2 := 124) (okL.all _ ⟨(isH.ok h53 (by decide)), trivial, trivial, trivial⟩) (okS.all _ trivial) (fun ad S Q Qc hC hc k => V_callV (as := []) (st := []) (M' := MX10_pop) (ci := 10) (pc2 := 124) (dk D_X10_work 29 rfl) ml_10_107 mv_X10_pop rfl rfl (by decide) rfl (Nat.le_of_ble_eq_true rfl) rfl he50 (hC.k' h53) hc k) hc51 (kRI.k fun y52 κ54 h mo55 => ?_)
      refine K_p (pc2 := 125) (lv2 := [(0, vR _), (1, vI _), (2, vI _)]) (st2 := []) (fun ad S Q _ k => V_pop (pc2 := 125) (dk D_X10_work 30 rfl) rfl rfl k) ?_
      refine K_p (pc2 := 126) (lv2 := [(0, vR _), (1, vI _), (2, vI _)]) (st2 := [vI _]) (fun ad S Q _ k => V_iconst (x := 1) (pc2 := 126) (dk D_X10_work 31 rfl) (by decide) rfl k) ?_
      exact K_ret (r := .inl (some (vI _))) (fun ad S Q _ k => V_zreturn (dk D_X10_work 32 rfl) rfl (Or.inr rfl) k) h
    · have hx : x1 = 5 := Int32.toInt_inj.mp (by rw [q1]; decide)
      have h := h.2.2.2.2.1 hx
      refine K_p (pc2 := 128) (lv2 := [(0, vR _), (1, vI _), (2, vI _)]) (st2 := [vR _]) (fun ad S Q _ k => V_aload_n (pc2 := 128) (dk D_X10_work 33 rfl) rfl (V_lg 0 rfl) rfl k) ?_
      refine K_p (pc2 := 129) (lv2 := [(0, vR _), (1, vI _), (2, vI _)]) (st2 := [vR _, vR _]) (fun ad S Q _ k => V_aload_n (pc2 := 129) (dk D_X10_work 34 rfl) rfl (V_lg 0 rfl) rfl k) ?_
      obtain ⟨h56, h⟩ := h
      refine K_getI kc10 (pc2 := 132) 0 (dk D_X10_work 35 rfl) fl_10_18 (by decide) (fun _ _ => rfl) rfl h56 ?_
      obtain ⟨e57, he58, hc59⟩ := h
      refine K_call (as := [vR _, vI _]) (st := []) (pc2 := 135) (okL.all _ ⟨(isH.ok h56 (by decide)), trivial, trivial, trivial⟩) (okS.all _ trivial) (fun ad S Q Qc hC hc k => V_callV (as := [_]) (st := []) (M' := MX10_push) (ci := 10) (pc2 := 135) (dk D_X10_work 36 rfl) ml_10_100 mv_X10_push rfl rfl (by decide) rfl (Nat.le_of_ble_eq_true rfl) rfl he58 (hC.k' h56) hc k) hc59 (kRV.k fun  κ60 h mo61 => ?_)
      refine K_p (pc2 := 136) (lv2 := [(0, vR _), (1, vI _), (2, vI _)]) (st2 := [vI _]) (fun ad S Q _ k => V_iconst (x := 1) (pc2 := 136) (dk D_X10_work 37 rfl) (by decide) rfl k) ?_
      exact K_ret (r := .inl (some (vI _))) (fun ad S Q _ k => V_zreturn (dk D_X10_work 38 rfl) rfl (Or.inr rfl) k) h
    · have hx : x1 = 6 := Int32.toInt_inj.mp (by rw [q1]; decide)
      have h := h.2.2.2.2.2.1 hx
      refine K_p (pc2 := 138) (lv2 := [(0, vR _), (1, vI _), (2, vI _)]) (st2 := [vR _]) (fun ad S Q _ k => V_aload_n (pc2 := 138) (dk D_X10_work 39 rfl) rfl (V_lg 0 rfl) rfl k) ?_
      refine K_p (pc2 := 139) (lv2 := [(0, vR _), (1, vI _), (2, vI _)]) (st2 := [vR _, vR _]) (fun ad S Q _ k => V_aload_n (pc2 := 139) (dk D_X10_work 40 rfl) rfl (V_lg 0 rfl) rfl k) ?_
      obtain ⟨h66, h⟩ := h
      obtain ⟨e62, he63, hc64⟩ := h
      refine K_call (as := [vR _]) (st := [vR _]) (pc2 := 142) (okL.all _ ⟨(isH.ok h66 (by decide)), trivial, trivial, trivial⟩) (okS.all _ ⟨(isH.ok h66 (by decide)), trivial⟩) (fun ad S Q Qc hC hc k => V_callV (as := []) (st := [_]) (M' := MX10_pop) (ci := 10) (pc2 := 142) (dk D_X10_work 41 rfl) ml_10_107 mv_X10_pop rfl rfl (by decide) rfl (Nat.le_of_ble_eq_true rfl) rfl he63 (hC.k' h66) hc k) hc64 (kRI.k fun y65 κ67 h mo68 => ?_)
      refine K_p (pc2 := 143) (lv2 := [(0, vR _), (1, vI _), (2, vI _)]) (st2 := [vI _, vR _]) (fun ad S Q _ k => V_ineg (pc2 := 143) (dk D_X10_work 42 rfl) rfl k) ?_
      obtain ⟨e69, he70, hc71⟩ := h
      refine K_call (as := [vR _, vI _]) (st := []) (pc2 := 146) (okL.all _ ⟨(isH.ok (isH.mo h66 (by decide) mo68) (by decide)), trivial, trivial, trivial⟩) (okS.all _ trivial) (fun ad S Q Qc hC hc k => V_callV (as := [_]) (st := []) (M' := MX10_push) (ci := 10) (pc2 := 146) (dk D_X10_work 43 rfl) ml_10_100 mv_X10_push rfl rfl (by decide) rfl (Nat.le_of_ble_eq_true rfl) rfl he70 (hC.k' (isH.mo h66 (by decide) mo68)) hc k) hc71 (kRV.k fun  κ72 h mo73 => ?_)
      refine K_p (pc2 := 147) (lv2 := [(0, vR _), (1, vI _), (2, vI _)]) (st2 := [vI _]) (fun ad S Q _ k => V_iconst (x := 1) (pc2 := 147) (dk D_X10_work 44 rfl) (by decide) rfl k) ?_
      exact K_ret (r := .inl (some (vI _))) (fun ad S Q _ k => V_zreturn (dk D_X10_work 45 rfl) rfl (Or.inr rfl) k) h
    · have hx : x1 = 7 := Int32.toInt_inj.mp (by rw [q1]; decide)
      have h := h.2.2.2.2.2.2.1 hx
      refine K_p (pc2 := 149) (lv2 := [(0, vR _), (1, vI _), (2, vI _)]) (st2 := [vR _]) (fun ad S Q _ k => V_aload_n (pc2 := 149) (dk D_X10_work 46 rfl) rfl (V_lg 0 rfl) rfl k) ?_
      refine K_p (pc2 := 150) (lv2 := [(0, vR _), (1, vI _), (2, vI _)]) (st2 := [vR _, vR _]) (fun ad S Q _ k => V_aload_n (pc2 := 150) (dk D_X10_work 47 rfl) rfl (V_lg 0 rfl) rfl k) ?_
      obtain ⟨h78, h⟩ := h
      obtain ⟨e74, he75, hc76⟩ := h
      refine K_call (as := [vR _]) (st := [vR _]) (pc2 := 153) (okL.all _ ⟨(isH.ok h78 (by decide)), trivial, trivial, trivial⟩) (okS.all _ ⟨(isH.ok h78 (by decide)), trivial⟩) (fun ad S Q Qc hC hc k => V_callV (as := []) (st := [_]) (M' := MX10_pop) (ci := 10) (pc2 := 153) (dk D_X10_work 48 rfl) ml_10_107 mv_X10_pop rfl rfl (by decide) rfl (Nat.le_of_ble_eq_true rfl) rfl he75 (hC.k' h78) hc k) hc76 (kRI.k fun y77 κ79 h mo80 => ?_)
      refine K_if (pa := 156) (pb := 160) (lv2 := [(0, vR _), (1, vI _), (2, vI _)]) (st2 := [vR _]) (fun ad S Q _ k1 k2 => V_ifne (tgt := 160) (pc2 := 156) (dk D_X10_work 49 rfl) (by decide) rfl (fun q => k2 q) (fun q => k1 q)) (fun q81 => ?_) (fun q81 => ?_)
      · have h := h.1 q81
        refine K_p (pc2 := 157) (lv2 := [(0, vR _), (1, vI _), (2, vI _)]) (st2 := [vI _, vR _]) (fun ad S Q _ k => V_iconst (x := 1) (pc2 := 157) (dk D_X10_work 50 rfl) (by decide) rfl k) ?_
        refine K_p (pc2 := 161) (lv2 := [(0, vR _), (1, vI _), (2, vI _)]) (st2 := [vI _, vR _]) (fun ad S Q _ k => V_goto (tgt := 161) (dk D_X10_work 51 rfl) (by decide) k) ?_
        exact h
      · have h := h.2 q81
        refine K_p (pc2 := 161) (lv2 := [(0, vR _), (1, vI _), (2, vI _)]) (st2 := [vI _, vR _]) (fun ad S Q _ k => V_iconst (x := 0) (pc2 := 161) (dk D_X10_work 52 rfl) (by decide) rfl k) ?_
        exact h
    · have h := h.2.2.2.2.2.2.2.2.2 (by rintro (hk | hk | hk | hk | hk | hk | hk | hk | hk) <;> (rw [hk] at q1; revert q1; decide))
      refine K_p (pc2 := 195) (lv2 := [(0, vR _), (1, vI _), (2, vI _)]) (st2 := [vR _]) (fun ad S Q _ k => V_aload_n (pc2 := 195) (dk D_X10_work 72 rfl) rfl (V_lg 0 rfl) rfl k) ?_
      refine K_p (pc2 := 196) (lv2 := [(0, vR _), (1, vI _), (2, vI _)]) (st2 := [vI _, vR _]) (fun ad S Q _ k => V_iload_n (pc2 := 196) (dk D_X10_work 73 rfl) rfl (V_lg 1 rfl) rfl k) ?_
      obtain ⟨h7, h⟩ := h
      obtain ⟨e3, he4, hc5⟩ := h
      refine K_call (as := [vR _, vI _]) (st := []) (pc2 := 199) (okL.all _ ⟨(isH.ok h7 (by decide)), trivial, trivial, trivial⟩) (okS.all _ trivial) (fun ad S Q Qc hC hc k => V_callV (as := [_]) (st := []) (M' := MX10_combine) (ci := 10) (pc2 := 199) (dk D_X10_work 74 rfl) ml_10_111 mv_X10_combine rfl rfl (by decide) rfl (Nat.le_of_ble_eq_true rfl) rfl he4 (hC.k' h7) hc k) hc5 (kRI.k fun y6 κ8 h mo9 => ?_)
      obtain ⟨h10, h⟩ := h
      exact K_ret (r := .inl (some (vI _))) (fun ad S Q _ k => V_zreturn (dk D_X10_work 75 rfl) rfl h10 k) h
    · have h := h.2.2.2.2.2.2.2.2.2 (by rintro (hk | hk | hk | hk | hk | hk | hk | hk | hk) <;> (rw [hk] at q1; revert q1; decide))
      refine K_p (pc2 := 195) (lv2 := [(0, vR _), (1, vI _), (2, vI _)]) (st2 := [vR _]) (fun ad S Q _ k => V_aload_n (pc2 := 195) (dk D_X10_work 72 rfl) rfl (V_lg 0 rfl) rfl k) ?_
      refine K_p (pc2 := 196) (lv2 := [(0, vR _), (1, vI _), (2, vI _)]) (st2 := [vI _, vR _]) (fun ad S Q _ k => V_iload_n (pc2 := 196) (dk D_X10_work 73 rfl) rfl (V_lg 1 rfl) rfl k) ?_
      obtain ⟨h7, h⟩ := h
      obtain ⟨e3, he4, hc5⟩ := h
      refine K_call (as := [vR _, vI _]) (st := []) (pc2 := 199) (okL.all _ ⟨(isH.ok h7 (by decide)), trivial, trivial, trivial⟩) (okS.all _ trivial) (fun ad S Q Qc hC hc k => V_callV (as := [_]) (st := []) (M' := MX10_combine) (ci := 10) (pc2 := 199) (dk D_X10_work 74 rfl) ml_10_111 mv_X10_combine rfl rfl (by decide) rfl (Nat.le_of_ble_eq_true rfl) rfl he4 (hC.k' h7) hc k) hc5 (kRI.k fun y6 κ8 h mo9 => ?_)
      obtain ⟨h10, h⟩ := h
      exact K_ret (r := .inl (some (vI _))) (fun ad S Q _ k => V_zreturn (dk D_X10_work 75 rfl) rfl h10 k) h
    · have h := h.2.2.2.2.2.2.2.2.2 (by rintro (hk | hk | hk | hk | hk | hk | hk | hk | hk) <;> (rw [hk] at q1; revert q1; decide))
      refine K_p (pc2 := 195) (lv2 := [(0, vR _), (1, vI _), (2, vI _)]) (st2 := [vR _]) (fun ad S Q _ k => V_aload_n (pc2 := 195) (dk D_X10_work 72 rfl) rfl (V_lg 0 rfl) rfl k) ?_
      refine K_p (pc2 := 196) (lv2 := [(0, vR _), (1, vI _), (2, vI _)]) (st2 := [vI _, vR _]) (fun ad S Q _ k => V_iload_n (pc2 := 196) (dk D_X10_work 73 rfl) rfl (V_lg 1 rfl) rfl k) ?_
      obtain ⟨h7, h⟩ := h
      obtain ⟨e3, he4, hc5⟩ := h
      refine K_call (as := [vR _, vI _]) (st := []) (pc2 := 199) (okL.all _ ⟨(isH.ok h7 (by decide)), trivial, trivial, trivial⟩) (okS.all _ trivial) (fun ad S Q Qc hC hc k => V_callV (as := [_]) (st := []) (M' := MX10_combine) (ci := 10) (pc2 := 199) (dk D_X10_work 74 rfl) ml_10_111 mv_X10_combine rfl rfl (by decide) rfl (Nat.le_of_ble_eq_true rfl) rfl he4 (hC.k' h7) hc k) hc5 (kRI.k fun y6 κ8 h mo9 => ?_)
      obtain ⟨h10, h⟩ := h
      exact K_ret (r := .inl (some (vI _))) (fun ad S Q _ k => V_zreturn (dk D_X10_work 75 rfl) rfl h10 k) h
    · have h := h.2.2.2.2.2.2.2.2.2 (by rintro (hk | hk | hk | hk | hk | hk | hk | hk | hk) <;> (rw [hk] at q1; revert q1; decide))
      refine K_p (pc2 := 195) (lv2 := [(0, vR _), (1, vI _), (2, vI _)]) (st2 := [vR _]) (fun ad S Q _ k => V_aload_n (pc2 := 195) (dk D_X10_work 72 rfl) rfl (V_lg 0 rfl) rfl k) ?_
      refine K_p (pc2 := 196) (lv2 := [(0, vR _), (1, vI _), (2, vI _)]) (st2 := [vI _, vR _]) (fun ad S Q _ k => V_iload_n (pc2 := 196) (dk D_X10_work 73 rfl) rfl (V_lg 1 rfl) rfl k) ?_
      obtain ⟨h7, h⟩ := h
      obtain ⟨e3, he4, hc5⟩ := h
      refine K_call (as := [vR _, vI _]) (st := []) (pc2 := 199) (okL.all _ ⟨(isH.ok h7 (by decide)), trivial, trivial, trivial⟩) (okS.all _ trivial) (fun ad S Q Qc hC hc k => V_callV (as := [_]) (st := []) (M' := MX10_combine) (ci := 10) (pc2 := 199) (dk D_X10_work 74 rfl) ml_10_111 mv_X10_combine rfl rfl (by decide) rfl (Nat.le_of_ble_eq_true rfl) rfl he4 (hC.k' h7) hc k) hc5 (kRI.k fun y6 κ8 h mo9 => ?_)
      obtain ⟨h10, h⟩ := h
      exact K_ret (r := .inl (some (vI _))) (fun ad S Q _ k => V_zreturn (dk D_X10_work 75 rfl) rfl h10 k) h
    · have h := h.2.2.2.2.2.2.2.2.2 (by rintro (hk | hk | hk | hk | hk | hk | hk | hk | hk) <;> (rw [hk] at q1; revert q1; decide))
      refine K_p (pc2 := 195) (lv2 := [(0, vR _), (1, vI _), (2, vI _)]) (st2 := [vR _]) (fun ad S Q _ k => V_aload_n (pc2 := 195) (dk D_X10_work 72 rfl) rfl (V_lg 0 rfl) rfl k) ?_
      refine K_p (pc2 := 196) (lv2 := [(0, vR _), (1, vI _), (2, vI _)]) (st2 := [vI _, vR _]) (fun ad S Q _ k => V_iload_n (pc2 := 196) (dk D_X10_work 73 rfl) rfl (V_lg 1 rfl) rfl k) ?_
      obtain ⟨h7, h⟩ := h
      obtain ⟨e3, he4, hc5⟩ := h
      refine K_call (as := [vR _, vI _]) (st := []) (pc2 := 199) (okL.all _ ⟨(isH.ok h7 (by decide)), trivial, trivial, trivial⟩) (okS.all _ trivial) (fun ad S Q Qc hC hc k => V_callV (as := [_]) (st := []) (M' := MX10_combine) (ci := 10) (pc2 := 199) (dk D_X10_work 74 rfl) ml_10_111 mv_X10_combine rfl rfl (by decide) rfl (Nat.le_of_ble_eq_true rfl) rfl he4 (hC.k' h7) hc k) hc5 (kRI.k fun y6 κ8 h mo9 => ?_)
      obtain ⟨h10, h⟩ := h
      exact K_ret (r := .inl (some (vI _))) (fun ad S Q _ k => V_zreturn (dk D_X10_work 75 rfl) rfl h10 k) h
    · have h := h.2.2.2.2.2.2.2.2.2 (by rintro (hk | hk | hk | hk | hk | hk | hk | hk | hk) <;> (rw [hk] at q1; revert q1; decide))
      refine K_p (pc2 := 195) (lv2 := [(0, vR _), (1, vI _), (2, vI _)]) (st2 := [vR _]) (fun ad S Q _ k => V_aload_n (pc2 := 195) (dk D_X10_work 72 rfl) rfl (V_lg 0 rfl) rfl k) ?_
      refine K_p (pc2 := 196) (lv2 := [(0, vR _), (1, vI _), (2, vI _)]) (st2 := [vI _, vR _]) (fun ad S Q _ k => V_iload_n (pc2 := 196) (dk D_X10_work 73 rfl) rfl (V_lg 1 rfl) rfl k) ?_
      obtain ⟨h7, h⟩ := h
      obtain ⟨e3, he4, hc5⟩ := h
      refine K_call (as := [vR _, vI _]) (st := []) (pc2 := 199) (okL.all _ ⟨(isH.ok h7 (by decide)), trivial, trivial, trivial⟩) (okS.all _ trivial) (fun ad S Q Qc hC hc k => V_callV (as := [_]) (st := []) (M' := MX10_combine) (ci := 10) (pc2 := 199) (dk D_X10_work 74 rfl) ml_10_111 mv_X10_combine rfl rfl (by decide) rfl (Nat.le_of_ble_eq_true rfl) rfl he4 (hC.k' h7) hc k) hc5 (kRI.k fun y6 κ8 h mo9 => ?_)
      obtain ⟨h10, h⟩ := h
      exact K_ret (r := .inl (some (vI _))) (fun ad S Q _ k => V_zreturn (dk D_X10_work 75 rfl) rfl h10 k) h
    · have h := h.2.2.2.2.2.2.2.2.2 (by rintro (hk | hk | hk | hk | hk | hk | hk | hk | hk) <;> (rw [hk] at q1; revert q1; decide))
      refine K_p (pc2 := 195) (lv2 := [(0, vR _), (1, vI _), (2, vI _)]) (st2 := [vR _]) (fun ad S Q _ k => V_aload_n (pc2 := 195) (dk D_X10_work 72 rfl) rfl (V_lg 0 rfl) rfl k) ?_
      refine K_p (pc2 := 196) (lv2 := [(0, vR _), (1, vI _), (2, vI _)]) (st2 := [vI _, vR _]) (fun ad S Q _ k => V_iload_n (pc2 := 196) (dk D_X10_work 73 rfl) rfl (V_lg 1 rfl) rfl k) ?_
      obtain ⟨h7, h⟩ := h
      obtain ⟨e3, he4, hc5⟩ := h
      refine K_call (as := [vR _, vI _]) (st := []) (pc2 := 199) (okL.all _ ⟨(isH.ok h7 (by decide)), trivial, trivial, trivial⟩) (okS.all _ trivial) (fun ad S Q Qc hC hc k => V_callV (as := [_]) (st := []) (M' := MX10_combine) (ci := 10) (pc2 := 199) (dk D_X10_work 74 rfl) ml_10_111 mv_X10_combine rfl rfl (by decide) rfl (Nat.le_of_ble_eq_true rfl) rfl he4 (hC.k' h7) hc k) hc5 (kRI.k fun y6 κ8 h mo9 => ?_)
      obtain ⟨h10, h⟩ := h
      exact K_ret (r := .inl (some (vI _))) (fun ad S Q _ k => V_zreturn (dk D_X10_work 75 rfl) rfl h10 k) h
    · have hx : x1 = 15 := Int32.toInt_inj.mp (by rw [q1]; decide)
      have h := h.2.2.2.2.2.2.2.1 hx
      refine K_p (pc2 := 167) (lv2 := [(0, vR _), (1, vI _), (2, vI _)]) (st2 := [vR _]) (fun ad S Q _ k => V_aload_n (pc2 := 167) (dk D_X10_work 56 rfl) rfl (V_lg 0 rfl) rfl k) ?_
      refine K_p (pc2 := 168) (lv2 := [(0, vR _), (1, vI _), (2, vI _)]) (st2 := [vI _, vR _]) (fun ad S Q _ k => V_iload_n (pc2 := 168) (dk D_X10_work 57 rfl) rfl (V_lg 2 rfl) rfl k) ?_
      obtain ⟨h82, h⟩ := h
      refine K_putI kc10 (pc2 := 171) 9 (dk D_X10_work 58 rfl) fl_10_70 (by decide) (Or.inl rfl) rfl rfl h82 (isH.n69 h82 (by decide)) ?_
      have h := h _ rfl
      refine K_p (pc2 := 172) (lv2 := [(0, vR _), (1, vI _), (2, vI _)]) (st2 := [vI _]) (fun ad S Q _ k => V_iconst (x := 1) (pc2 := 172) (dk D_X10_work 59 rfl) (by decide) rfl k) ?_
      exact K_ret (r := .inl (some (vI _))) (fun ad S Q _ k => V_zreturn (dk D_X10_work 60 rfl) rfl (Or.inr rfl) k) h
    · have hx : x1 = 16 := Int32.toInt_inj.mp (by rw [q1]; decide)
      have h := h.2.2.2.2.2.2.2.2.1 hx
      refine K_p (pc2 := 174) (lv2 := [(0, vR _), (1, vI _), (2, vI _)]) (st2 := [vR _]) (fun ad S Q _ k => V_aload_n (pc2 := 174) (dk D_X10_work 61 rfl) rfl (V_lg 0 rfl) rfl k) ?_
      refine K_p (pc2 := 175) (lv2 := [(0, vR _), (1, vI _), (2, vI _)]) (st2 := [vR _, vR _]) (fun ad S Q _ k => V_aload_n (pc2 := 175) (dk D_X10_work 62 rfl) rfl (V_lg 0 rfl) rfl k) ?_
      obtain ⟨h88, h⟩ := h
      obtain ⟨e84, he85, hc86⟩ := h
      refine K_call (as := [vR _]) (st := [vR _]) (pc2 := 178) (okL.all _ ⟨(isH.ok h88 (by decide)), trivial, trivial, trivial⟩) (okS.all _ ⟨(isH.ok h88 (by decide)), trivial⟩) (fun ad S Q Qc hC hc k => V_callV (as := []) (st := [_]) (M' := MX10_pop) (ci := 10) (pc2 := 178) (dk D_X10_work 63 rfl) ml_10_107 mv_X10_pop rfl rfl (by decide) rfl (Nat.le_of_ble_eq_true rfl) rfl he85 (hC.k' h88) hc k) hc86 (kRI.k fun y87 κ89 h mo90 => ?_)
      refine K_if (pa := 181) (pb := 185) (lv2 := [(0, vR _), (1, vI _), (2, vI _)]) (st2 := [vR _]) (fun ad S Q _ k1 k2 => V_ifne (tgt := 185) (pc2 := 181) (dk D_X10_work 64 rfl) (by decide) rfl (fun q => k2 q) (fun q => k1 q)) (fun q91 => ?_) (fun q91 => ?_)
      · have h := h.1 q91
        refine K_p (pc2 := 182) (lv2 := [(0, vR _), (1, vI _), (2, vI _)]) (st2 := [vI _, vR _]) (fun ad S Q _ k => V_iload_n (pc2 := 182) (dk D_X10_work 65 rfl) rfl (V_lg 2 rfl) rfl k) ?_
        refine K_p (pc2 := 189) (lv2 := [(0, vR _), (1, vI _), (2, vI _)]) (st2 := [vI _, vR _]) (fun ad S Q _ k => V_goto (tgt := 189) (dk D_X10_work 66 rfl) (by decide) k) ?_
        exact h
      · have h := h.2 q91
        refine K_p (pc2 := 186) (lv2 := [(0, vR _), (1, vI _), (2, vI _)]) (st2 := [vR _, vR _]) (fun ad S Q _ k => V_aload_n (pc2 := 186) (dk D_X10_work 67 rfl) rfl (V_lg 0 rfl) rfl k) ?_
        refine K_getI kc10 (pc2 := 189) 9 (dk D_X10_work 68 rfl) fl_10_70 (by decide) (fun _ _ => rfl) rfl (isH.mo h88 (by decide) mo90) ?_
        exact h
theorem k_10_work_161 {X : Cx} {d : Nat} {κ : Km} {Q : Res → Km → Prop} (r0 : Nat) (x1 : Int32) (x2 : Int32) (t0 : Nat) (t1 : Int32) (h : (isH κ t0 10) ∧ (isH κ r0 10) ∧ ∃ e1 : Nat, e1 + 1 ≤ d ∧ KC' X e1 MX10_push [vR t0, vI t1] κ (kRV fun  κ6 => Q (.inl (some (vI 1))) κ6)) : K X d MX10_work 161 [(0, vR r0), (1, vI x1), (2, vI x2)] [vI t1, vR t0] κ Q := by
  obtain ⟨h4, h⟩ := h
  obtain ⟨h5, h⟩ := h
  obtain ⟨e1, he2, hc3⟩ := h
  refine K_call (as := [vR _, vI _]) (st := []) (pc2 := 164) (okL.all _ ⟨(isH.ok h5 (by decide)), trivial, trivial, trivial⟩) (okS.all _ trivial) (fun ad S Q Qc hC hc k => V_callV (as := [_]) (st := []) (M' := MX10_push) (ci := 10) (pc2 := 164) (dk D_X10_work 53 rfl) ml_10_100 mv_X10_push rfl rfl (by decide) rfl (Nat.le_of_ble_eq_true rfl) rfl he2 (hC.k' h4) hc k) hc3 (kRV.k fun  κ6 h mo7 => ?_)
  refine K_p (pc2 := 165) (lv2 := [(0, vR _), (1, vI _), (2, vI _)]) (st2 := [vI _]) (fun ad S Q _ k => V_iconst (x := 1) (pc2 := 165) (dk D_X10_work 54 rfl) (by decide) rfl k) ?_
  exact K_ret (r := .inl (some (vI _))) (fun ad S Q _ k => V_zreturn (dk D_X10_work 55 rfl) rfl (Or.inr rfl) k) h
theorem k_10_work_189 {X : Cx} {d : Nat} {κ : Km} {Q : Res → Km → Prop} (r0 : Nat) (x1 : Int32) (x2 : Int32) (t0 : Nat) (t1 : Int32) (h : (isH κ t0 10) ∧ ∀ κ2 : Km, κ2 = cI κ t0 9 t1 → Q (.inl (some (vI 1))) κ2) : K X d MX10_work 189 [(0, vR r0), (1, vI x1), (2, vI x2)] [vI t1, vR t0] κ Q := by
  obtain ⟨h1, h⟩ := h
  refine K_putI kc10 (pc2 := 192) 9 (dk D_X10_work 69 rfl) fl_10_70 (by decide) (Or.inl rfl) rfl rfl h1 (isH.n69 h1 (by decide)) ?_
  have h := h _ rfl
  refine K_p (pc2 := 193) (lv2 := [(0, vR _), (1, vI _), (2, vI _)]) (st2 := [vI _]) (fun ad S Q _ k => V_iconst (x := 1) (pc2 := 193) (dk D_X10_work 70 rfl) (by decide) rfl k) ?_
  exact K_ret (r := .inl (some (vI _))) (fun ad S Q _ k => V_zreturn (dk D_X10_work 71 rfl) rfl (Or.inr rfl) k) h
theorem k_10_combine_0 {X : Cx} {d : Nat} {κ : Km} {Q : Res → Km → Prop} (r0 : Nat) (x1 : Int32) (h : (isH κ r0 10) ∧ ∃ e1 : Nat, e1 + 1 ≤ d ∧ KC' X e1 MX10_pop [vR r0] κ (kRI fun y4 κ6 => ∃ e8 : Nat, e8 + 1 ≤ d ∧ KC' X e8 MX10_pop [vR r0] κ6 (kRI fun y11 κ12 => ((x1 = 8 → ∃ e24 : Nat, e24 + 1 ≤ d ∧ KC' X e24 MX10_push [vR r0, vI (y11 + y4)] κ12 (kRV fun  κ27 => Q (.inl (some (vI 1))) κ27)) ∧ (x1 = 9 → ∃ e29 : Nat, e29 + 1 ≤ d ∧ KC' X e29 MX10_push [vR r0, vI (y11 - y4)] κ12 (kRV fun  κ32 => Q (.inl (some (vI 1))) κ32)) ∧ (x1 = 10 → ∃ e34 : Nat, e34 + 1 ≤ d ∧ KC' X e34 MX10_push [vR r0, vI (y11 * y4)] κ12 (kRV fun  κ37 => Q (.inl (some (vI 1))) κ37)) ∧ (x1 = 13 → ((y4 ≤ y11 → K X d MX10_combine 90 [(0, vR r0), (1, vI x1), (2, vI y4), (3, vI y11)] [vI 0, vR r0] κ12 Q) ∧ (¬ y4 ≤ y11 → K X d MX10_combine 90 [(0, vR r0), (1, vI x1), (2, vI y4), (3, vI y11)] [vI 1, vR r0] κ12 Q))) ∧ (x1 = 14 → ((y11 = y4 → K X d MX10_combine 106 [(0, vR r0), (1, vI x1), (2, vI y4), (3, vI y11)] [vI 1, vR r0] κ12 Q) ∧ (¬ y11 = y4 → K X d MX10_combine 106 [(0, vR r0), (1, vI x1), (2, vI y4), (3, vI y11)] [vI 0, vR r0] κ12 Q))) ∧ (¬ (x1 = 8 ∨ x1 = 9 ∨ x1 = 10 ∨ x1 = 13 ∨ x1 = 14) → ((y4 = 0 → Q (.inl (some (vI 0))) κ12) ∧ (¬ y4 = 0 → ((x1 = 11 → (¬ (y4 : Int32) = 0) ∧ K X d MX10_combine 133 [(0, vR r0), (1, vI x1), (2, vI y4), (3, vI y11)] [vI (y11 / y4), vR r0] κ12 Q) ∧ (¬ x1 = 11 → (¬ (y4 : Int32) = 0) ∧ K X d MX10_combine 133 [(0, vR r0), (1, vI x1), (2, vI y4), (3, vI y11)] [vI (y11 - y11 / y4 * y4), vR r0] κ12 Q))))))))) : K X d MX10_combine 0 [(0, vR r0), (1, vI x1)] [] κ Q := by
  refine K_p (pc2 := 1) (lv2 := [(0, vR _), (1, vI _)]) (st2 := [vR _]) (fun ad S Q _ k => V_aload_n (pc2 := 1) (dk D_X10_combine 0 rfl) rfl (V_lg 0 rfl) rfl k) ?_
  obtain ⟨h5, h⟩ := h
  obtain ⟨e1, he2, hc3⟩ := h
  refine K_call (as := [vR _]) (st := []) (pc2 := 4) (okL.all _ ⟨(isH.ok h5 (by decide)), trivial, trivial⟩) (okS.all _ trivial) (fun ad S Q Qc hC hc k => V_callV (as := []) (st := []) (M' := MX10_pop) (ci := 10) (pc2 := 4) (dk D_X10_combine 1 rfl) ml_10_107 mv_X10_pop rfl rfl (by decide) rfl (Nat.le_of_ble_eq_true rfl) rfl he2 (hC.k' h5) hc k) hc3 (kRI.k fun y4 κ6 h mo7 => ?_)
  refine K_p (pc2 := 5) (lv2 := [(0, vR _), (1, vI _), (2, vI _)]) (st2 := []) (fun ad S Q _ k => V_istore_n (pc2 := 5) (lv2 := [(0, _), (1, _), (2, _)]) (dk D_X10_combine 2 rfl) rfl (by decide) rfl rfl k) ?_
  refine K_p (pc2 := 6) (lv2 := [(0, vR _), (1, vI _), (2, vI _)]) (st2 := [vR _]) (fun ad S Q _ k => V_aload_n (pc2 := 6) (dk D_X10_combine 3 rfl) rfl (V_lg 0 rfl) rfl k) ?_
  obtain ⟨e8, he9, hc10⟩ := h
  refine K_call (as := [vR _]) (st := []) (pc2 := 9) (okL.all _ ⟨(isH.ok (isH.mo h5 (by decide) mo7) (by decide)), trivial, trivial, trivial⟩) (okS.all _ trivial) (fun ad S Q Qc hC hc k => V_callV (as := []) (st := []) (M' := MX10_pop) (ci := 10) (pc2 := 9) (dk D_X10_combine 4 rfl) ml_10_107 mv_X10_pop rfl rfl (by decide) rfl (Nat.le_of_ble_eq_true rfl) rfl he9 (hC.k' (isH.mo h5 (by decide) mo7)) hc k) hc10 (kRI.k fun y11 κ12 h mo13 => ?_)
  refine K_p (pc2 := 10) (lv2 := [(0, vR _), (1, vI _), (2, vI _), (3, vI _)]) (st2 := []) (fun ad S Q _ k => V_istore_n (pc2 := 10) (lv2 := [(0, _), (1, _), (2, _), (3, _)]) (dk D_X10_combine 5 rfl) rfl (by decide) rfl rfl k) ?_
  refine K_p (pc2 := 11) (lv2 := [(0, vR _), (1, vI _), (2, vI _), (3, vI _)]) (st2 := [vI _]) (fun ad S Q _ k => V_iload_n (pc2 := 11) (dk D_X10_combine 6 rfl) rfl (V_lg 1 rfl) rfl k) ?_
  refine K_table (dk D_X10_combine 7 rfl) [52, 61, 70, 111, 111, 79, 95] 111 (by decide) (by decide) rfl (by decide) (fun q14 => ?_) (fun j15 hj q14 => ?_)
  · have h := h.2.2.2.2.2 (by rintro (hk | hk | hk | hk | hk) <;> (rw [hk] at q14; revert q14; decide))
    refine K_p (pc2 := 112) (lv2 := [(0, vR _), (1, vI _), (2, vI _), (3, vI _)]) (st2 := [vI _]) (fun ad S Q _ k => V_iload_n (pc2 := 112) (dk D_X10_combine 49 rfl) rfl (V_lg 2 rfl) rfl k) ?_
    refine K_if (pa := 115) (pb := 117) (lv2 := [(0, vR _), (1, vI _), (2, vI _), (3, vI _)]) (st2 := []) (fun ad S Q _ k1 k2 => V_ifne (tgt := 117) (pc2 := 115) (dk D_X10_combine 50 rfl) (by decide) rfl (fun q => k2 q) (fun q => k1 q)) (fun q20 => ?_) (fun q20 => ?_)
    · have h := h.1 q20
      refine K_p (pc2 := 116) (lv2 := [(0, vR _), (1, vI _), (2, vI _), (3, vI _)]) (st2 := [vI _]) (fun ad S Q _ k => V_iconst (x := 0) (pc2 := 116) (dk D_X10_combine 51 rfl) (by decide) rfl k) ?_
      exact K_ret (r := .inl (some (vI _))) (fun ad S Q _ k => V_zreturn (dk D_X10_combine 52 rfl) rfl (Or.inl rfl) k) h
    · have h := h.2 q20
      refine K_p (pc2 := 118) (lv2 := [(0, vR _), (1, vI _), (2, vI _), (3, vI _)]) (st2 := [vR _]) (fun ad S Q _ k => V_aload_n (pc2 := 118) (dk D_X10_combine 53 rfl) rfl (V_lg 0 rfl) rfl k) ?_
      refine K_p (pc2 := 119) (lv2 := [(0, vR _), (1, vI _), (2, vI _), (3, vI _)]) (st2 := [vI _, vR _]) (fun ad S Q _ k => V_iload_n (pc2 := 119) (dk D_X10_combine 54 rfl) rfl (V_lg 1 rfl) rfl k) ?_
      refine K_p (pc2 := 121) (lv2 := [(0, vR _), (1, vI _), (2, vI _), (3, vI _)]) (st2 := [vI _, vI _, vR _]) (fun ad S Q _ k => V_bipush (x := 11) (pc2 := 121) (dk D_X10_combine 55 rfl) (by decide) rfl k) ?_
      refine K_if (pa := 124) (pb := 130) (lv2 := [(0, vR _), (1, vI _), (2, vI _), (3, vI _)]) (st2 := [vR _]) (fun ad S Q _ k1 k2 => V_cmpne (tgt := 130) (pc2 := 124) (dk D_X10_combine 56 rfl) (by decide) rfl (fun q => k2 q) (fun q => k1 q)) (fun q21 => ?_) (fun q21 => ?_)
      · have h := h.1 q21
        refine K_p (pc2 := 125) (lv2 := [(0, vR _), (1, vI _), (2, vI _), (3, vI _)]) (st2 := [vI _, vR _]) (fun ad S Q _ k => V_iload_n (pc2 := 125) (dk D_X10_combine 57 rfl) rfl (V_lg 3 rfl) rfl k) ?_
        refine K_p (pc2 := 126) (lv2 := [(0, vR _), (1, vI _), (2, vI _), (3, vI _)]) (st2 := [vI _, vI _, vR _]) (fun ad S Q _ k => V_iload_n (pc2 := 126) (dk D_X10_combine 58 rfl) rfl (V_lg 2 rfl) rfl k) ?_
        obtain ⟨h22, h⟩ := h
        refine K_p (pc2 := 127) (lv2 := [(0, vR _), (1, vI _), (2, vI _), (3, vI _)]) (st2 := [vI _, vR _]) (fun ad S Q _ k => V_idiv (pc2 := 127) (dk D_X10_combine 59 rfl) rfl h22 k) ?_
        refine K_p (pc2 := 133) (lv2 := [(0, vR _), (1, vI _), (2, vI _), (3, vI _)]) (st2 := [vI _, vR _]) (fun ad S Q _ k => V_goto (tgt := 133) (dk D_X10_combine 60 rfl) (by decide) k) ?_
        exact h
      · have h := h.2 q21
        refine K_p (pc2 := 131) (lv2 := [(0, vR _), (1, vI _), (2, vI _), (3, vI _)]) (st2 := [vI _, vR _]) (fun ad S Q _ k => V_iload_n (pc2 := 131) (dk D_X10_combine 61 rfl) rfl (V_lg 3 rfl) rfl k) ?_
        refine K_p (pc2 := 132) (lv2 := [(0, vR _), (1, vI _), (2, vI _), (3, vI _)]) (st2 := [vI _, vI _, vR _]) (fun ad S Q _ k => V_iload_n (pc2 := 132) (dk D_X10_combine 62 rfl) rfl (V_lg 2 rfl) rfl k) ?_
        obtain ⟨h23, h⟩ := h
        refine K_p (pc2 := 133) (lv2 := [(0, vR _), (1, vI _), (2, vI _), (3, vI _)]) (st2 := [vI _, vR _]) (fun ad S Q _ k => V_irem (pc2 := 133) (dk D_X10_combine 63 rfl) rfl h23 k) ?_
        exact h
  · have hj2 : j15 = 0 ∨ j15 = 1 ∨ j15 = 2 ∨ j15 = 3 ∨ j15 = 4 ∨ j15 = 5 ∨ j15 = 6 := by simp at hj; omega
    clear hj
    rcases hj2 with rfl | rfl | rfl | rfl | rfl | rfl | rfl
    · have hx : x1 = 8 := Int32.toInt_inj.mp (by rw [q14]; decide)
      have h := h.1 hx
      refine K_p (pc2 := 53) (lv2 := [(0, vR _), (1, vI _), (2, vI _), (3, vI _)]) (st2 := [vR _]) (fun ad S Q _ k => V_aload_n (pc2 := 53) (dk D_X10_combine 8 rfl) rfl (V_lg 0 rfl) rfl k) ?_
      refine K_p (pc2 := 54) (lv2 := [(0, vR _), (1, vI _), (2, vI _), (3, vI _)]) (st2 := [vI _, vR _]) (fun ad S Q _ k => V_iload_n (pc2 := 54) (dk D_X10_combine 9 rfl) rfl (V_lg 3 rfl) rfl k) ?_
      refine K_p (pc2 := 55) (lv2 := [(0, vR _), (1, vI _), (2, vI _), (3, vI _)]) (st2 := [vI _, vI _, vR _]) (fun ad S Q _ k => V_iload_n (pc2 := 55) (dk D_X10_combine 10 rfl) rfl (V_lg 2 rfl) rfl k) ?_
      refine K_p (pc2 := 56) (lv2 := [(0, vR _), (1, vI _), (2, vI _), (3, vI _)]) (st2 := [vI _, vR _]) (fun ad S Q _ k => V_iadd (pc2 := 56) (dk D_X10_combine 11 rfl) rfl k) ?_
      obtain ⟨e24, he25, hc26⟩ := h
      refine K_call (as := [vR _, vI _]) (st := []) (pc2 := 59) (okL.all _ ⟨(isH.ok (isH.mo (isH.mo h5 (by decide) mo7) (by decide) mo13) (by decide)), trivial, trivial, trivial, trivial⟩) (okS.all _ trivial) (fun ad S Q Qc hC hc k => V_callV (as := [_]) (st := []) (M' := MX10_push) (ci := 10) (pc2 := 59) (dk D_X10_combine 12 rfl) ml_10_100 mv_X10_push rfl rfl (by decide) rfl (Nat.le_of_ble_eq_true rfl) rfl he25 (hC.k' (isH.mo (isH.mo h5 (by decide) mo7) (by decide) mo13)) hc k) hc26 (kRV.k fun  κ27 h mo28 => ?_)
      refine K_p (pc2 := 60) (lv2 := [(0, vR _), (1, vI _), (2, vI _), (3, vI _)]) (st2 := [vI _]) (fun ad S Q _ k => V_iconst (x := 1) (pc2 := 60) (dk D_X10_combine 13 rfl) (by decide) rfl k) ?_
      exact K_ret (r := .inl (some (vI _))) (fun ad S Q _ k => V_zreturn (dk D_X10_combine 14 rfl) rfl (Or.inr rfl) k) h
    · have hx : x1 = 9 := Int32.toInt_inj.mp (by rw [q14]; decide)
      have h := h.2.1 hx
      refine K_p (pc2 := 62) (lv2 := [(0, vR _), (1, vI _), (2, vI _), (3, vI _)]) (st2 := [vR _]) (fun ad S Q _ k => V_aload_n (pc2 := 62) (dk D_X10_combine 15 rfl) rfl (V_lg 0 rfl) rfl k) ?_
      refine K_p (pc2 := 63) (lv2 := [(0, vR _), (1, vI _), (2, vI _), (3, vI _)]) (st2 := [vI _, vR _]) (fun ad S Q _ k => V_iload_n (pc2 := 63) (dk D_X10_combine 16 rfl) rfl (V_lg 3 rfl) rfl k) ?_
      refine K_p (pc2 := 64) (lv2 := [(0, vR _), (1, vI _), (2, vI _), (3, vI _)]) (st2 := [vI _, vI _, vR _]) (fun ad S Q _ k => V_iload_n (pc2 := 64) (dk D_X10_combine 17 rfl) rfl (V_lg 2 rfl) rfl k) ?_
      refine K_p (pc2 := 65) (lv2 := [(0, vR _), (1, vI _), (2, vI _), (3, vI _)]) (st2 := [vI _, vR _]) (fun ad S Q _ k => V_isub (pc2 := 65) (dk D_X10_combine 18 rfl) rfl k) ?_
      obtain ⟨e29, he30, hc31⟩ := h
      refine K_call (as := [vR _, vI _]) (st := []) (pc2 := 68) (okL.all _ ⟨(isH.ok (isH.mo (isH.mo h5 (by decide) mo7) (by decide) mo13) (by decide)), trivial, trivial, trivial, trivial⟩) (okS.all _ trivial) (fun ad S Q Qc hC hc k => V_callV (as := [_]) (st := []) (M' := MX10_push) (ci := 10) (pc2 := 68) (dk D_X10_combine 19 rfl) ml_10_100 mv_X10_push rfl rfl (by decide) rfl (Nat.le_of_ble_eq_true rfl) rfl he30 (hC.k' (isH.mo (isH.mo h5 (by decide) mo7) (by decide) mo13)) hc k) hc31 (kRV.k fun  κ32 h mo33 => ?_)
      refine K_p (pc2 := 69) (lv2 := [(0, vR _), (1, vI _), (2, vI _), (3, vI _)]) (st2 := [vI _]) (fun ad S Q _ k => V_iconst (x := 1) (pc2 := 69) (dk D_X10_combine 20 rfl) (by decide) rfl k) ?_
      exact K_ret (r := .inl (some (vI _))) (fun ad S Q _ k => V_zreturn (dk D_X10_combine 21 rfl) rfl (Or.inr rfl) k) h
    · have hx : x1 = 10 := Int32.toInt_inj.mp (by rw [q14]; decide)
      have h := h.2.2.1 hx
      refine K_p (pc2 := 71) (lv2 := [(0, vR _), (1, vI _), (2, vI _), (3, vI _)]) (st2 := [vR _]) (fun ad S Q _ k => V_aload_n (pc2 := 71) (dk D_X10_combine 22 rfl) rfl (V_lg 0 rfl) rfl k) ?_
      refine K_p (pc2 := 72) (lv2 := [(0, vR _), (1, vI _), (2, vI _), (3, vI _)]) (st2 := [vI _, vR _]) (fun ad S Q _ k => V_iload_n (pc2 := 72) (dk D_X10_combine 23 rfl) rfl (V_lg 3 rfl) rfl k) ?_
      refine K_p (pc2 := 73) (lv2 := [(0, vR _), (1, vI _), (2, vI _), (3, vI _)]) (st2 := [vI _, vI _, vR _]) (fun ad S Q _ k => V_iload_n (pc2 := 73) (dk D_X10_combine 24 rfl) rfl (V_lg 2 rfl) rfl k) ?_
      refine K_p (pc2 := 74) (lv2 := [(0, vR _), (1, vI _), (2, vI _), (3, vI _)]) (st2 := [vI _, vR _]) (fun ad S Q _ k => V_imul (pc2 := 74) (dk D_X10_combine 25 rfl) rfl k) ?_
      obtain ⟨e34, he35, hc36⟩ := h
      refine K_call (as := [vR _, vI _]) (st := []) (pc2 := 77) (okL.all _ ⟨(isH.ok (isH.mo (isH.mo h5 (by decide) mo7) (by decide) mo13) (by decide)), trivial, trivial, trivial, trivial⟩) (okS.all _ trivial) (fun ad S Q Qc hC hc k => V_callV (as := [_]) (st := []) (M' := MX10_push) (ci := 10) (pc2 := 77) (dk D_X10_combine 26 rfl) ml_10_100 mv_X10_push rfl rfl (by decide) rfl (Nat.le_of_ble_eq_true rfl) rfl he35 (hC.k' (isH.mo (isH.mo h5 (by decide) mo7) (by decide) mo13)) hc k) hc36 (kRV.k fun  κ37 h mo38 => ?_)
      refine K_p (pc2 := 78) (lv2 := [(0, vR _), (1, vI _), (2, vI _), (3, vI _)]) (st2 := [vI _]) (fun ad S Q _ k => V_iconst (x := 1) (pc2 := 78) (dk D_X10_combine 27 rfl) (by decide) rfl k) ?_
      exact K_ret (r := .inl (some (vI _))) (fun ad S Q _ k => V_zreturn (dk D_X10_combine 28 rfl) rfl (Or.inr rfl) k) h
    · have h := h.2.2.2.2.2 (by rintro (hk | hk | hk | hk | hk) <;> (rw [hk] at q14; revert q14; decide))
      refine K_p (pc2 := 112) (lv2 := [(0, vR _), (1, vI _), (2, vI _), (3, vI _)]) (st2 := [vI _]) (fun ad S Q _ k => V_iload_n (pc2 := 112) (dk D_X10_combine 49 rfl) rfl (V_lg 2 rfl) rfl k) ?_
      refine K_if (pa := 115) (pb := 117) (lv2 := [(0, vR _), (1, vI _), (2, vI _), (3, vI _)]) (st2 := []) (fun ad S Q _ k1 k2 => V_ifne (tgt := 117) (pc2 := 115) (dk D_X10_combine 50 rfl) (by decide) rfl (fun q => k2 q) (fun q => k1 q)) (fun q16 => ?_) (fun q16 => ?_)
      · have h := h.1 q16
        refine K_p (pc2 := 116) (lv2 := [(0, vR _), (1, vI _), (2, vI _), (3, vI _)]) (st2 := [vI _]) (fun ad S Q _ k => V_iconst (x := 0) (pc2 := 116) (dk D_X10_combine 51 rfl) (by decide) rfl k) ?_
        exact K_ret (r := .inl (some (vI _))) (fun ad S Q _ k => V_zreturn (dk D_X10_combine 52 rfl) rfl (Or.inl rfl) k) h
      · have h := h.2 q16
        refine K_p (pc2 := 118) (lv2 := [(0, vR _), (1, vI _), (2, vI _), (3, vI _)]) (st2 := [vR _]) (fun ad S Q _ k => V_aload_n (pc2 := 118) (dk D_X10_combine 53 rfl) rfl (V_lg 0 rfl) rfl k) ?_
        refine K_p (pc2 := 119) (lv2 := [(0, vR _), (1, vI _), (2, vI _), (3, vI _)]) (st2 := [vI _, vR _]) (fun ad S Q _ k => V_iload_n (pc2 := 119) (dk D_X10_combine 54 rfl) rfl (V_lg 1 rfl) rfl k) ?_
        refine K_p (pc2 := 121) (lv2 := [(0, vR _), (1, vI _), (2, vI _), (3, vI _)]) (st2 := [vI _, vI _, vR _]) (fun ad S Q _ k => V_bipush (x := 11) (pc2 := 121) (dk D_X10_combine 55 rfl) (by decide) rfl k) ?_
        refine K_if (pa := 124) (pb := 130) (lv2 := [(0, vR _), (1, vI _), (2, vI _), (3, vI _)]) (st2 := [vR _]) (fun ad S Q _ k1 k2 => V_cmpne (tgt := 130) (pc2 := 124) (dk D_X10_combine 56 rfl) (by decide) rfl (fun q => k2 q) (fun q => k1 q)) (fun q17 => ?_) (fun q17 => ?_)
        · have h := h.1 q17
          refine K_p (pc2 := 125) (lv2 := [(0, vR _), (1, vI _), (2, vI _), (3, vI _)]) (st2 := [vI _, vR _]) (fun ad S Q _ k => V_iload_n (pc2 := 125) (dk D_X10_combine 57 rfl) rfl (V_lg 3 rfl) rfl k) ?_
          refine K_p (pc2 := 126) (lv2 := [(0, vR _), (1, vI _), (2, vI _), (3, vI _)]) (st2 := [vI _, vI _, vR _]) (fun ad S Q _ k => V_iload_n (pc2 := 126) (dk D_X10_combine 58 rfl) rfl (V_lg 2 rfl) rfl k) ?_
          obtain ⟨h18, h⟩ := h
          refine K_p (pc2 := 127) (lv2 := [(0, vR _), (1, vI _), (2, vI _), (3, vI _)]) (st2 := [vI _, vR _]) (fun ad S Q _ k => V_idiv (pc2 := 127) (dk D_X10_combine 59 rfl) rfl h18 k) ?_
          refine K_p (pc2 := 133) (lv2 := [(0, vR _), (1, vI _), (2, vI _), (3, vI _)]) (st2 := [vI _, vR _]) (fun ad S Q _ k => V_goto (tgt := 133) (dk D_X10_combine 60 rfl) (by decide) k) ?_
          exact h
        · have h := h.2 q17
          refine K_p (pc2 := 131) (lv2 := [(0, vR _), (1, vI _), (2, vI _), (3, vI _)]) (st2 := [vI _, vR _]) (fun ad S Q _ k => V_iload_n (pc2 := 131) (dk D_X10_combine 61 rfl) rfl (V_lg 3 rfl) rfl k) ?_
          refine K_p (pc2 := 132) (lv2 := [(0, vR _), (1, vI _), (2, vI _), (3, vI _)]) (st2 := [vI _, vI _, vR _]) (fun ad S Q _ k => V_iload_n (pc2 := 132) (dk D_X10_combine 62 rfl) rfl (V_lg 2 rfl) rfl k) ?_
          obtain ⟨h19, h⟩ := h
          refine K_p (pc2 := 133) (lv2 := [(0, vR _), (1, vI _), (2, vI _), (3, vI _)]) (st2 := [vI _, vR _]) (fun ad S Q _ k => V_irem (pc2 := 133) (dk D_X10_combine 63 rfl) rfl h19 k) ?_
          exact h
    · have h := h.2.2.2.2.2 (by rintro (hk | hk | hk | hk | hk) <;> (rw [hk] at q14; revert q14; decide))
      refine K_p (pc2 := 112) (lv2 := [(0, vR _), (1, vI _), (2, vI _), (3, vI _)]) (st2 := [vI _]) (fun ad S Q _ k => V_iload_n (pc2 := 112) (dk D_X10_combine 49 rfl) rfl (V_lg 2 rfl) rfl k) ?_
      refine K_if (pa := 115) (pb := 117) (lv2 := [(0, vR _), (1, vI _), (2, vI _), (3, vI _)]) (st2 := []) (fun ad S Q _ k1 k2 => V_ifne (tgt := 117) (pc2 := 115) (dk D_X10_combine 50 rfl) (by decide) rfl (fun q => k2 q) (fun q => k1 q)) (fun q16 => ?_) (fun q16 => ?_)
      · have h := h.1 q16
        refine K_p (pc2 := 116) (lv2 := [(0, vR _), (1, vI _), (2, vI _), (3, vI _)]) (st2 := [vI _]) (fun ad S Q _ k => V_iconst (x := 0) (pc2 := 116) (dk D_X10_combine 51 rfl) (by decide) rfl k) ?_
        exact K_ret (r := .inl (some (vI _))) (fun ad S Q _ k => V_zreturn (dk D_X10_combine 52 rfl) rfl (Or.inl rfl) k) h
      · have h := h.2 q16
        refine K_p (pc2 := 118) (lv2 := [(0, vR _), (1, vI _), (2, vI _), (3, vI _)]) (st2 := [vR _]) (fun ad S Q _ k => V_aload_n (pc2 := 118) (dk D_X10_combine 53 rfl) rfl (V_lg 0 rfl) rfl k) ?_
        refine K_p (pc2 := 119) (lv2 := [(0, vR _), (1, vI _), (2, vI _), (3, vI _)]) (st2 := [vI _, vR _]) (fun ad S Q _ k => V_iload_n (pc2 := 119) (dk D_X10_combine 54 rfl) rfl (V_lg 1 rfl) rfl k) ?_
        refine K_p (pc2 := 121) (lv2 := [(0, vR _), (1, vI _), (2, vI _), (3, vI _)]) (st2 := [vI _, vI _, vR _]) (fun ad S Q _ k => V_bipush (x := 11) (pc2 := 121) (dk D_X10_combine 55 rfl) (by decide) rfl k) ?_
        refine K_if (pa := 124) (pb := 130) (lv2 := [(0, vR _), (1, vI _), (2, vI _), (3, vI _)]) (st2 := [vR _]) (fun ad S Q _ k1 k2 => V_cmpne (tgt := 130) (pc2 := 124) (dk D_X10_combine 56 rfl) (by decide) rfl (fun q => k2 q) (fun q => k1 q)) (fun q17 => ?_) (fun q17 => ?_)
        · have h := h.1 q17
          refine K_p (pc2 := 125) (lv2 := [(0, vR _), (1, vI _), (2, vI _), (3, vI _)]) (st2 := [vI _, vR _]) (fun ad S Q _ k => V_iload_n (pc2 := 125) (dk D_X10_combine 57 rfl) rfl (V_lg 3 rfl) rfl k) ?_
          refine K_p (pc2 := 126) (lv2 := [(0, vR _), (1, vI _), (2, vI _), (3, vI _)]) (st2 := [vI _, vI _, vR _]) (fun ad S Q _ k => V_iload_n (pc2 := 126) (dk D_X10_combine 58 rfl) rfl (V_lg 2 rfl) rfl k) ?_
          obtain ⟨h18, h⟩ := h
          refine K_p (pc2 := 127) (lv2 := [(0, vR _), (1, vI _), (2, vI _), (3, vI _)]) (st2 := [vI _, vR _]) (fun ad S Q _ k => V_idiv (pc2 := 127) (dk D_X10_combine 59 rfl) rfl h18 k) ?_
          refine K_p (pc2 := 133) (lv2 := [(0, vR _), (1, vI _), (2, vI _), (3, vI _)]) (st2 := [vI _, vR _]) (fun ad S Q _ k => V_goto (tgt := 133) (dk D_X10_combine 60 rfl) (by decide) k) ?_
          exact h
        · have h := h.2 q17
          refine K_p (pc2 := 131) (lv2 := [(0, vR _), (1, vI _), (2, vI _), (3, vI _)]) (st2 := [vI _, vR _]) (fun ad S Q _ k => V_iload_n (pc2 := 131) (dk D_X10_combine 61 rfl) rfl (V_lg 3 rfl) rfl k) ?_
          refine K_p (pc2 := 132) (lv2 := [(0, vR _), (1, vI _), (2, vI _), (3, vI _)]) (st2 := [vI _, vI _, vR _]) (fun ad S Q _ k => V_iload_n (pc2 := 132) (dk D_X10_combine 62 rfl) rfl (V_lg 2 rfl) rfl k) ?_
          obtain ⟨h19, h⟩ := h
          refine K_p (pc2 := 133) (lv2 := [(0, vR _), (1, vI _), (2, vI _), (3, vI _)]) (st2 := [vI _, vR _]) (fun ad S Q _ k => V_irem (pc2 := 133) (dk D_X10_combine 63 rfl) rfl h19 k) ?_
          exact h
    · have hx : x1 = 13 := Int32.toInt_inj.mp (by rw [q14]; decide)
      have h := h.2.2.2.1 hx
      refine K_p (pc2 := 80) (lv2 := [(0, vR _), (1, vI _), (2, vI _), (3, vI _)]) (st2 := [vR _]) (fun ad S Q _ k => V_aload_n (pc2 := 80) (dk D_X10_combine 29 rfl) rfl (V_lg 0 rfl) rfl k) ?_
      refine K_p (pc2 := 81) (lv2 := [(0, vR _), (1, vI _), (2, vI _), (3, vI _)]) (st2 := [vI _, vR _]) (fun ad S Q _ k => V_iload_n (pc2 := 81) (dk D_X10_combine 30 rfl) rfl (V_lg 3 rfl) rfl k) ?_
      refine K_p (pc2 := 82) (lv2 := [(0, vR _), (1, vI _), (2, vI _), (3, vI _)]) (st2 := [vI _, vI _, vR _]) (fun ad S Q _ k => V_iload_n (pc2 := 82) (dk D_X10_combine 31 rfl) rfl (V_lg 2 rfl) rfl k) ?_
      refine K_if (pa := 89) (pb := 85) (lv2 := [(0, vR _), (1, vI _), (2, vI _), (3, vI _)]) (st2 := [vR _]) (fun ad S Q _ k1 k2 => V_cmpge (tgt := 89) (pc2 := 85) (dk D_X10_combine 32 rfl) (by decide) rfl (fun q => k1 q) (fun q => k2 q)) (fun q39 => ?_) (fun q39 => ?_)
      · have h := h.1 q39
        refine K_p (pc2 := 90) (lv2 := [(0, vR _), (1, vI _), (2, vI _), (3, vI _)]) (st2 := [vI _, vR _]) (fun ad S Q _ k => V_iconst (x := 0) (pc2 := 90) (dk D_X10_combine 35 rfl) (by decide) rfl k) ?_
        exact h
      · have h := h.2 q39
        refine K_p (pc2 := 86) (lv2 := [(0, vR _), (1, vI _), (2, vI _), (3, vI _)]) (st2 := [vI _, vR _]) (fun ad S Q _ k => V_iconst (x := 1) (pc2 := 86) (dk D_X10_combine 33 rfl) (by decide) rfl k) ?_
        refine K_p (pc2 := 90) (lv2 := [(0, vR _), (1, vI _), (2, vI _), (3, vI _)]) (st2 := [vI _, vR _]) (fun ad S Q _ k => V_goto (tgt := 90) (dk D_X10_combine 34 rfl) (by decide) k) ?_
        exact h
    · have hx : x1 = 14 := Int32.toInt_inj.mp (by rw [q14]; decide)
      have h := h.2.2.2.2.1 hx
      refine K_p (pc2 := 96) (lv2 := [(0, vR _), (1, vI _), (2, vI _), (3, vI _)]) (st2 := [vR _]) (fun ad S Q _ k => V_aload_n (pc2 := 96) (dk D_X10_combine 39 rfl) rfl (V_lg 0 rfl) rfl k) ?_
      refine K_p (pc2 := 97) (lv2 := [(0, vR _), (1, vI _), (2, vI _), (3, vI _)]) (st2 := [vI _, vR _]) (fun ad S Q _ k => V_iload_n (pc2 := 97) (dk D_X10_combine 40 rfl) rfl (V_lg 3 rfl) rfl k) ?_
      refine K_p (pc2 := 98) (lv2 := [(0, vR _), (1, vI _), (2, vI _), (3, vI _)]) (st2 := [vI _, vI _, vR _]) (fun ad S Q _ k => V_iload_n (pc2 := 98) (dk D_X10_combine 41 rfl) rfl (V_lg 2 rfl) rfl k) ?_
      refine K_if (pa := 101) (pb := 105) (lv2 := [(0, vR _), (1, vI _), (2, vI _), (3, vI _)]) (st2 := [vR _]) (fun ad S Q _ k1 k2 => V_cmpne (tgt := 105) (pc2 := 101) (dk D_X10_combine 42 rfl) (by decide) rfl (fun q => k2 q) (fun q => k1 q)) (fun q40 => ?_) (fun q40 => ?_)
      · have h := h.1 q40
        refine K_p (pc2 := 102) (lv2 := [(0, vR _), (1, vI _), (2, vI _), (3, vI _)]) (st2 := [vI _, vR _]) (fun ad S Q _ k => V_iconst (x := 1) (pc2 := 102) (dk D_X10_combine 43 rfl) (by decide) rfl k) ?_
        refine K_p (pc2 := 106) (lv2 := [(0, vR _), (1, vI _), (2, vI _), (3, vI _)]) (st2 := [vI _, vR _]) (fun ad S Q _ k => V_goto (tgt := 106) (dk D_X10_combine 44 rfl) (by decide) k) ?_
        exact h
      · have h := h.2 q40
        refine K_p (pc2 := 106) (lv2 := [(0, vR _), (1, vI _), (2, vI _), (3, vI _)]) (st2 := [vI _, vR _]) (fun ad S Q _ k => V_iconst (x := 0) (pc2 := 106) (dk D_X10_combine 45 rfl) (by decide) rfl k) ?_
        exact h
theorem k_10_combine_90 {X : Cx} {d : Nat} {κ : Km} {Q : Res → Km → Prop} (r0 : Nat) (x1 : Int32) (x2 : Int32) (x3 : Int32) (t0 : Nat) (t1 : Int32) (h : (isH κ t0 10) ∧ (isH κ r0 10) ∧ ∃ e1 : Nat, e1 + 1 ≤ d ∧ KC' X e1 MX10_push [vR t0, vI t1] κ (kRV fun  κ6 => Q (.inl (some (vI 1))) κ6)) : K X d MX10_combine 90 [(0, vR r0), (1, vI x1), (2, vI x2), (3, vI x3)] [vI t1, vR t0] κ Q := by
  obtain ⟨h4, h⟩ := h
  obtain ⟨h5, h⟩ := h
  obtain ⟨e1, he2, hc3⟩ := h
  refine K_call (as := [vR _, vI _]) (st := []) (pc2 := 93) (okL.all _ ⟨(isH.ok h5 (by decide)), trivial, trivial, trivial, trivial⟩) (okS.all _ trivial) (fun ad S Q Qc hC hc k => V_callV (as := [_]) (st := []) (M' := MX10_push) (ci := 10) (pc2 := 93) (dk D_X10_combine 36 rfl) ml_10_100 mv_X10_push rfl rfl (by decide) rfl (Nat.le_of_ble_eq_true rfl) rfl he2 (hC.k' h4) hc k) hc3 (kRV.k fun  κ6 h mo7 => ?_)
  refine K_p (pc2 := 94) (lv2 := [(0, vR _), (1, vI _), (2, vI _), (3, vI _)]) (st2 := [vI _]) (fun ad S Q _ k => V_iconst (x := 1) (pc2 := 94) (dk D_X10_combine 37 rfl) (by decide) rfl k) ?_
  exact K_ret (r := .inl (some (vI _))) (fun ad S Q _ k => V_zreturn (dk D_X10_combine 38 rfl) rfl (Or.inr rfl) k) h
theorem k_10_combine_106 {X : Cx} {d : Nat} {κ : Km} {Q : Res → Km → Prop} (r0 : Nat) (x1 : Int32) (x2 : Int32) (x3 : Int32) (t0 : Nat) (t1 : Int32) (h : (isH κ t0 10) ∧ (isH κ r0 10) ∧ ∃ e1 : Nat, e1 + 1 ≤ d ∧ KC' X e1 MX10_push [vR t0, vI t1] κ (kRV fun  κ6 => Q (.inl (some (vI 1))) κ6)) : K X d MX10_combine 106 [(0, vR r0), (1, vI x1), (2, vI x2), (3, vI x3)] [vI t1, vR t0] κ Q := by
  obtain ⟨h4, h⟩ := h
  obtain ⟨h5, h⟩ := h
  obtain ⟨e1, he2, hc3⟩ := h
  refine K_call (as := [vR _, vI _]) (st := []) (pc2 := 109) (okL.all _ ⟨(isH.ok h5 (by decide)), trivial, trivial, trivial, trivial⟩) (okS.all _ trivial) (fun ad S Q Qc hC hc k => V_callV (as := [_]) (st := []) (M' := MX10_push) (ci := 10) (pc2 := 109) (dk D_X10_combine 46 rfl) ml_10_100 mv_X10_push rfl rfl (by decide) rfl (Nat.le_of_ble_eq_true rfl) rfl he2 (hC.k' h4) hc k) hc3 (kRV.k fun  κ6 h mo7 => ?_)
  refine K_p (pc2 := 110) (lv2 := [(0, vR _), (1, vI _), (2, vI _), (3, vI _)]) (st2 := [vI _]) (fun ad S Q _ k => V_iconst (x := 1) (pc2 := 110) (dk D_X10_combine 47 rfl) (by decide) rfl k) ?_
  exact K_ret (r := .inl (some (vI _))) (fun ad S Q _ k => V_zreturn (dk D_X10_combine 48 rfl) rfl (Or.inr rfl) k) h
theorem k_10_combine_133 {X : Cx} {d : Nat} {κ : Km} {Q : Res → Km → Prop} (r0 : Nat) (x1 : Int32) (x2 : Int32) (x3 : Int32) (t0 : Nat) (t1 : Int32) (h : (isH κ t0 10) ∧ (isH κ r0 10) ∧ ∃ e1 : Nat, e1 + 1 ≤ d ∧ KC' X e1 MX10_push [vR t0, vI t1] κ (kRV fun  κ6 => Q (.inl (some (vI 1))) κ6)) : K X d MX10_combine 133 [(0, vR r0), (1, vI x1), (2, vI x2), (3, vI x3)] [vI t1, vR t0] κ Q := by
  obtain ⟨h4, h⟩ := h
  obtain ⟨h5, h⟩ := h
  obtain ⟨e1, he2, hc3⟩ := h
  refine K_call (as := [vR _, vI _]) (st := []) (pc2 := 136) (okL.all _ ⟨(isH.ok h5 (by decide)), trivial, trivial, trivial, trivial⟩) (okS.all _ trivial) (fun ad S Q Qc hC hc k => V_callV (as := [_]) (st := []) (M' := MX10_push) (ci := 10) (pc2 := 136) (dk D_X10_combine 64 rfl) ml_10_100 mv_X10_push rfl rfl (by decide) rfl (Nat.le_of_ble_eq_true rfl) rfl he2 (hC.k' h4) hc k) hc3 (kRV.k fun  κ6 h mo7 => ?_)
  refine K_p (pc2 := 137) (lv2 := [(0, vR _), (1, vI _), (2, vI _), (3, vI _)]) (st2 := [vI _]) (fun ad S Q _ k => V_iconst (x := 1) (pc2 := 137) (dk D_X10_combine 65 rfl) (by decide) rfl k) ?_
  exact K_ret (r := .inl (some (vI _))) (fun ad S Q _ k => V_zreturn (dk D_X10_combine 66 rfl) rfl (Or.inr rfl) k) h
theorem k_10_fact_0 {X : Cx} {d : Nat} {κ : Km} {Q : Res → Km → Prop} (r0 : Nat) (x1 : Int32) (h : ((x1 = 0 → (isH κ r0 10) ∧ Q (.inl (some (vI (kI κ r0 1)))) κ) ∧ (x1 = 1 → (isH κ r0 10) ∧ Q (.inl (some (vI (kI κ r0 2)))) κ) ∧ (x1 = 2 → (isH κ r0 10) ∧ Q (.inl (some (vI (kI κ r0 6)))) κ) ∧ (x1 = 3 → (isH κ r0 10) ∧ Q (.inl (some (vI (kI κ r0 7)))) κ) ∧ (x1 = 4 → (isH κ r0 10) ∧ Q (.inl (some (vI (kI κ r0 8)))) κ) ∧ (x1 = 5 → (isH κ r0 10) ∧ Q (.inl (some (vI (kI κ r0 5)))) κ) ∧ (¬ (x1 = 0 ∨ x1 = 1 ∨ x1 = 2 ∨ x1 = 3 ∨ x1 = 4 ∨ x1 = 5) → (isH κ r0 10) ∧ Q (.inl (some (vI (kI κ r0 4)))) κ))) : K X d MX10_fact 0 [(0, vR r0), (1, vI x1)] [] κ Q := by
  refine K_p (pc2 := 1) (lv2 := [(0, vR _), (1, vI _)]) (st2 := [vI _]) (fun ad S Q _ k => V_iload_n (pc2 := 1) (dk D_X10_fact 0 rfl) rfl (V_lg 1 rfl) rfl k) ?_
  refine K_table (dk D_X10_fact 1 rfl) [40, 45, 50, 55, 60, 65] 70 (by decide) (by decide) rfl (by decide) (fun q1 => ?_) (fun j2 hj q1 => ?_)
  · have h := h.2.2.2.2.2.2 (by rintro (hk | hk | hk | hk | hk | hk) <;> (rw [hk] at q1; revert q1; decide))
    refine K_p (pc2 := 71) (lv2 := [(0, vR _), (1, vI _)]) (st2 := [vR _]) (fun ad S Q _ k => V_aload_n (pc2 := 71) (dk D_X10_fact 20 rfl) rfl (V_lg 0 rfl) rfl k) ?_
    obtain ⟨h4, h⟩ := h
    refine K_getI kc10 (pc2 := 74) 4 (dk D_X10_fact 21 rfl) fl_10_28 (by decide) (fun _ _ => rfl) rfl h4 ?_
    exact K_ret (r := .inl (some (vI _))) (fun ad S Q _ k => V_ireturn (dk D_X10_fact 22 rfl) rfl k) h
  · have hj2 : j2 = 0 ∨ j2 = 1 ∨ j2 = 2 ∨ j2 = 3 ∨ j2 = 4 ∨ j2 = 5 := by simp at hj; omega
    clear hj
    rcases hj2 with rfl | rfl | rfl | rfl | rfl | rfl
    · have hx : x1 = 0 := Int32.toInt_inj.mp (by rw [q1]; decide)
      have h := h.1 hx
      refine K_p (pc2 := 41) (lv2 := [(0, vR _), (1, vI _)]) (st2 := [vR _]) (fun ad S Q _ k => V_aload_n (pc2 := 41) (dk D_X10_fact 2 rfl) rfl (V_lg 0 rfl) rfl k) ?_
      obtain ⟨h5, h⟩ := h
      refine K_getI kc10 (pc2 := 44) 1 (dk D_X10_fact 3 rfl) fl_10_31 (by decide) (fun _ _ => rfl) rfl h5 ?_
      exact K_ret (r := .inl (some (vI _))) (fun ad S Q _ k => V_ireturn (dk D_X10_fact 4 rfl) rfl k) h
    · have hx : x1 = 1 := Int32.toInt_inj.mp (by rw [q1]; decide)
      have h := h.2.1 hx
      refine K_p (pc2 := 46) (lv2 := [(0, vR _), (1, vI _)]) (st2 := [vR _]) (fun ad S Q _ k => V_aload_n (pc2 := 46) (dk D_X10_fact 5 rfl) rfl (V_lg 0 rfl) rfl k) ?_
      obtain ⟨h6, h⟩ := h
      refine K_getI kc10 (pc2 := 49) 2 (dk D_X10_fact 6 rfl) fl_10_22 (by decide) (fun _ _ => rfl) rfl h6 ?_
      exact K_ret (r := .inl (some (vI _))) (fun ad S Q _ k => V_ireturn (dk D_X10_fact 7 rfl) rfl k) h
    · have hx : x1 = 2 := Int32.toInt_inj.mp (by rw [q1]; decide)
      have h := h.2.2.1 hx
      refine K_p (pc2 := 51) (lv2 := [(0, vR _), (1, vI _)]) (st2 := [vR _]) (fun ad S Q _ k => V_aload_n (pc2 := 51) (dk D_X10_fact 8 rfl) rfl (V_lg 0 rfl) rfl k) ?_
      obtain ⟨h7, h⟩ := h
      refine K_getI kc10 (pc2 := 54) 6 (dk D_X10_fact 9 rfl) fl_10_37 (by decide) (fun _ _ => rfl) rfl h7 ?_
      exact K_ret (r := .inl (some (vI _))) (fun ad S Q _ k => V_ireturn (dk D_X10_fact 10 rfl) rfl k) h
    · have hx : x1 = 3 := Int32.toInt_inj.mp (by rw [q1]; decide)
      have h := h.2.2.2.1 hx
      refine K_p (pc2 := 56) (lv2 := [(0, vR _), (1, vI _)]) (st2 := [vR _]) (fun ad S Q _ k => V_aload_n (pc2 := 56) (dk D_X10_fact 11 rfl) rfl (V_lg 0 rfl) rfl k) ?_
      obtain ⟨h8, h⟩ := h
      refine K_getI kc10 (pc2 := 59) 7 (dk D_X10_fact 12 rfl) fl_10_40 (by decide) (fun _ _ => rfl) rfl h8 ?_
      exact K_ret (r := .inl (some (vI _))) (fun ad S Q _ k => V_ireturn (dk D_X10_fact 13 rfl) rfl k) h
    · have hx : x1 = 4 := Int32.toInt_inj.mp (by rw [q1]; decide)
      have h := h.2.2.2.2.1 hx
      refine K_p (pc2 := 61) (lv2 := [(0, vR _), (1, vI _)]) (st2 := [vR _]) (fun ad S Q _ k => V_aload_n (pc2 := 61) (dk D_X10_fact 14 rfl) rfl (V_lg 0 rfl) rfl k) ?_
      obtain ⟨h9, h⟩ := h
      refine K_getI kc10 (pc2 := 64) 8 (dk D_X10_fact 15 rfl) fl_10_43 (by decide) (fun _ _ => rfl) rfl h9 ?_
      exact K_ret (r := .inl (some (vI _))) (fun ad S Q _ k => V_ireturn (dk D_X10_fact 16 rfl) rfl k) h
    · have hx : x1 = 5 := Int32.toInt_inj.mp (by rw [q1]; decide)
      have h := h.2.2.2.2.2.1 hx
      refine K_p (pc2 := 66) (lv2 := [(0, vR _), (1, vI _)]) (st2 := [vR _]) (fun ad S Q _ k => V_aload_n (pc2 := 66) (dk D_X10_fact 17 rfl) rfl (V_lg 0 rfl) rfl k) ?_
      obtain ⟨h10, h⟩ := h
      refine K_getI kc10 (pc2 := 69) 5 (dk D_X10_fact 18 rfl) fl_10_34 (by decide) (fun _ _ => rfl) rfl h10 ?_
      exact K_ret (r := .inl (some (vI _))) (fun ad S Q _ k => V_ireturn (dk D_X10_fact 19 rfl) rfl k) h
theorem k_10_mixInto_0 {X : Cx} {d : Nat} {κ : Km} {Q : Res → Km → Prop} (r0 : Nat) (l1 : Int64) (h : K X d MX10_mixInto 5 [(0, vR r0), (1, vL l1), (3, vL l1), (5, vI 0)] [] κ Q) : K X d MX10_mixInto 0 [(0, vR r0), (1, vL l1)] [] κ Q := by
  refine K_p (pc2 := 1) (lv2 := [(0, vR _), (1, vL _)]) (st2 := [vL _]) (fun ad S Q _ k => V_lload_n (pc2 := 1) (dk D_X10_mixInto 0 rfl) rfl (V_lg 1 rfl) rfl k) ?_
  refine K_p (pc2 := 2) (lv2 := [(0, vR _), (1, vL _), (3, vL _)]) (st2 := []) (fun ad S Q _ k => V_lstore_n (pc2 := 2) (lv2 := [(0, _), (1, _), (3, _)]) (dk D_X10_mixInto 1 rfl) rfl (by decide) rfl rfl k) ?_
  refine K_p (pc2 := 3) (lv2 := [(0, vR _), (1, vL _), (3, vL _)]) (st2 := [vI _]) (fun ad S Q _ k => V_iconst (x := 0) (pc2 := 3) (dk D_X10_mixInto 2 rfl) (by decide) rfl k) ?_
  refine K_p (pc2 := 5) (lv2 := [(0, vR _), (1, vL _), (3, vL _), (5, vI _)]) (st2 := []) (fun ad S Q _ k => V_istore (pc2 := 5) (lv2 := [(0, _), (1, _), (3, _), (5, _)]) (dk D_X10_mixInto 3 rfl) (by decide) rfl rfl k) ?_
  exact h
theorem k_10_mixInto_5 {X : Cx} {d : Nat} {κ : Km} {Q : Res → Km → Prop} (r0 : Nat) (l1 : Int64) (l3 : Int64) (x5 : Int32) (h : ((6 < x5 → (isH κ r0 10) ∧ K X d MX10_mixInto 41 [(0, vR r0), (1, vL l1), (3, vL l3), (5, vI (kI κ r0 14)), (6, vI 0)] [] κ Q) ∧ (¬ 6 < x5 → (isH κ r0 10) ∧ ∃ e3 : Nat, e3 + 1 ≤ d ∧ KC' X e3 MX10_fact [vR r0, vI x5] κ (kRI fun y6 κ8 => K X d MX10_mixInto 5 [(0, vR r0), (1, vL l1), (3, vL ((31 * l3) + ((y6 : Int32).toInt64))), (5, vI (x5 + 1))] [] κ8 Q)))) : K X d MX10_mixInto 5 [(0, vR r0), (1, vL l1), (3, vL l3), (5, vI x5)] [] κ Q := by
  refine K_p (pc2 := 7) (lv2 := [(0, vR _), (1, vL _), (3, vL _), (5, vI _)]) (st2 := [vI _]) (fun ad S Q _ k => V_iload (pc2 := 7) (dk D_X10_mixInto 4 rfl) (V_lg 3 rfl) rfl k) ?_
  refine K_p (pc2 := 9) (lv2 := [(0, vR _), (1, vL _), (3, vL _), (5, vI _)]) (st2 := [vI _, vI _]) (fun ad S Q _ k => V_bipush (x := 6) (pc2 := 9) (dk D_X10_mixInto 5 rfl) (by decide) rfl k) ?_
  refine K_if (pa := 32) (pb := 12) (lv2 := [(0, vR _), (1, vL _), (3, vL _), (5, vI _)]) (st2 := []) (fun ad S Q _ k1 k2 => V_cmpgt (tgt := 32) (pc2 := 12) (dk D_X10_mixInto 6 rfl) (by decide) rfl (fun q => k1 q) (fun q => k2 q)) (fun q1 => ?_) (fun q1 => ?_)
  · have h := h.1 q1
    refine K_p (pc2 := 33) (lv2 := [(0, vR _), (1, vL _), (3, vL _), (5, vI _)]) (st2 := [vR _]) (fun ad S Q _ k => V_aload_n (pc2 := 33) (dk D_X10_mixInto 18 rfl) rfl (V_lg 0 rfl) rfl k) ?_
    obtain ⟨h2, h⟩ := h
    refine K_getI kc10 (pc2 := 36) 14 (dk D_X10_mixInto 19 rfl) fl_10_64 (by decide) (fun _ _ => rfl) rfl h2 ?_
    refine K_p (pc2 := 38) (lv2 := [(0, vR _), (1, vL _), (3, vL _), (5, vI _)]) (st2 := []) (fun ad S Q _ k => V_istore (pc2 := 38) (lv2 := [(0, _), (1, _), (3, _), (5, _)]) (dk D_X10_mixInto 20 rfl) (by decide) rfl rfl k) ?_
    refine K_p (pc2 := 39) (lv2 := [(0, vR _), (1, vL _), (3, vL _), (5, vI _)]) (st2 := [vI _]) (fun ad S Q _ k => V_iconst (x := 0) (pc2 := 39) (dk D_X10_mixInto 21 rfl) (by decide) rfl k) ?_
    refine K_p (pc2 := 41) (lv2 := [(0, vR _), (1, vL _), (3, vL _), (5, vI _), (6, vI _)]) (st2 := []) (fun ad S Q _ k => V_istore (pc2 := 41) (lv2 := [(0, _), (1, _), (3, _), (5, _), (6, _)]) (dk D_X10_mixInto 22 rfl) (by decide) rfl rfl k) ?_
    exact h
  · have h := h.2 q1
    refine K_p (pc2 := 15) (lv2 := [(0, vR _), (1, vL _), (3, vL _), (5, vI _)]) (st2 := [vL _]) (fun ad S Q _ k => V_ldc2 (x := 31) (pc2 := 15) (dk D_X10_mixInto 7 rfl) kl_10_117 rfl k) ?_
    refine K_p (pc2 := 16) (lv2 := [(0, vR _), (1, vL _), (3, vL _), (5, vI _)]) (st2 := [vL _, vL _]) (fun ad S Q _ k => V_lload_n (pc2 := 16) (dk D_X10_mixInto 8 rfl) rfl (V_lg 2 rfl) rfl k) ?_
    refine K_p (pc2 := 17) (lv2 := [(0, vR _), (1, vL _), (3, vL _), (5, vI _)]) (st2 := [vL _]) (fun ad S Q _ k => V_lmul (pc2 := 17) (dk D_X10_mixInto 9 rfl) rfl k) ?_
    refine K_p (pc2 := 18) (lv2 := [(0, vR _), (1, vL _), (3, vL _), (5, vI _)]) (st2 := [vR _, vL _]) (fun ad S Q _ k => V_aload_n (pc2 := 18) (dk D_X10_mixInto 10 rfl) rfl (V_lg 0 rfl) rfl k) ?_
    refine K_p (pc2 := 20) (lv2 := [(0, vR _), (1, vL _), (3, vL _), (5, vI _)]) (st2 := [vI _, vR _, vL _]) (fun ad S Q _ k => V_iload (pc2 := 20) (dk D_X10_mixInto 11 rfl) (V_lg 3 rfl) rfl k) ?_
    obtain ⟨h7, h⟩ := h
    obtain ⟨e3, he4, hc5⟩ := h
    refine K_call (as := [vR _, vI _]) (st := [vL _]) (pc2 := 23) (okL.all _ ⟨(isH.ok h7 (by decide)), trivial, trivial, trivial, trivial⟩) (okS.all _ ⟨trivial, trivial⟩) (fun ad S Q Qc hC hc k => V_callV (as := [_]) (st := [_]) (M' := MX10_fact) (ci := 10) (pc2 := 23) (dk D_X10_mixInto 12 rfl) ml_10_119 mv_X10_fact rfl rfl (by decide) rfl (Nat.le_of_ble_eq_true rfl) rfl he4 (hC.k' h7) hc k) hc5 (kRI.k fun y6 κ8 h mo9 => ?_)
    refine K_p (pc2 := 24) (lv2 := [(0, vR _), (1, vL _), (3, vL _), (5, vI _)]) (st2 := [vL _, vL _]) (fun ad S Q _ k => V_i2l (pc2 := 24) (dk D_X10_mixInto 13 rfl) rfl k) ?_
    refine K_p (pc2 := 25) (lv2 := [(0, vR _), (1, vL _), (3, vL _), (5, vI _)]) (st2 := [vL _]) (fun ad S Q _ k => V_ladd (pc2 := 25) (dk D_X10_mixInto 14 rfl) rfl k) ?_
    refine K_p (pc2 := 26) (lv2 := [(0, vR _), (1, vL _), (3, vL _), (5, vI _)]) (st2 := []) (fun ad S Q _ k => V_lstore_n (pc2 := 26) (lv2 := [(0, _), (1, _), (3, _), (5, _)]) (dk D_X10_mixInto 15 rfl) rfl (by decide) rfl rfl k) ?_
    refine K_p (pc2 := 29) (lv2 := [(0, vR _), (1, vL _), (3, vL _), (5, vI _)]) (st2 := []) (fun ad S Q _ k => V_iinc (y := _ + 1) (pc2 := 29) (lv2 := [(0, _), (1, _), (3, _), (5, _)]) (dk D_X10_mixInto 16 rfl) (V_lg 3 rfl) rfl (by decide) rfl rfl k) ?_
    refine K_p (pc2 := 5) (lv2 := [(0, vR _), (1, vL _), (3, vL _), (5, vI _)]) (st2 := []) (fun ad S Q _ k => V_goto (tgt := 5) (dk D_X10_mixInto 17 rfl) (by decide) k) ?_
    exact h
theorem k_10_mixInto_41 {X : Cx} {d : Nat} {κ : Km} {Q : Res → Km → Prop} (r0 : Nat) (l1 : Int64) (l3 : Int64) (x5 : Int32) (x6 : Int32) (h : (isH κ r0 10) ∧ (((kI κ r0 8) ≤ x6 → Q (.inl (some (vL l3))) κ) ∧ (¬ (kI κ r0 8) ≤ x6 → K X d MX10_mixInto 53 [(0, vR r0), (1, vL l1), (3, vL l3), (5, vI x5), (6, vI x6), (7, vI 0)] [] κ Q))) : K X d MX10_mixInto 41 [(0, vR r0), (1, vL l1), (3, vL l3), (5, vI x5), (6, vI x6)] [] κ Q := by
  refine K_p (pc2 := 43) (lv2 := [(0, vR _), (1, vL _), (3, vL _), (5, vI _), (6, vI _)]) (st2 := [vI _]) (fun ad S Q _ k => V_iload (pc2 := 43) (dk D_X10_mixInto 23 rfl) (V_lg 4 rfl) rfl k) ?_
  refine K_p (pc2 := 44) (lv2 := [(0, vR _), (1, vL _), (3, vL _), (5, vI _), (6, vI _)]) (st2 := [vR _, vI _]) (fun ad S Q _ k => V_aload_n (pc2 := 44) (dk D_X10_mixInto 24 rfl) rfl (V_lg 0 rfl) rfl k) ?_
  obtain ⟨h1, h⟩ := h
  refine K_getI kc10 (pc2 := 47) 8 (dk D_X10_mixInto 25 rfl) fl_10_43 (by decide) (fun _ _ => rfl) rfl h1 ?_
  refine K_if (pa := 102) (pb := 50) (lv2 := [(0, vR _), (1, vL _), (3, vL _), (5, vI _), (6, vI _)]) (st2 := []) (fun ad S Q _ k1 k2 => V_cmpge (tgt := 102) (pc2 := 50) (dk D_X10_mixInto 26 rfl) (by decide) rfl (fun q => k1 q) (fun q => k2 q)) (fun q2 => ?_) (fun q2 => ?_)
  · have h := h.1 q2
    refine K_p (pc2 := 103) (lv2 := [(0, vR _), (1, vL _), (3, vL _), (5, vI _), (6, vI _)]) (st2 := [vL _]) (fun ad S Q _ k => V_lload_n (pc2 := 103) (dk D_X10_mixInto 54 rfl) rfl (V_lg 2 rfl) rfl k) ?_
    exact K_ret (r := .inl (some (vL _))) (fun ad S Q _ k => V_lreturn (dk D_X10_mixInto 55 rfl) rfl k) h
  · have h := h.2 q2
    refine K_p (pc2 := 51) (lv2 := [(0, vR _), (1, vL _), (3, vL _), (5, vI _), (6, vI _)]) (st2 := [vI _]) (fun ad S Q _ k => V_iconst (x := 0) (pc2 := 51) (dk D_X10_mixInto 27 rfl) (by decide) rfl k) ?_
    refine K_p (pc2 := 53) (lv2 := [(0, vR _), (1, vL _), (3, vL _), (5, vI _), (6, vI _), (7, vI _)]) (st2 := []) (fun ad S Q _ k => V_istore (pc2 := 53) (lv2 := [(0, _), (1, _), (3, _), (5, _), (6, _), (7, _)]) (dk D_X10_mixInto 28 rfl) (by decide) rfl rfl k) ?_
    exact h
theorem k_10_mixInto_53 {X : Cx} {d : Nat} {κ : Km} {Q : Res → Km → Prop} (r0 : Nat) (l1 : Int64) (l3 : Int64) (x5 : Int32) (x6 : Int32) (x7 : Int32) (h : (isH κ r0 10) ∧ ∃ e1 : Nat, e1 + 1 ≤ d ∧ KC' X e1 MX10_cell [vR r0, vI x5] κ (kRI fun y4 κ6 => ((y4 ≤ x7 → ∃ e9 : Nat, e9 + 1 ≤ d ∧ KC' X e9 MX10_cell [vR r0, vI (x5 + 2)] κ6 (kRI fun y12 κ13 => K X d MX10_mixInto 41 [(0, vR r0), (1, vL l1), (3, vL l3), (5, vI y12), (6, vI (x6 + 1))] [] κ13 Q)) ∧ (¬ y4 ≤ x7 → ∃ e15 : Nat, e15 + 1 ≤ d ∧ KC' X e15 MX10_variable [vR r0, vI x5, vI x7] κ6 (kRI fun y18 κ19 => K X d MX10_mixInto 53 [(0, vR r0), (1, vL l1), (3, vL ((31 * l3) + ((y18 : Int32).toInt64))), (5, vI x5), (6, vI x6), (7, vI (x7 + 1))] [] κ19 Q))))) : K X d MX10_mixInto 53 [(0, vR r0), (1, vL l1), (3, vL l3), (5, vI x5), (6, vI x6), (7, vI x7)] [] κ Q := by
  refine K_p (pc2 := 55) (lv2 := [(0, vR _), (1, vL _), (3, vL _), (5, vI _), (6, vI _), (7, vI _)]) (st2 := [vI _]) (fun ad S Q _ k => V_iload (pc2 := 55) (dk D_X10_mixInto 29 rfl) (V_lg 5 rfl) rfl k) ?_
  refine K_p (pc2 := 56) (lv2 := [(0, vR _), (1, vL _), (3, vL _), (5, vI _), (6, vI _), (7, vI _)]) (st2 := [vR _, vI _]) (fun ad S Q _ k => V_aload_n (pc2 := 56) (dk D_X10_mixInto 30 rfl) rfl (V_lg 0 rfl) rfl k) ?_
  refine K_p (pc2 := 58) (lv2 := [(0, vR _), (1, vL _), (3, vL _), (5, vI _), (6, vI _), (7, vI _)]) (st2 := [vI _, vR _, vI _]) (fun ad S Q _ k => V_iload (pc2 := 58) (dk D_X10_mixInto 31 rfl) (V_lg 3 rfl) rfl k) ?_
  obtain ⟨h5, h⟩ := h
  obtain ⟨e1, he2, hc3⟩ := h
  refine K_call (as := [vR _, vI _]) (st := [vI _]) (pc2 := 61) (okL.all _ ⟨(isH.ok h5 (by decide)), trivial, trivial, trivial, trivial, trivial, trivial⟩) (okS.all _ ⟨trivial, trivial⟩) (fun ad S Q Qc hC hc k => V_callV (as := [_]) (st := [_]) (M' := MX10_cell) (ci := 10) (pc2 := 61) (dk D_X10_mixInto 32 rfl) ml_10_79 mv_X10_cell rfl rfl (by decide) rfl (Nat.le_of_ble_eq_true rfl) rfl he2 (hC.k' h5) hc k) hc3 (kRI.k fun y4 κ6 h mo7 => ?_)
  refine K_if (pa := 86) (pb := 64) (lv2 := [(0, vR _), (1, vL _), (3, vL _), (5, vI _), (6, vI _), (7, vI _)]) (st2 := []) (fun ad S Q _ k1 k2 => V_cmpge (tgt := 86) (pc2 := 64) (dk D_X10_mixInto 33 rfl) (by decide) rfl (fun q => k1 q) (fun q => k2 q)) (fun q8 => ?_) (fun q8 => ?_)
  · have h := h.1 q8
    refine K_p (pc2 := 87) (lv2 := [(0, vR _), (1, vL _), (3, vL _), (5, vI _), (6, vI _), (7, vI _)]) (st2 := [vR _]) (fun ad S Q _ k => V_aload_n (pc2 := 87) (dk D_X10_mixInto 46 rfl) rfl (V_lg 0 rfl) rfl k) ?_
    refine K_p (pc2 := 89) (lv2 := [(0, vR _), (1, vL _), (3, vL _), (5, vI _), (6, vI _), (7, vI _)]) (st2 := [vI _, vR _]) (fun ad S Q _ k => V_iload (pc2 := 89) (dk D_X10_mixInto 47 rfl) (V_lg 3 rfl) rfl k) ?_
    refine K_p (pc2 := 90) (lv2 := [(0, vR _), (1, vL _), (3, vL _), (5, vI _), (6, vI _), (7, vI _)]) (st2 := [vI _, vI _, vR _]) (fun ad S Q _ k => V_iconst (x := 2) (pc2 := 90) (dk D_X10_mixInto 48 rfl) (by decide) rfl k) ?_
    refine K_p (pc2 := 91) (lv2 := [(0, vR _), (1, vL _), (3, vL _), (5, vI _), (6, vI _), (7, vI _)]) (st2 := [vI _, vR _]) (fun ad S Q _ k => V_iadd (pc2 := 91) (dk D_X10_mixInto 49 rfl) rfl k) ?_
    obtain ⟨e9, he10, hc11⟩ := h
    refine K_call (as := [vR _, vI _]) (st := []) (pc2 := 94) (okL.all _ ⟨(isH.ok (isH.mo h5 (by decide) mo7) (by decide)), trivial, trivial, trivial, trivial, trivial, trivial⟩) (okS.all _ trivial) (fun ad S Q Qc hC hc k => V_callV (as := [_]) (st := []) (M' := MX10_cell) (ci := 10) (pc2 := 94) (dk D_X10_mixInto 50 rfl) ml_10_79 mv_X10_cell rfl rfl (by decide) rfl (Nat.le_of_ble_eq_true rfl) rfl he10 (hC.k' (isH.mo h5 (by decide) mo7)) hc k) hc11 (kRI.k fun y12 κ13 h mo14 => ?_)
    refine K_p (pc2 := 96) (lv2 := [(0, vR _), (1, vL _), (3, vL _), (5, vI _), (6, vI _), (7, vI _)]) (st2 := []) (fun ad S Q _ k => V_istore (pc2 := 96) (lv2 := [(0, _), (1, _), (3, _), (5, _), (6, _), (7, _)]) (dk D_X10_mixInto 51 rfl) (by decide) rfl rfl k) ?_
    refine K_p (pc2 := 99) (lv2 := [(0, vR _), (1, vL _), (3, vL _), (5, vI _), (6, vI _), (7, vI _)]) (st2 := []) (fun ad S Q _ k => V_iinc (y := _ + 1) (pc2 := 99) (lv2 := [(0, _), (1, _), (3, _), (5, _), (6, _), (7, _)]) (dk D_X10_mixInto 52 rfl) (V_lg 4 rfl) rfl (by decide) rfl rfl k) ?_
    refine K_p (pc2 := 41) (lv2 := [(0, vR _), (1, vL _), (3, vL _), (5, vI _), (6, vI _), (7, vI _)]) (st2 := []) (fun ad S Q _ k => V_goto (tgt := 41) (dk D_X10_mixInto 53 rfl) (by decide) k) ?_
    refine K_p (pc2 := 41) (lv2 := [(0, vR _), (1, vL _), (3, vL _), (5, vI _), (6, vI _)]) (st2 := []) (fun ad S Q _ k => V_pick [0, 1, 2, 3, 4] (lv2 := [(0, _), (1, _), (3, _), (5, _), (6, _)]) rfl k) ?_
    exact h
  · have h := h.2 q8
    refine K_p (pc2 := 67) (lv2 := [(0, vR _), (1, vL _), (3, vL _), (5, vI _), (6, vI _), (7, vI _)]) (st2 := [vL _]) (fun ad S Q _ k => V_ldc2 (x := 31) (pc2 := 67) (dk D_X10_mixInto 34 rfl) kl_10_117 rfl k) ?_
    refine K_p (pc2 := 68) (lv2 := [(0, vR _), (1, vL _), (3, vL _), (5, vI _), (6, vI _), (7, vI _)]) (st2 := [vL _, vL _]) (fun ad S Q _ k => V_lload_n (pc2 := 68) (dk D_X10_mixInto 35 rfl) rfl (V_lg 2 rfl) rfl k) ?_
    refine K_p (pc2 := 69) (lv2 := [(0, vR _), (1, vL _), (3, vL _), (5, vI _), (6, vI _), (7, vI _)]) (st2 := [vL _]) (fun ad S Q _ k => V_lmul (pc2 := 69) (dk D_X10_mixInto 36 rfl) rfl k) ?_
    refine K_p (pc2 := 70) (lv2 := [(0, vR _), (1, vL _), (3, vL _), (5, vI _), (6, vI _), (7, vI _)]) (st2 := [vR _, vL _]) (fun ad S Q _ k => V_aload_n (pc2 := 70) (dk D_X10_mixInto 37 rfl) rfl (V_lg 0 rfl) rfl k) ?_
    refine K_p (pc2 := 72) (lv2 := [(0, vR _), (1, vL _), (3, vL _), (5, vI _), (6, vI _), (7, vI _)]) (st2 := [vI _, vR _, vL _]) (fun ad S Q _ k => V_iload (pc2 := 72) (dk D_X10_mixInto 38 rfl) (V_lg 3 rfl) rfl k) ?_
    refine K_p (pc2 := 74) (lv2 := [(0, vR _), (1, vL _), (3, vL _), (5, vI _), (6, vI _), (7, vI _)]) (st2 := [vI _, vI _, vR _, vL _]) (fun ad S Q _ k => V_iload (pc2 := 74) (dk D_X10_mixInto 39 rfl) (V_lg 5 rfl) rfl k) ?_
    obtain ⟨e15, he16, hc17⟩ := h
    refine K_call (as := [vR _, vI _, vI _]) (st := [vL _]) (pc2 := 77) (okL.all _ ⟨(isH.ok (isH.mo h5 (by decide) mo7) (by decide)), trivial, trivial, trivial, trivial, trivial, trivial⟩) (okS.all _ ⟨trivial, trivial⟩) (fun ad S Q Qc hC hc k => V_callV (as := [_, _]) (st := [_]) (M' := MX10_variable) (ci := 10) (pc2 := 77) (dk D_X10_mixInto 40 rfl) ml_10_104 mv_X10_variable rfl rfl (by decide) rfl (Nat.le_of_ble_eq_true rfl) rfl he16 (hC.k' (isH.mo h5 (by decide) mo7)) hc k) hc17 (kRI.k fun y18 κ19 h mo20 => ?_)
    refine K_p (pc2 := 78) (lv2 := [(0, vR _), (1, vL _), (3, vL _), (5, vI _), (6, vI _), (7, vI _)]) (st2 := [vL _, vL _]) (fun ad S Q _ k => V_i2l (pc2 := 78) (dk D_X10_mixInto 41 rfl) rfl k) ?_
    refine K_p (pc2 := 79) (lv2 := [(0, vR _), (1, vL _), (3, vL _), (5, vI _), (6, vI _), (7, vI _)]) (st2 := [vL _]) (fun ad S Q _ k => V_ladd (pc2 := 79) (dk D_X10_mixInto 42 rfl) rfl k) ?_
    refine K_p (pc2 := 80) (lv2 := [(0, vR _), (1, vL _), (3, vL _), (5, vI _), (6, vI _), (7, vI _)]) (st2 := []) (fun ad S Q _ k => V_lstore_n (pc2 := 80) (lv2 := [(0, _), (1, _), (3, _), (5, _), (6, _), (7, _)]) (dk D_X10_mixInto 43 rfl) rfl (by decide) rfl rfl k) ?_
    refine K_p (pc2 := 83) (lv2 := [(0, vR _), (1, vL _), (3, vL _), (5, vI _), (6, vI _), (7, vI _)]) (st2 := []) (fun ad S Q _ k => V_iinc (y := _ + 1) (pc2 := 83) (lv2 := [(0, _), (1, _), (3, _), (5, _), (6, _), (7, _)]) (dk D_X10_mixInto 44 rfl) (V_lg 5 rfl) rfl (by decide) rfl rfl k) ?_
    refine K_p (pc2 := 53) (lv2 := [(0, vR _), (1, vL _), (3, vL _), (5, vI _), (6, vI _), (7, vI _)]) (st2 := []) (fun ad S Q _ k => V_goto (tgt := 53) (dk D_X10_mixInto 45 rfl) (by decide) k) ?_
    exact h
