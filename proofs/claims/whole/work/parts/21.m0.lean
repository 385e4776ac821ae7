theorem a_in_0 {X : Cx} {b d : Nat} {σ : Rm} {Q : Res → Rm → Prop} (x0 : Int32) (x1 : Int32) (x2 : Int32) (h : ((x0 < x1 → A X b d MX13_in 14 [(0, vI x0), (1, vI x1), (2, vI x2)] [] σ Q) ∧ (¬ x0 < x1 → ((x2 < x0 → A X b d MX13_in 14 [(0, vI x0), (1, vI x1), (2, vI x2)] [] σ Q) ∧ (¬ x2 < x0 → A X b d MX13_in 15 [(0, vI x0), (1, vI x1), (2, vI x2)] [vI 1] σ Q))))) : A X b d MX13_in 0 [(0, vI x0), (1, vI x1), (2, vI x2)] [] σ Q := by
  refine A_p (fun T Q _ _ k => V_iload_n (pc2 := 1) (dk D_X13_in 0 rfl) rfl (V_lg 0 rfl) rfl k) ?_
  refine A_p (fun T Q _ _ k => V_iload_n (pc2 := 2) (dk D_X13_in 1 rfl) rfl (V_lg 1 rfl) rfl k) ?_
  refine A_if (pa := 14) (pb := 5) (fun T Q k1 k2 => V_cmplt (tgt := 14) (pc2 := 5) (dk D_X13_in 2 rfl) (by decide) rfl (fun q => k1 q) (fun q => k2 q)) (fun q1 => ?_) (fun q1 => ?_)
  · have h := h.1 q1
    exact h
  · have h := h.2 q1
    refine A_p (fun T Q _ _ k => V_iload_n (pc2 := 6) (dk D_X13_in 3 rfl) rfl (V_lg 0 rfl) rfl k) ?_
    refine A_p (fun T Q _ _ k => V_iload_n (pc2 := 7) (dk D_X13_in 4 rfl) rfl (V_lg 2 rfl) rfl k) ?_
    refine A_if (pa := 14) (pb := 10) (fun T Q k1 k2 => V_cmpgt (tgt := 14) (pc2 := 10) (dk D_X13_in 5 rfl) (by decide) rfl (fun q => k1 q) (fun q => k2 q)) (fun q2 => ?_) (fun q2 => ?_)
    · have h := h.1 q2
      exact h
    · have h := h.2 q2
      refine A_p (fun T Q _ _ k => V_iconst (x := 1) (pc2 := 11) (dk D_X13_in 6 rfl) (by decide) rfl k) ?_
      refine A_p (fun T Q _ _ k => V_goto (tgt := 15) (dk D_X13_in 7 rfl) (by decide) k) ?_
      exact h
theorem a_in_14 {X : Cx} {b d : Nat} {σ : Rm} {Q : Res → Rm → Prop} (x0 : Int32) (x1 : Int32) (x2 : Int32) (h : A X b d MX13_in 15 [(0, vI x0), (1, vI x1), (2, vI x2)] [vI 0] σ Q) : A X b d MX13_in 14 [(0, vI x0), (1, vI x1), (2, vI x2)] [] σ Q := by
  refine A_p (fun T Q _ _ k => V_iconst (x := 0) (pc2 := 15) (dk D_X13_in 8 rfl) (by decide) rfl k) ?_
  exact h
theorem a_in_15 {X : Cx} {b d : Nat} {σ : Rm} {Q : Res → Rm → Prop} (x0 : Int32) (x1 : Int32) (x2 : Int32) (t0 : Int32) (h : (t0 = 0 ∨ t0 = 1) ∧ Q (.inl (some (vI t0))) σ) : A X b d MX13_in 15 [(0, vI x0), (1, vI x1), (2, vI x2)] [vI t0] σ Q := by
  obtain ⟨h1, h⟩ := h
  exact A_ret (fun T Q _ k => V_zreturn (dk D_X13_in 9 rfl) rfl h1 k) h
theorem a_feed_0 {X : Cx} {b d : Nat} {σ : Rm} {Q : Res → Rm → Prop} (l1 : Int64) (x3 : Int32) (h : ∃ e1 : Nat, e1 + 1 ≤ d ∧ AC X b e1 MX13_in [vI x3, vI 1, vI 8] σ (aRI fun y4 s5 => ((y4 = 0 → Q (.inl (some (vI (-1)))) s5) ∧ (¬ y4 = 0 → ((((sI s5 2) + x3) ≤ 3000 → A X b d MX13_feed 30 [(0, vR b), (1, vL l1), (3, vI x3), (4, vI 0)] [] s5 Q) ∧ (¬ ((sI s5 2) + x3) ≤ 3000 → Q (.inl (some (vI (-3)))) s5)))))) : A X b d MX13_feed 0 [(0, vR b), (1, vL l1), (3, vI x3)] [] σ Q := by
  refine A_p (fun T Q _ _ k => V_iload_n (pc2 := 1) (dk D_X13_feed 0 rfl) rfl (V_lg 2 rfl) rfl k) ?_
  refine A_p (fun T Q _ _ k => V_iconst (x := 1) (pc2 := 2) (dk D_X13_feed 1 rfl) (by decide) rfl k) ?_
  refine A_p (fun T Q _ _ k => V_bipush (x := 8) (pc2 := 4) (dk D_X13_feed 2 rfl) (by decide) rfl k) ?_
  obtain ⟨e1, he2, hc3⟩ := h
  refine A_call (st := []) (pc2 := 7) (fun T Q Qc L hc k => V_callS (as := [_, _, _]) (st := []) (M' := MX13_in) (pc2 := 7) (dk D_X13_feed 3 rfl) ml_13_292 mv_X13_in rfl rfl (Nat.le_of_ble_eq_true rfl) rfl he2 hc k) hc3 (aRI.k fun y4 s5 h => ?_)
  refine A_if (pa := 10) (pb := 12) (fun T Q k1 k2 => V_ifne (tgt := 12) (pc2 := 10) (dk D_X13_feed 4 rfl) (by decide) rfl (fun q => k2 q) (fun q => k1 q)) (fun q6 => ?_) (fun q6 => ?_)
  · have h := h.1 q6
    refine A_p (fun T Q _ _ k => V_iconst (x := (-1)) (pc2 := 11) (dk D_X13_feed 5 rfl) (by decide) rfl k) ?_
    exact A_ret (fun T Q _ k => V_ireturn (dk D_X13_feed 6 rfl) rfl k) h
  · have h := h.2 q6
    refine A_p (fun T Q _ _ k => V_aload_n (pc2 := 13) (dk D_X13_feed 7 rfl) rfl (V_lg 0 rfl) rfl k) ?_
    refine A_sc (pc2 := 16) 2 (dk D_X13_feed 8 rfl) fl_13_296 (by decide) rfl (fun _ => rfl) rfl ?_
    refine A_p (fun T Q _ _ k => V_iload_n (pc2 := 17) (dk D_X13_feed 9 rfl) rfl (V_lg 2 rfl) rfl k) ?_
    refine A_p (fun T Q _ _ k => V_iadd (pc2 := 18) (dk D_X13_feed 10 rfl) rfl k) ?_
    refine A_p (fun T Q _ _ k => V_sipush (x := 3000) (pc2 := 21) (dk D_X13_feed 11 rfl) (by decide) rfl k) ?_
    refine A_if (pa := 27) (pb := 24) (fun T Q k1 k2 => V_cmple (tgt := 27) (pc2 := 24) (dk D_X13_feed 12 rfl) (by decide) rfl (fun q => k1 q) (fun q => k2 q)) (fun q7 => ?_) (fun q7 => ?_)
    · have h := h.1 q7
      refine A_p (fun T Q _ _ k => V_iconst (x := 0) (pc2 := 28) (dk D_X13_feed 15 rfl) (by decide) rfl k) ?_
      refine A_p (fun T Q _ _ k => V_istore (pc2 := 30) (lv2 := [(0, _), (1, _), (3, _), (4, _)]) (dk D_X13_feed 16 rfl) (by decide) rfl rfl k) ?_
      exact h
    · have h := h.2 q7
      refine A_p (fun T Q _ _ k => V_bipush (x := (-3)) (pc2 := 26) (dk D_X13_feed 13 rfl) (by decide) rfl k) ?_
      exact A_ret (fun T Q _ k => V_ireturn (dk D_X13_feed 14 rfl) rfl k) h
theorem a_feed_30 {X : Cx} {b d : Nat} {σ : Rm} {Q : Res → Rm → Prop} (l1 : Int64) (x3 : Int32) (x4 : Int32) (h : ((x3 ≤ x4 → ∀ s2 : Rm, s2 = wS σ 2 ((sI σ 2) + x3) → Q (.inl (some (vI (sI s2 2)))) s2) ∧ (¬ x3 ≤ x4 → (vp_in ((sI σ 2) + x4) 3000) ∧ ∀ s4 : Rm, s4 = wI σ 1 ((((sI σ 2) + x4) : Int32).toNatClampNeg) ((((((l1 >>> (((8 * x4) : Int32).toInt64 &&& 63)) : Int64).toInt32) : Int32).toInt8.toInt32) : Int32).toInt8.toInt32 → A X b d MX13_feed 30 [(0, vR b), (1, vL l1), (3, vI x3), (4, vI (x4 + 1))] [] s4 Q))) : A X b d MX13_feed 30 [(0, vR b), (1, vL l1), (3, vI x3), (4, vI x4)] [] σ Q := by
  refine A_p (fun T Q _ _ k => V_iload (pc2 := 32) (dk D_X13_feed 17 rfl) (V_lg 3 rfl) rfl k) ?_
  refine A_p (fun T Q _ _ k => V_iload_n (pc2 := 33) (dk D_X13_feed 18 rfl) rfl (V_lg 2 rfl) rfl k) ?_
  refine A_if (pa := 63) (pb := 36) (fun T Q k1 k2 => V_cmpge (tgt := 63) (pc2 := 36) (dk D_X13_feed 19 rfl) (by decide) rfl (fun q => k1 q) (fun q => k2 q)) (fun q1 => ?_) (fun q1 => ?_)
  · have h := h.1 q1
    refine A_p (fun T Q _ _ k => V_aload_n (pc2 := 64) (dk D_X13_feed 36 rfl) rfl (V_lg 0 rfl) rfl k) ?_
    refine A_p (fun T Q _ _ k => V_dup (pc2 := 65) (dk D_X13_feed 37 rfl) rfl rfl k) ?_
    refine A_sc (pc2 := 68) 2 (dk D_X13_feed 38 rfl) fl_13_296 (by decide) rfl (fun _ => rfl) rfl ?_
    refine A_p (fun T Q _ _ k => V_iload_n (pc2 := 69) (dk D_X13_feed 39 rfl) rfl (V_lg 2 rfl) rfl k) ?_
    refine A_p (fun T Q _ _ k => V_iadd (pc2 := 70) (dk D_X13_feed 40 rfl) rfl k) ?_
    refine A_put (pc2 := 73) 2 (dk D_X13_feed 41 rfl) fl_13_296 (by decide) rfl rfl rfl rfl ?_
    have h := h _ rfl
    refine A_p (fun T Q _ _ k => V_aload_n (pc2 := 74) (dk D_X13_feed 42 rfl) rfl (V_lg 0 rfl) rfl k) ?_
    refine A_sc (pc2 := 77) 2 (dk D_X13_feed 43 rfl) fl_13_296 (by decide) rfl (fun _ => rfl) rfl ?_
    exact A_ret (fun T Q _ k => V_ireturn (dk D_X13_feed 44 rfl) rfl k) h
  · have h := h.2 q1
    refine A_p (fun T Q _ _ k => V_aload_n (pc2 := 37) (dk D_X13_feed 20 rfl) rfl (V_lg 0 rfl) rfl k) ?_
    refine A_ar (pc2 := 40) (a := 2) 1 (dk D_X13_feed 21 rfl) fl_13_16 (by decide) (by decide) rfl (fun _ => rfl) rfl ?_
    refine A_p (fun T Q _ _ k => V_aload_n (pc2 := 41) (dk D_X13_feed 22 rfl) rfl (V_lg 0 rfl) rfl k) ?_
    refine A_sc (pc2 := 44) 2 (dk D_X13_feed 23 rfl) fl_13_296 (by decide) rfl (fun _ => rfl) rfl ?_
    refine A_p (fun T Q _ _ k => V_iload (pc2 := 46) (dk D_X13_feed 24 rfl) (V_lg 3 rfl) rfl k) ?_
    refine A_p (fun T Q _ _ k => V_iadd (pc2 := 47) (dk D_X13_feed 25 rfl) rfl k) ?_
    refine A_p (fun T Q _ _ k => V_lload_n (pc2 := 48) (dk D_X13_feed 26 rfl) rfl (V_lg 1 rfl) rfl k) ?_
    refine A_p (fun T Q _ _ k => V_bipush (x := 8) (pc2 := 50) (dk D_X13_feed 27 rfl) (by decide) rfl k) ?_
    refine A_p (fun T Q _ _ k => V_iload (pc2 := 52) (dk D_X13_feed 28 rfl) (V_lg 3 rfl) rfl k) ?_
    refine A_p (fun T Q _ _ k => V_imul (pc2 := 53) (dk D_X13_feed 29 rfl) rfl k) ?_
    refine A_p (fun T Q _ _ k => V_lshr (pc2 := 54) (dk D_X13_feed 30 rfl) rfl k) ?_
    refine A_p (fun T Q _ _ k => V_l2i (pc2 := 55) (dk D_X13_feed 31 rfl) rfl k) ?_
    refine A_p (fun T Q _ _ k => V_i2b (pc2 := 56) (dk D_X13_feed 32 rfl) rfl k) ?_
    obtain ⟨h3, h⟩ := h
    refine A_bst (pc2 := 57) 1 (dk D_X13_feed 33 rfl) rfl (by decide) rfl (by decide) rfl rfl h3 ?_
    have h := h _ rfl
    refine A_p (fun T Q _ _ k => V_iinc (y := _ + 1) (pc2 := 60) (lv2 := [(0, _), (1, _), (3, _), (4, _)]) (dk D_X13_feed 34 rfl) (V_lg 3 rfl) rfl (by decide) rfl rfl k) ?_
    refine A_p (fun T Q _ _ k => V_goto (tgt := 30) (dk D_X13_feed 35 rfl) (by decide) k) ?_
    exact h
theorem a_drop_0 {X : Cx} {b d : Nat} {σ : Rm} {Q : Res → Rm → Prop}  (h : ∀ s1 : Rm, s1 = wS σ 2 0 → Q (.inl (some (vI (sI σ 2)))) s1) : A X b d MX13_drop 0 [(0, vR b)] [] σ Q := by
  refine A_p (fun T Q _ _ k => V_aload_n (pc2 := 1) (dk D_X13_drop 0 rfl) rfl (V_lg 0 rfl) rfl k) ?_
  refine A_sc (pc2 := 4) 2 (dk D_X13_drop 1 rfl) fl_13_296 (by decide) rfl (fun _ => rfl) rfl ?_
  refine A_p (fun T Q _ _ k => V_istore_n (pc2 := 5) (lv2 := [(0, _), (1, _)]) (dk D_X13_drop 2 rfl) rfl (by decide) rfl rfl k) ?_
  refine A_p (fun T Q _ _ k => V_aload_n (pc2 := 6) (dk D_X13_drop 3 rfl) rfl (V_lg 0 rfl) rfl k) ?_
  refine A_p (fun T Q _ _ k => V_iconst (x := 0) (pc2 := 7) (dk D_X13_drop 4 rfl) (by decide) rfl k) ?_
  refine A_put (pc2 := 10) 2 (dk D_X13_drop 5 rfl) fl_13_296 (by decide) rfl rfl rfl rfl ?_
  have h := h _ rfl
  refine A_p (fun T Q _ _ k => V_iload_n (pc2 := 11) (dk D_X13_drop 6 rfl) rfl (V_lg 1 rfl) rfl k) ?_
  exact A_ret (fun T Q _ k => V_ireturn (dk D_X13_drop 7 rfl) rfl k) h
theorem a_isLetter_0 {X : Cx} {b d : Nat} {σ : Rm} {Q : Res → Rm → Prop} (x0 : Int32) (h : ∃ e1 : Nat, e1 + 1 ≤ d ∧ AC X b e1 MX13_in [vI x0, vI 97, vI 122] σ (aRI fun y4 s5 => (y4 = 0 ∨ y4 = 1) ∧ Q (.inl (some (vI y4))) s5)) : A X b d MX13_isLetter 0 [(0, vI x0)] [] σ Q := by
  refine A_p (fun T Q _ _ k => V_iload_n (pc2 := 1) (dk D_X13_isLetter 0 rfl) rfl (V_lg 0 rfl) rfl k) ?_
  refine A_p (fun T Q _ _ k => V_bipush (x := 97) (pc2 := 3) (dk D_X13_isLetter 1 rfl) (by decide) rfl k) ?_
  refine A_p (fun T Q _ _ k => V_bipush (x := 122) (pc2 := 5) (dk D_X13_isLetter 2 rfl) (by decide) rfl k) ?_
  obtain ⟨e1, he2, hc3⟩ := h
  refine A_call (st := []) (pc2 := 8) (fun T Q Qc L hc k => V_callS (as := [_, _, _]) (st := []) (M' := MX13_in) (pc2 := 8) (dk D_X13_isLetter 3 rfl) ml_13_292 mv_X13_in rfl rfl (Nat.le_of_ble_eq_true rfl) rfl he2 hc k) hc3 (aRI.k fun y4 s5 h => ?_)
  obtain ⟨h6, h⟩ := h
  exact A_ret (fun T Q _ k => V_zreturn (dk D_X13_isLetter 4 rfl) rfl h6 k) h
theorem a_isFigure_0 {X : Cx} {b d : Nat} {σ : Rm} {Q : Res → Rm → Prop} (x0 : Int32) (h : ∃ e1 : Nat, e1 + 1 ≤ d ∧ AC X b e1 MX13_in [vI x0, vI 48, vI 57] σ (aRI fun y4 s5 => (y4 = 0 ∨ y4 = 1) ∧ Q (.inl (some (vI y4))) s5)) : A X b d MX13_isFigure 0 [(0, vI x0)] [] σ Q := by
  refine A_p (fun T Q _ _ k => V_iload_n (pc2 := 1) (dk D_X13_isFigure 0 rfl) rfl (V_lg 0 rfl) rfl k) ?_
  refine A_p (fun T Q _ _ k => V_bipush (x := 48) (pc2 := 3) (dk D_X13_isFigure 1 rfl) (by decide) rfl k) ?_
  refine A_p (fun T Q _ _ k => V_bipush (x := 57) (pc2 := 5) (dk D_X13_isFigure 2 rfl) (by decide) rfl k) ?_
  obtain ⟨e1, he2, hc3⟩ := h
  refine A_call (st := []) (pc2 := 8) (fun T Q Qc L hc k => V_callS (as := [_, _, _]) (st := []) (M' := MX13_in) (pc2 := 8) (dk D_X13_isFigure 3 rfl) ml_13_292 mv_X13_in rfl rfl (Nat.le_of_ble_eq_true rfl) rfl he2 hc k) hc3 (aRI.k fun y4 s5 h => ?_)
  obtain ⟨h6, h⟩ := h
  exact A_ret (fun T Q _ k => V_zreturn (dk D_X13_isFigure 4 rfl) rfl h6 k) h
theorem a_keyOf_0 {X : Cx} {b d : Nat} {σ : Rm} {Q : Res → Rm → Prop} (r1 : Nat) (h : A X b d MX13_keyOf 5 [(0, vR b), (1, vR r1), (2, vL 0), (4, vI 0)] [] σ Q) : A X b d MX13_keyOf 0 [(0, vR b), (1, vR r1)] [] σ Q := by
  refine A_p (fun T Q _ _ k => V_lconst (x := 0) (pc2 := 1) (dk D_X13_keyOf 0 rfl) (by decide) rfl k) ?_
  refine A_p (fun T Q _ _ k => V_lstore_n (pc2 := 2) (lv2 := [(0, _), (1, _), (2, _)]) (dk D_X13_keyOf 1 rfl) rfl (by decide) rfl rfl k) ?_
  refine A_p (fun T Q _ _ k => V_iconst (x := 0) (pc2 := 3) (dk D_X13_keyOf 2 rfl) (by decide) rfl k) ?_
  refine A_p (fun T Q _ _ k => V_istore (pc2 := 5) (lv2 := [(0, _), (1, _), (2, _), (4, _)]) (dk D_X13_keyOf 3 rfl) (by decide) rfl rfl k) ?_
  exact h
theorem a_keyOf_5 {X : Cx} {b d : Nat} {σ : Rm} {Q : Res → Rm → Prop} (r1 : Nat) (l2 : Int64) (x4 : Int32) (h : (2 ≤ r1 ∧ r1 < 27) ∧ ∃ e1 : Nat, e1 + 1 ≤ d ∧ AC X b e1 MJ0_length_8abf5 [vR r1] σ (aRI fun y4 s5 => ((y4 ≤ x4 → Q (.inl (some (vL l2))) s5) ∧ (¬ y4 ≤ x4 → (2 ≤ r1 ∧ r1 < 27) ∧ ∃ e8 : Nat, e8 + 1 ≤ d ∧ AC X b e8 MJ0_charAt_5068e [vR r1, vI x4] s5 (aRI fun y11 s12 => A X b d MX13_keyOf 5 [(0, vR b), (1, vR r1), (2, vL ((27 * l2) + ((((y11 - 97) + 1) : Int32).toInt64))), (4, vI (x4 + 1))] [] s12 Q))))) : A X b d MX13_keyOf 5 [(0, vR b), (1, vR r1), (2, vL l2), (4, vI x4)] [] σ Q := by
  refine A_p (fun T Q _ _ k => V_iload (pc2 := 7) (dk D_X13_keyOf 4 rfl) (V_lg 3 rfl) rfl k) ?_
  refine A_p (fun T Q _ _ k => V_aload_n (pc2 := 8) (dk D_X13_keyOf 5 rfl) rfl (V_lg 1 rfl) rfl k) ?_
  obtain ⟨h6, h⟩ := h
  obtain ⟨e1, he2, hc3⟩ := h
  refine A_call (st := [_]) (pc2 := 11) (fun T Q Qc L hc k => V_callT h6.1 h6.2 (as := []) (st := [_]) (M' := MJ0_length_8abf5) (pc2 := 11) rfl (dk D_X13_keyOf 6 rfl) ml_13_300 mv_J0_length_8abf5 rfl rfl (Nat.le_of_ble_eq_true rfl) rfl he2 hc k) hc3 (aRI.k fun y4 s5 h => ?_)
  refine A_if (pa := 39) (pb := 14) (fun T Q k1 k2 => V_cmpge (tgt := 39) (pc2 := 14) (dk D_X13_keyOf 7 rfl) (by decide) rfl (fun q => k1 q) (fun q => k2 q)) (fun q7 => ?_) (fun q7 => ?_)
  · have h := h.1 q7
    refine A_p (fun T Q _ _ k => V_lload_n (pc2 := 40) (dk D_X13_keyOf 23 rfl) rfl (V_lg 2 rfl) rfl k) ?_
    exact A_ret (fun T Q _ k => V_lreturn (dk D_X13_keyOf 24 rfl) rfl k) h
  · have h := h.2 q7
    refine A_p (fun T Q _ _ k => V_ldc2 (x := 27) (pc2 := 17) (dk D_X13_keyOf 8 rfl) kl_13_304 rfl k) ?_
    refine A_p (fun T Q _ _ k => V_lload_n (pc2 := 18) (dk D_X13_keyOf 9 rfl) rfl (V_lg 2 rfl) rfl k) ?_
    refine A_p (fun T Q _ _ k => V_lmul (pc2 := 19) (dk D_X13_keyOf 10 rfl) rfl k) ?_
    refine A_p (fun T Q _ _ k => V_aload_n (pc2 := 20) (dk D_X13_keyOf 11 rfl) rfl (V_lg 1 rfl) rfl k) ?_
    refine A_p (fun T Q _ _ k => V_iload (pc2 := 22) (dk D_X13_keyOf 12 rfl) (V_lg 3 rfl) rfl k) ?_
    obtain ⟨h13, h⟩ := h
    obtain ⟨e8, he9, hc10⟩ := h
    refine A_call (st := [_]) (pc2 := 25) (fun T Q Qc L hc k => V_callT h13.1 h13.2 (as := [_]) (st := [_]) (M' := MJ0_charAt_5068e) (pc2 := 25) rfl (dk D_X13_keyOf 13 rfl) ml_13_306 mv_J0_charAt_5068e rfl rfl (Nat.le_of_ble_eq_true rfl) rfl he9 hc k) hc10 (aRI.k fun y11 s12 h => ?_)
    refine A_p (fun T Q _ _ k => V_bipush (x := 97) (pc2 := 27) (dk D_X13_keyOf 14 rfl) (by decide) rfl k) ?_
    refine A_p (fun T Q _ _ k => V_isub (pc2 := 28) (dk D_X13_keyOf 15 rfl) rfl k) ?_
    refine A_p (fun T Q _ _ k => V_iconst (x := 1) (pc2 := 29) (dk D_X13_keyOf 16 rfl) (by decide) rfl k) ?_
    refine A_p (fun T Q _ _ k => V_iadd (pc2 := 30) (dk D_X13_keyOf 17 rfl) rfl k) ?_
    refine A_p (fun T Q _ _ k => V_i2l (pc2 := 31) (dk D_X13_keyOf 18 rfl) rfl k) ?_
    refine A_p (fun T Q _ _ k => V_ladd (pc2 := 32) (dk D_X13_keyOf 19 rfl) rfl k) ?_
    refine A_p (fun T Q _ _ k => V_lstore_n (pc2 := 33) (lv2 := [(0, _), (1, _), (2, _), (4, _)]) (dk D_X13_keyOf 20 rfl) rfl (by decide) rfl rfl k) ?_
    refine A_p (fun T Q _ _ k => V_iinc (y := _ + 1) (pc2 := 36) (lv2 := [(0, _), (1, _), (2, _), (4, _)]) (dk D_X13_keyOf 21 rfl) (V_lg 3 rfl) rfl (by decide) rfl rfl k) ?_
    refine A_p (fun T Q _ _ k => V_goto (tgt := 5) (dk D_X13_keyOf 22 rfl) (by decide) k) ?_
    exact h
theorem a_isWordKey_0 {X : Cx} {b d : Nat} {σ : Rm} {Q : Res → Rm → Prop} (l1 : Int64) (h : A X b d MX13_isWordKey 5 [(0, vR b), (1, vL l1), (3, vI 0), (4, vI 0)] [] σ Q) : A X b d MX13_isWordKey 0 [(0, vR b), (1, vL l1)] [] σ Q := by
  refine A_p (fun T Q _ _ k => V_iconst (x := 0) (pc2 := 1) (dk D_X13_isWordKey 0 rfl) (by decide) rfl k) ?_
  refine A_p (fun T Q _ _ k => V_istore_n (pc2 := 2) (lv2 := [(0, _), (1, _), (3, _)]) (dk D_X13_isWordKey 1 rfl) rfl (by decide) rfl rfl k) ?_
  refine A_p (fun T Q _ _ k => V_iconst (x := 0) (pc2 := 3) (dk D_X13_isWordKey 2 rfl) (by decide) rfl k) ?_
  refine A_p (fun T Q _ _ k => V_istore (pc2 := 5) (lv2 := [(0, _), (1, _), (3, _), (4, _)]) (dk D_X13_isWordKey 3 rfl) (by decide) rfl rfl k) ?_
  exact h
theorem a_isWordKey_5 {X : Cx} {b d : Nat} {σ : Rm} {Q : Res → Rm → Prop} (l1 : Int64) (x3 : Int32) (x4 : Int32) (h : (((nI 23) ≤ x4 → (x3 = 0 ∨ x3 = 1) ∧ Q (.inl (some (vI x3))) σ) ∧ (¬ (nI 23) ≤ x4 → ((x3 = 0 → (vp_in x4 23) ∧ ∃ e5 : Nat, e5 + 1 ≤ d ∧ AC X b e5 MX13_keyOf [vR b, vR (4 + (x4 : Int32).toNatClampNeg)] σ (aRJ fun w8 s9 => (((lg_cmp w8 l1) = 0 → A X b d MX13_isWordKey 35 [(0, vR b), (1, vL l1), (3, vI x3), (4, vI x4)] [] s9 Q) ∧ (¬ (lg_cmp w8 l1) = 0 → A X b d MX13_isWordKey 40 [(0, vR b), (1, vL l1), (3, vI x3), (4, vI x4)] [vI 0] s9 Q)))) ∧ (¬ x3 = 0 → A X b d MX13_isWordKey 35 [(0, vR b), (1, vL l1), (3, vI x3), (4, vI x4)] [] σ Q))))) : A X b d MX13_isWordKey 5 [(0, vR b), (1, vL l1), (3, vI x3), (4, vI x4)] [] σ Q := by
  refine A_p (fun T Q _ _ k => V_iload (pc2 := 7) (dk D_X13_isWordKey 4 rfl) (V_lg 3 rfl) rfl k) ?_
  refine A_p (fun T Q _ _ k => V_aload_n (pc2 := 8) (dk D_X13_isWordKey 5 rfl) rfl (V_lg 0 rfl) rfl k) ?_
  refine A_ar (pc2 := 11) (a := 9) 11 (dk D_X13_isWordKey 6 rfl) fl_13_88 (by decide) (by decide) rfl (fun _ => rfl) rfl ?_
  refine A_wln (pc2 := 12) (dk D_X13_isWordKey 7 rfl) rfl ?_
  refine A_if (pa := 47) (pb := 15) (fun T Q k1 k2 => V_cmpge (tgt := 47) (pc2 := 15) (dk D_X13_isWordKey 8 rfl) (by decide) rfl (fun q => k1 q) (fun q => k2 q)) (fun q1 => ?_) (fun q1 => ?_)
  · have h := h.1 q1
    refine A_p (fun T Q _ _ k => V_iload_n (pc2 := 48) (dk D_X13_isWordKey 26 rfl) rfl (V_lg 2 rfl) rfl k) ?_
    obtain ⟨h2, h⟩ := h
    exact A_ret (fun T Q _ k => V_zreturn (dk D_X13_isWordKey 27 rfl) rfl h2 k) h
  · have h := h.2 q1
    refine A_p (fun T Q _ _ k => V_iload_n (pc2 := 16) (dk D_X13_isWordKey 9 rfl) rfl (V_lg 2 rfl) rfl k) ?_
    refine A_if (pa := 19) (pb := 35) (fun T Q k1 k2 => V_ifne (tgt := 35) (pc2 := 19) (dk D_X13_isWordKey 10 rfl) (by decide) rfl (fun q => k2 q) (fun q => k1 q)) (fun q3 => ?_) (fun q3 => ?_)
    · have h := h.1 q3
      refine A_p (fun T Q _ _ k => V_aload_n (pc2 := 20) (dk D_X13_isWordKey 11 rfl) rfl (V_lg 0 rfl) rfl k) ?_
      refine A_p (fun T Q _ _ k => V_aload_n (pc2 := 21) (dk D_X13_isWordKey 12 rfl) rfl (V_lg 0 rfl) rfl k) ?_
      refine A_ar (pc2 := 24) (a := 9) 11 (dk D_X13_isWordKey 13 rfl) fl_13_88 (by decide) (by decide) rfl (fun _ => rfl) rfl ?_
      refine A_p (fun T Q _ _ k => V_iload (pc2 := 26) (dk D_X13_isWordKey 14 rfl) (V_lg 3 rfl) rfl k) ?_
      obtain ⟨h4, h⟩ := h
      refine A_wld (pc2 := 27) (dk D_X13_isWordKey 15 rfl) rfl h4 ?_
      obtain ⟨e5, he6, hc7⟩ := h
      refine A_call (st := []) (pc2 := 30) (fun T Q Qc L hc k => V_callV (as := [_]) (st := []) (M' := MX13_keyOf) (ci := 13) (pc2 := 30) (dk D_X13_isWordKey 16 rfl) ml_13_310 mv_X13_keyOf rfl rfl (by decide) rfl (Nat.le_of_ble_eq_true rfl) rfl he6 L.2.1 hc k) hc7 (aRJ.k fun w8 s9 h => ?_)
      refine A_p (fun T Q _ _ k => V_lload_n (pc2 := 31) (dk D_X13_isWordKey 17 rfl) rfl (V_lg 1 rfl) rfl k) ?_
      refine A_p (fun T Q _ _ k => V_lcmp (pc2 := 32) (dk D_X13_isWordKey 18 rfl) rfl k) ?_
      refine A_if (pa := 35) (pb := 39) (fun T Q k1 k2 => V_ifne (tgt := 39) (pc2 := 35) (dk D_X13_isWordKey 19 rfl) (by decide) rfl (fun q => k2 q) (fun q => k1 q)) (fun q10 => ?_) (fun q10 => ?_)
      · have h := h.1 q10
        exact h
      · have h := h.2 q10
        refine A_p (fun T Q _ _ k => V_iconst (x := 0) (pc2 := 40) (dk D_X13_isWordKey 22 rfl) (by decide) rfl k) ?_
        exact h
    · have h := h.2 q3
      exact h
theorem a_isWordKey_35 {X : Cx} {b d : Nat} {σ : Rm} {Q : Res → Rm → Prop} (l1 : Int64) (x3 : Int32) (x4 : Int32) (h : A X b d MX13_isWordKey 40 [(0, vR b), (1, vL l1), (3, vI x3), (4, vI x4)] [vI 1] σ Q) : A X b d MX13_isWordKey 35 [(0, vR b), (1, vL l1), (3, vI x3), (4, vI x4)] [] σ Q := by
  refine A_p (fun T Q _ _ k => V_iconst (x := 1) (pc2 := 36) (dk D_X13_isWordKey 20 rfl) (by decide) rfl k) ?_
  refine A_p (fun T Q _ _ k => V_goto (tgt := 40) (dk D_X13_isWordKey 21 rfl) (by decide) k) ?_
  exact h
theorem a_isWordKey_40 {X : Cx} {b d : Nat} {σ : Rm} {Q : Res → Rm → Prop} (l1 : Int64) (x3 : Int32) (x4 : Int32) (t0 : Int32) (h : A X b d MX13_isWordKey 5 [(0, vR b), (1, vL l1), (3, vI t0), (4, vI (x4 + 1))] [] σ Q) : A X b d MX13_isWordKey 40 [(0, vR b), (1, vL l1), (3, vI x3), (4, vI x4)] [vI t0] σ Q := by
  refine A_p (fun T Q _ _ k => V_istore_n (pc2 := 41) (lv2 := [(0, _), (1, _), (3, _), (4, _)]) (dk D_X13_isWordKey 23 rfl) rfl (by decide) rfl rfl k) ?_
  refine A_p (fun T Q _ _ k => V_iinc (y := _ + 1) (pc2 := 44) (lv2 := [(0, _), (1, _), (3, _), (4, _)]) (dk D_X13_isWordKey 24 rfl) (V_lg 3 rfl) rfl (by decide) rfl rfl k) ?_
  refine A_p (fun T Q _ _ k => V_goto (tgt := 5) (dk D_X13_isWordKey 25 rfl) (by decide) k) ?_
  exact h
theorem a_cut_0 {X : Cx} {b d : Nat} {σ : Rm} {Q : Res → Rm → Prop}  (h : A X b d MX13_cut 6 [(0, vR b), (1, vI 0), (2, vI 0), (3, vI 1)] [] σ Q) : A X b d MX13_cut 0 [(0, vR b)] [] σ Q := by
  refine A_p (fun T Q _ _ k => V_iconst (x := 0) (pc2 := 1) (dk D_X13_cut 0 rfl) (by decide) rfl k) ?_
  refine A_p (fun T Q _ _ k => V_istore_n (pc2 := 2) (lv2 := [(0, _), (1, _)]) (dk D_X13_cut 1 rfl) rfl (by decide) rfl rfl k) ?_
  refine A_p (fun T Q _ _ k => V_iconst (x := 0) (pc2 := 3) (dk D_X13_cut 2 rfl) (by decide) rfl k) ?_
  refine A_p (fun T Q _ _ k => V_istore_n (pc2 := 4) (lv2 := [(0, _), (1, _), (2, _)]) (dk D_X13_cut 3 rfl) rfl (by decide) rfl rfl k) ?_
  refine A_p (fun T Q _ _ k => V_iconst (x := 1) (pc2 := 5) (dk D_X13_cut 4 rfl) (by decide) rfl k) ?_
  refine A_p (fun T Q _ _ k => V_istore_n (pc2 := 6) (lv2 := [(0, _), (1, _), (2, _), (3, _)]) (dk D_X13_cut 5 rfl) rfl (by decide) rfl rfl k) ?_
  exact h
theorem a_cut_6 {X : Cx} {b d : Nat} {σ : Rm} {Q : Res → Rm → Prop} (x1 : Int32) (x2 : Int32) (x3 : Int32) (h : ((x3 = 0 → Q (.inl none) σ) ∧ (¬ x3 = 0 → A X b d MX13_cut 10 [(0, vR b), (1, vI x1), (2, vI x2), (3, vI x3)] [] σ Q))) : A X b d MX13_cut 6 [(0, vR b), (1, vI x1), (2, vI x2), (3, vI x3)] [] σ Q := by
  refine A_p (fun T Q _ _ k => V_iload_n (pc2 := 7) (dk D_X13_cut 6 rfl) rfl (V_lg 3 rfl) rfl k) ?_
  refine A_if (pa := 496) (pb := 10) (fun T Q k1 k2 => V_ifeq (tgt := 496) (pc2 := 10) (dk D_X13_cut 7 rfl) (by decide) rfl (fun q => k1 q) (fun q => k2 q)) (fun q1 => ?_) (fun q1 => ?_)
  · have h := h.1 q1
    exact A_ret (fun T Q _ k => V_return (dk D_X13_cut 263 rfl) rfl k) h
  · have h := h.2 q1
    exact h
theorem a_cut_10 {X : Cx} {b d : Nat} {σ : Rm} {Q : Res → Rm → Prop} (x1 : Int32) (x2 : Int32) (x3 : Int32) (h : (((sI σ 4) ≤ x2 → A X b d MX13_cut 46 [(0, vR b), (1, vI x1), (2, vI x2), (3, vI x3)] [] σ Q) ∧ (¬ (sI σ 4) ≤ x2 → (vp_in x2 3000) ∧ (((aI σ 3 (x2 : Int32).toNatClampNeg) = 32 → A X b d MX13_cut 40 [(0, vR b), (1, vI x1), (2, vI x2), (3, vI x3)] [] σ Q) ∧ (¬ (aI σ 3 (x2 : Int32).toNatClampNeg) = 32 → (vp_in x2 3000) ∧ (((aI σ 3 (x2 : Int32).toNatClampNeg) = 10 → A X b d MX13_cut 40 [(0, vR b), (1, vI x1), (2, vI x2), (3, vI x3)] [] σ Q) ∧ (¬ (aI σ 3 (x2 : Int32).toNatClampNeg) = 10 → A X b d MX13_cut 46 [(0, vR b), (1, vI x1), (2, vI x2), (3, vI x3)] [] σ Q))))))) : A X b d MX13_cut 10 [(0, vR b), (1, vI x1), (2, vI x2), (3, vI x3)] [] σ Q := by
  refine A_p (fun T Q _ _ k => V_iload_n (pc2 := 11) (dk D_X13_cut 8 rfl) rfl (V_lg 2 rfl) rfl k) ?_
  refine A_p (fun T Q _ _ k => V_aload_n (pc2 := 12) (dk D_X13_cut 9 rfl) rfl (V_lg 0 rfl) rfl k) ?_
  refine A_sc (pc2 := 15) 4 (dk D_X13_cut 10 rfl) fl_13_314 (by decide) rfl (fun _ => rfl) rfl ?_
  refine A_if (pa := 46) (pb := 18) (fun T Q k1 k2 => V_cmpge (tgt := 46) (pc2 := 18) (dk D_X13_cut 11 rfl) (by decide) rfl (fun q => k1 q) (fun q => k2 q)) (fun q1 => ?_) (fun q1 => ?_)
  · have h := h.1 q1
    exact h
  · have h := h.2 q1
    refine A_p (fun T Q _ _ k => V_aload_n (pc2 := 19) (dk D_X13_cut 12 rfl) rfl (V_lg 0 rfl) rfl k) ?_
    refine A_ar (pc2 := 22) (a := 3) 3 (dk D_X13_cut 13 rfl) fl_13_20 (by decide) (by decide) rfl (fun _ => rfl) rfl ?_
    refine A_p (fun T Q _ _ k => V_iload_n (pc2 := 23) (dk D_X13_cut 14 rfl) rfl (V_lg 2 rfl) rfl k) ?_
    obtain ⟨h2, h⟩ := h
    refine A_bld (pc2 := 24) 3 (dk D_X13_cut 15 rfl) rfl (by decide) rfl (by decide) rfl rfl h2 ?_
    refine A_p (fun T Q _ _ k => V_bipush (x := 32) (pc2 := 26) (dk D_X13_cut 16 rfl) (by decide) rfl k) ?_
    refine A_if (pa := 40) (pb := 29) (fun T Q k1 k2 => V_cmpeq (tgt := 40) (pc2 := 29) (dk D_X13_cut 17 rfl) (by decide) rfl (fun q => k1 q) (fun q => k2 q)) (fun q3 => ?_) (fun q3 => ?_)
    · have h := h.1 q3
      exact h
    · have h := h.2 q3
      refine A_p (fun T Q _ _ k => V_aload_n (pc2 := 30) (dk D_X13_cut 18 rfl) rfl (V_lg 0 rfl) rfl k) ?_
      refine A_ar (pc2 := 33) (a := 3) 3 (dk D_X13_cut 19 rfl) fl_13_20 (by decide) (by decide) rfl (fun _ => rfl) rfl ?_
      refine A_p (fun T Q _ _ k => V_iload_n (pc2 := 34) (dk D_X13_cut 20 rfl) rfl (V_lg 2 rfl) rfl k) ?_
      obtain ⟨h4, h⟩ := h
      refine A_bld (pc2 := 35) 3 (dk D_X13_cut 21 rfl) rfl (by decide) rfl (by decide) rfl rfl h4 ?_
      refine A_p (fun T Q _ _ k => V_bipush (x := 10) (pc2 := 37) (dk D_X13_cut 22 rfl) (by decide) rfl k) ?_
      refine A_if (pa := 40) (pb := 46) (fun T Q k1 k2 => V_cmpne (tgt := 46) (pc2 := 40) (dk D_X13_cut 23 rfl) (by decide) rfl (fun q => k2 q) (fun q => k1 q)) (fun q5 => ?_) (fun q5 => ?_)
      · have h := h.1 q5
        exact h
      · have h := h.2 q5
        exact h
theorem a_cut_40 {X : Cx} {b d : Nat} {σ : Rm} {Q : Res → Rm → Prop} (x1 : Int32) (x2 : Int32) (x3 : Int32) (h : A X b d MX13_cut 10 [(0, vR b), (1, vI x1), (2, vI (x2 + 1)), (3, vI x3)] [] σ Q) : A X b d MX13_cut 40 [(0, vR b), (1, vI x1), (2, vI x2), (3, vI x3)] [] σ Q := by
  refine A_p (fun T Q _ _ k => V_iinc (y := _ + 1) (pc2 := 43) (lv2 := [(0, _), (1, _), (2, _), (3, _)]) (dk D_X13_cut 24 rfl) (V_lg 2 rfl) rfl (by decide) rfl rfl k) ?_
  refine A_p (fun T Q _ _ k => V_goto (tgt := 10) (dk D_X13_cut 25 rfl) (by decide) k) ?_
  exact h
theorem a_cut_46 {X : Cx} {b d : Nat} {σ : Rm} {Q : Res → Rm → Prop} (x1 : Int32) (x2 : Int32) (x3 : Int32) (h : (vp_in x1 3002) ∧ ∀ s2 : Rm, s2 = wI σ 6 ((x1 : Int32).toNatClampNeg) x2 → (((sI s2 4) ≤ x2 → A X b d MX13_cut 71 [(0, vR b), (1, vI x1), (2, vI x2), (3, vI x3)] [vI 0] s2 Q) ∧ (¬ (sI s2 4) ≤ x2 → (vp_in x2 3000) ∧ A X b d MX13_cut 71 [(0, vR b), (1, vI x1), (2, vI x2), (3, vI x3)] [vI (aI s2 3 (x2 : Int32).toNatClampNeg)] s2 Q))) : A X b d MX13_cut 46 [(0, vR b), (1, vI x1), (2, vI x2), (3, vI x3)] [] σ Q := by
  refine A_p (fun T Q _ _ k => V_aload_n (pc2 := 47) (dk D_X13_cut 26 rfl) rfl (V_lg 0 rfl) rfl k) ?_
  refine A_ar (pc2 := 50) (a := 5) 6 (dk D_X13_cut 27 rfl) fl_13_27 (by decide) (by decide) rfl (fun _ => rfl) rfl ?_
  refine A_p (fun T Q _ _ k => V_iload_n (pc2 := 51) (dk D_X13_cut 28 rfl) rfl (V_lg 1 rfl) rfl k) ?_
  refine A_p (fun T Q _ _ k => V_iload_n (pc2 := 52) (dk D_X13_cut 29 rfl) rfl (V_lg 2 rfl) rfl k) ?_
  obtain ⟨h1, h⟩ := h
  refine A_ist (pc2 := 53) 6 (dk D_X13_cut 30 rfl) rfl (by decide) rfl (by decide) rfl rfl h1 ?_
  have h := h _ rfl
  refine A_p (fun T Q _ _ k => V_iload_n (pc2 := 54) (dk D_X13_cut 31 rfl) rfl (V_lg 2 rfl) rfl k) ?_
  refine A_p (fun T Q _ _ k => V_aload_n (pc2 := 55) (dk D_X13_cut 32 rfl) rfl (V_lg 0 rfl) rfl k) ?_
  refine A_sc (pc2 := 58) 4 (dk D_X13_cut 33 rfl) fl_13_314 (by decide) rfl (fun _ => rfl) rfl ?_
  refine A_if (pa := 70) (pb := 61) (fun T Q k1 k2 => V_cmpge (tgt := 70) (pc2 := 61) (dk D_X13_cut 34 rfl) (by decide) rfl (fun q => k1 q) (fun q => k2 q)) (fun q3 => ?_) (fun q3 => ?_)
  · have h := h.1 q3
    refine A_p (fun T Q _ _ k => V_iconst (x := 0) (pc2 := 71) (dk D_X13_cut 40 rfl) (by decide) rfl k) ?_
    exact h
  · have h := h.2 q3
    refine A_p (fun T Q _ _ k => V_aload_n (pc2 := 62) (dk D_X13_cut 35 rfl) rfl (V_lg 0 rfl) rfl k) ?_
    refine A_ar (pc2 := 65) (a := 3) 3 (dk D_X13_cut 36 rfl) fl_13_20 (by decide) (by decide) rfl (fun _ => rfl) rfl ?_
    refine A_p (fun T Q _ _ k => V_iload_n (pc2 := 66) (dk D_X13_cut 37 rfl) rfl (V_lg 2 rfl) rfl k) ?_
    obtain ⟨h4, h⟩ := h
    refine A_bld (pc2 := 67) 3 (dk D_X13_cut 38 rfl) rfl (by decide) rfl (by decide) rfl rfl h4 ?_
    refine A_p (fun T Q _ _ k => V_goto (tgt := 71) (dk D_X13_cut 39 rfl) (by decide) k) ?_
    exact h
theorem a_cut_71 {X : Cx} {b d : Nat} {σ : Rm} {Q : Res → Rm → Prop} (x1 : Int32) (x2 : Int32) (x3 : Int32) (t0 : Int32) (h : ((x2 = (sI σ 4) → (vp_in x1 3002) ∧ ∀ s3 : Rm, s3 = wI σ 5 ((x1 : Int32).toNatClampNeg) 6 → A X b d MX13_cut 483 [(0, vR b), (1, vI x1), (2, vI x2), (3, vI 0), (4, vI t0)] [] s3 Q) ∧ (¬ x2 = (sI σ 4) → ∃ e4 : Nat, e4 + 1 ≤ d ∧ AC X b e4 MX13_isLetter [vI t0] σ (aRI fun y7 s8 => ((y7 = 0 → ∃ e10 : Nat, e10 + 1 ≤ d ∧ AC X b e10 MX13_isFigure [vI t0] s8 (aRI fun y13 s14 => ((y13 = 0 → ((t0 = 61 → (((sI s14 4) ≤ (x2 + 1) → A X b d MX13_cut 347 [(0, vR b), (1, vI x1), (2, vI x2), (3, vI x3), (4, vI t0)] [] s14 Q) ∧ (¬ (sI s14 4) ≤ (x2 + 1) → (vp_in (x2 + 1) 3000) ∧ (((aI s14 3 ((x2 + 1) : Int32).toNatClampNeg) = 61 → (vp_in x1 3002) ∧ ∀ s21 : Rm, s21 = wI s14 5 ((x1 : Int32).toNatClampNeg) 5 → A X b d MX13_cut 483 [(0, vR b), (1, vI x1), (2, vI (x2 + 2)), (3, vI x3), (4, vI t0)] [] s21 Q) ∧ (¬ (aI s14 3 ((x2 + 1) : Int32).toNatClampNeg) = 61 → A X b d MX13_cut 347 [(0, vR b), (1, vI x1), (2, vI x2), (3, vI x3), (4, vI t0)] [] s14 Q))))) ∧ (¬ t0 = 61 → A X b d MX13_cut 347 [(0, vR b), (1, vI x1), (2, vI x2), (3, vI x3), (4, vI t0)] [] s14 Q))) ∧ (¬ y13 = 0 → A X b d MX13_cut 225 [(0, vR b), (1, vI x1), (2, vI x2), (3, vI x3), (4, vI t0), (5, vI 0)] [] s14 Q)))) ∧ (¬ y7 = 0 → A X b d MX13_cut 105 [(0, vR b), (1, vI x1), (2, vI x2), (3, vI x3), (4, vI t0), (5, vL 0)] [] s8 Q)))))) : A X b d MX13_cut 71 [(0, vR b), (1, vI x1), (2, vI x2), (3, vI x3)] [vI t0] σ Q := by
  refine A_p (fun T Q _ _ k => V_istore (pc2 := 73) (lv2 := [(0, _), (1, _), (2, _), (3, _), (4, _)]) (dk D_X13_cut 41 rfl) (by decide) rfl rfl k) ?_
  refine A_p (fun T Q _ _ k => V_iload_n (pc2 := 74) (dk D_X13_cut 42 rfl) rfl (V_lg 2 rfl) rfl k) ?_
  refine A_p (fun T Q _ _ k => V_aload_n (pc2 := 75) (dk D_X13_cut 43 rfl) rfl (V_lg 0 rfl) rfl k) ?_
  refine A_sc (pc2 := 78) 4 (dk D_X13_cut 44 rfl) fl_13_314 (by decide) rfl (fun _ => rfl) rfl ?_
  refine A_if (pa := 81) (pb := 94) (fun T Q k1 k2 => V_cmpne (tgt := 94) (pc2 := 81) (dk D_X13_cut 45 rfl) (by decide) rfl (fun q => k2 q) (fun q => k1 q)) (fun q1 => ?_) (fun q1 => ?_)
  · have h := h.1 q1
    refine A_p (fun T Q _ _ k => V_aload_n (pc2 := 82) (dk D_X13_cut 46 rfl) rfl (V_lg 0 rfl) rfl k) ?_
    refine A_ar (pc2 := 85) (a := 4) 5 (dk D_X13_cut 47 rfl) fl_13_23 (by decide) (by decide) rfl (fun _ => rfl) rfl ?_
    refine A_p (fun T Q _ _ k => V_iload_n (pc2 := 86) (dk D_X13_cut 48 rfl) rfl (V_lg 1 rfl) rfl k) ?_
    refine A_p (fun T Q _ _ k => V_bipush (x := 6) (pc2 := 88) (dk D_X13_cut 49 rfl) (by decide) rfl k) ?_
    obtain ⟨h2, h⟩ := h
    refine A_ist (pc2 := 89) 5 (dk D_X13_cut 50 rfl) rfl (by decide) rfl (by decide) rfl rfl h2 ?_
    have h := h _ rfl
    refine A_p (fun T Q _ _ k => V_iconst (x := 0) (pc2 := 90) (dk D_X13_cut 51 rfl) (by decide) rfl k) ?_
    refine A_p (fun T Q _ _ k => V_istore_n (pc2 := 91) (lv2 := [(0, _), (1, _), (2, _), (3, _), (4, _)]) (dk D_X13_cut 52 rfl) rfl (by decide) rfl rfl k) ?_
    refine A_p (fun T Q _ _ k => V_goto (tgt := 483) (dk D_X13_cut 53 rfl) (by decide) k) ?_
    exact h
  · have h := h.2 q1
    refine A_p (fun T Q _ _ k => V_iload (pc2 := 96) (dk D_X13_cut 54 rfl) (V_lg 4 rfl) rfl k) ?_
    obtain ⟨e4, he5, hc6⟩ := h
    refine A_call (st := []) (pc2 := 99) (fun T Q Qc L hc k => V_callS (as := [_]) (st := []) (M' := MX13_isLetter) (pc2 := 99) (dk D_X13_cut 55 rfl) ml_13_317 mv_X13_isLetter rfl rfl (Nat.le_of_ble_eq_true rfl) rfl he5 hc k) hc6 (aRI.k fun y7 s8 h => ?_)
    refine A_if (pa := 214) (pb := 102) (fun T Q k1 k2 => V_ifeq (tgt := 214) (pc2 := 102) (dk D_X13_cut 56 rfl) (by decide) rfl (fun q => k1 q) (fun q => k2 q)) (fun q9 => ?_) (fun q9 => ?_)
    · have h := h.1 q9
      refine A_p (fun T Q _ _ k => V_iload (pc2 := 216) (dk D_X13_cut 120 rfl) (V_lg 4 rfl) rfl k) ?_
      obtain ⟨e10, he11, hc12⟩ := h
      refine A_call (st := []) (pc2 := 219) (fun T Q Qc L hc k => V_callS (as := [_]) (st := []) (M' := MX13_isFigure) (pc2 := 219) (dk D_X13_cut 121 rfl) ml_13_325 mv_X13_isFigure rfl rfl (Nat.le_of_ble_eq_true rfl) rfl he11 hc k) hc12 (aRI.k fun y13 s14 h => ?_)
      refine A_if (pa := 304) (pb := 222) (fun T Q k1 k2 => V_ifeq (tgt := 304) (pc2 := 222) (dk D_X13_cut 122 rfl) (by decide) rfl (fun q => k1 q) (fun q => k2 q)) (fun q15 => ?_) (fun q15 => ?_)
      · have h := h.1 q15
        refine A_p (fun T Q _ _ k => V_iload (pc2 := 306) (dk D_X13_cut 169 rfl) (V_lg 4 rfl) rfl k) ?_
        refine A_p (fun T Q _ _ k => V_bipush (x := 61) (pc2 := 308) (dk D_X13_cut 170 rfl) (by decide) rfl k) ?_
        refine A_if (pa := 311) (pb := 347) (fun T Q k1 k2 => V_cmpne (tgt := 347) (pc2 := 311) (dk D_X13_cut 171 rfl) (by decide) rfl (fun q => k2 q) (fun q => k1 q)) (fun q16 => ?_) (fun q16 => ?_)
        · have h := h.1 q16
          refine A_p (fun T Q _ _ k => V_iload_n (pc2 := 312) (dk D_X13_cut 172 rfl) rfl (V_lg 2 rfl) rfl k) ?_
          refine A_p (fun T Q _ _ k => V_iconst (x := 1) (pc2 := 313) (dk D_X13_cut 173 rfl) (by decide) rfl k) ?_
          refine A_p (fun T Q _ _ k => V_iadd (pc2 := 314) (dk D_X13_cut 174 rfl) rfl k) ?_
          refine A_p (fun T Q _ _ k => V_aload_n (pc2 := 315) (dk D_X13_cut 175 rfl) rfl (V_lg 0 rfl) rfl k) ?_
          refine A_sc (pc2 := 318) 4 (dk D_X13_cut 176 rfl) fl_13_314 (by decide) rfl (fun _ => rfl) rfl ?_
          refine A_if (pa := 347) (pb := 321) (fun T Q k1 k2 => V_cmpge (tgt := 347) (pc2 := 321) (dk D_X13_cut 177 rfl) (by decide) rfl (fun q => k1 q) (fun q => k2 q)) (fun q17 => ?_) (fun q17 => ?_)
          · have h := h.1 q17
            exact h
          · have h := h.2 q17
            refine A_p (fun T Q _ _ k => V_aload_n (pc2 := 322) (dk D_X13_cut 178 rfl) rfl (V_lg 0 rfl) rfl k) ?_
            refine A_ar (pc2 := 325) (a := 3) 3 (dk D_X13_cut 179 rfl) fl_13_20 (by decide) (by decide) rfl (fun _ => rfl) rfl ?_
            refine A_p (fun T Q _ _ k => V_iload_n (pc2 := 326) (dk D_X13_cut 180 rfl) rfl (V_lg 2 rfl) rfl k) ?_
            refine A_p (fun T Q _ _ k => V_iconst (x := 1) (pc2 := 327) (dk D_X13_cut 181 rfl) (by decide) rfl k) ?_
            refine A_p (fun T Q _ _ k => V_iadd (pc2 := 328) (dk D_X13_cut 182 rfl) rfl k) ?_
            obtain ⟨h18, h⟩ := h
            refine A_bld (pc2 := 329) 3 (dk D_X13_cut 183 rfl) rfl (by decide) rfl (by decide) rfl rfl h18 ?_
            refine A_p (fun T Q _ _ k => V_bipush (x := 61) (pc2 := 331) (dk D_X13_cut 184 rfl) (by decide) rfl k) ?_
            refine A_if (pa := 334) (pb := 347) (fun T Q k1 k2 => V_cmpne (tgt := 347) (pc2 := 334) (dk D_X13_cut 185 rfl) (by decide) rfl (fun q => k2 q) (fun q => k1 q)) (fun q19 => ?_) (fun q19 => ?_)
            · have h := h.1 q19
              refine A_p (fun T Q _ _ k => V_aload_n (pc2 := 335) (dk D_X13_cut 186 rfl) rfl (V_lg 0 rfl) rfl k) ?_
              refine A_ar (pc2 := 338) (a := 4) 5 (dk D_X13_cut 187 rfl) fl_13_23 (by decide) (by decide) rfl (fun _ => rfl) rfl ?_
              refine A_p (fun T Q _ _ k => V_iload_n (pc2 := 339) (dk D_X13_cut 188 rfl) rfl (V_lg 1 rfl) rfl k) ?_
              refine A_p (fun T Q _ _ k => V_iconst (x := 5) (pc2 := 340) (dk D_X13_cut 189 rfl) (by decide) rfl k) ?_
              obtain ⟨h20, h⟩ := h
              refine A_ist (pc2 := 341) 5 (dk D_X13_cut 190 rfl) rfl (by decide) rfl (by decide) rfl rfl h20 ?_
              have h := h _ rfl
              refine A_p (fun T Q _ _ k => V_iinc (y := _ + 2) (pc2 := 344) (lv2 := [(0, _), (1, _), (2, _), (3, _), (4, _)]) (dk D_X13_cut 191 rfl) (V_lg 2 rfl) rfl (by decide) rfl rfl k) ?_
              refine A_p (fun T Q _ _ k => V_goto (tgt := 483) (dk D_X13_cut 192 rfl) (by decide) k) ?_
              exact h
            · have h := h.2 q19
              exact h
        · have h := h.2 q16
          exact h
      · have h := h.2 q15
        refine A_p (fun T Q _ _ k => V_iconst (x := 0) (pc2 := 223) (dk D_X13_cut 123 rfl) (by decide) rfl k) ?_
        refine A_p (fun T Q _ _ k => V_istore (pc2 := 225) (lv2 := [(0, _), (1, _), (2, _), (3, _), (4, _), (5, _)]) (dk D_X13_cut 124 rfl) (by decide) rfl rfl k) ?_
        exact h
    · have h := h.2 q9
      refine A_p (fun T Q _ _ k => V_lconst (x := 0) (pc2 := 103) (dk D_X13_cut 57 rfl) (by decide) rfl k) ?_
      refine A_p (fun T Q _ _ k => V_lstore (pc2 := 105) (lv2 := [(0, _), (1, _), (2, _), (3, _), (4, _), (5, _)]) (dk D_X13_cut 58 rfl) (by decide) rfl rfl k) ?_
      exact h
theorem a_cut_105 {X : Cx} {b d : Nat} {σ : Rm} {Q : Res → Rm → Prop} (x1 : Int32) (x2 : Int32) (x3 : Int32) (x4 : Int32) (l5 : Int64) (h : (((sI σ 4) ≤ x2 → A X b d MX13_cut 170 [(0, vR b), (1, vI x1), (2, vI x2), (3, vI x3), (4, vI x4), (5, vL l5)] [] σ Q) ∧ (¬ (sI σ 4) ≤ x2 → (vp_in x2 3000) ∧ ∃ e3 : Nat, e3 + 1 ≤ d ∧ AC X b e3 MX13_isLetter [vI (aI σ 3 (x2 : Int32).toNatClampNeg)] σ (aRI fun y6 s7 => ((y6 = 0 → A X b d MX13_cut 170 [(0, vR b), (1, vI x1), (2, vI x2), (3, vI x3), (4, vI x4), (5, vL l5)] [] s7 Q) ∧ (¬ y6 = 0 → (vp_in x1 3002) ∧ ((8 ≤ (x2 - (aI s7 6 (x1 : Int32).toNatClampNeg)) → A X b d MX13_cut 162 [(0, vR b), (1, vI x1), (2, vI x2), (3, vI x3), (4, vI x4), (5, vL l5)] [vL l5] s7 Q) ∧ (¬ 8 ≤ (x2 - (aI s7 6 (x1 : Int32).toNatClampNeg)) → (vp_in x2 3000) ∧ A X b d MX13_cut 162 [(0, vR b), (1, vI x1), (2, vI x2), (3, vI x3), (4, vI x4), (5, vL l5)] [vL ((27 * l5) + (((((aI s7 3 (x2 : Int32).toNatClampNeg) - 97) + 1) : Int32).toInt64))] s7 Q)))))))) : A X b d MX13_cut 105 [(0, vR b), (1, vI x1), (2, vI x2), (3, vI x3), (4, vI x4), (5, vL l5)] [] σ Q := by
  refine A_p (fun T Q _ _ k => V_iload_n (pc2 := 106) (dk D_X13_cut 59 rfl) rfl (V_lg 2 rfl) rfl k) ?_
  refine A_p (fun T Q _ _ k => V_aload_n (pc2 := 107) (dk D_X13_cut 60 rfl) rfl (V_lg 0 rfl) rfl k) ?_
  refine A_sc (pc2 := 110) 4 (dk D_X13_cut 61 rfl) fl_13_314 (by decide) rfl (fun _ => rfl) rfl ?_
  refine A_if (pa := 170) (pb := 113) (fun T Q k1 k2 => V_cmpge (tgt := 170) (pc2 := 113) (dk D_X13_cut 62 rfl) (by decide) rfl (fun q => k1 q) (fun q => k2 q)) (fun q1 => ?_) (fun q1 => ?_)
  · have h := h.1 q1
    exact h
  · have h := h.2 q1
    refine A_p (fun T Q _ _ k => V_aload_n (pc2 := 114) (dk D_X13_cut 63 rfl) rfl (V_lg 0 rfl) rfl k) ?_
    refine A_ar (pc2 := 117) (a := 3) 3 (dk D_X13_cut 64 rfl) fl_13_20 (by decide) (by decide) rfl (fun _ => rfl) rfl ?_
    refine A_p (fun T Q _ _ k => V_iload_n (pc2 := 118) (dk D_X13_cut 65 rfl) rfl (V_lg 2 rfl) rfl k) ?_
    obtain ⟨h2, h⟩ := h
    refine A_bld (pc2 := 119) 3 (dk D_X13_cut 66 rfl) rfl (by decide) rfl (by decide) rfl rfl h2 ?_
    obtain ⟨e3, he4, hc5⟩ := h
    refine A_call (st := []) (pc2 := 122) (fun T Q Qc L hc k => V_callS (as := [_]) (st := []) (M' := MX13_isLetter) (pc2 := 122) (dk D_X13_cut 67 rfl) ml_13_317 mv_X13_isLetter rfl rfl (Nat.le_of_ble_eq_true rfl) rfl he4 hc k) hc5 (aRI.k fun y6 s7 h => ?_)
    refine A_if (pa := 170) (pb := 125) (fun T Q k1 k2 => V_ifeq (tgt := 170) (pc2 := 125) (dk D_X13_cut 68 rfl) (by decide) rfl (fun q => k1 q) (fun q => k2 q)) (fun q8 => ?_) (fun q8 => ?_)
    · have h := h.1 q8
      exact h
    · have h := h.2 q8
      refine A_p (fun T Q _ _ k => V_iload_n (pc2 := 126) (dk D_X13_cut 69 rfl) rfl (V_lg 2 rfl) rfl k) ?_
      refine A_p (fun T Q _ _ k => V_aload_n (pc2 := 127) (dk D_X13_cut 70 rfl) rfl (V_lg 0 rfl) rfl k) ?_
      refine A_ar (pc2 := 130) (a := 5) 6 (dk D_X13_cut 71 rfl) fl_13_27 (by decide) (by decide) rfl (fun _ => rfl) rfl ?_
      refine A_p (fun T Q _ _ k => V_iload_n (pc2 := 131) (dk D_X13_cut 72 rfl) rfl (V_lg 1 rfl) rfl k) ?_
      obtain ⟨h9, h⟩ := h
      refine A_ild (pc2 := 132) 6 (dk D_X13_cut 73 rfl) rfl (by decide) rfl (by decide) rfl rfl h9 ?_
      refine A_p (fun T Q _ _ k => V_isub (pc2 := 133) (dk D_X13_cut 74 rfl) rfl k) ?_
      refine A_p (fun T Q _ _ k => V_bipush (x := 8) (pc2 := 135) (dk D_X13_cut 75 rfl) (by decide) rfl k) ?_
      refine A_if (pa := 160) (pb := 138) (fun T Q k1 k2 => V_cmpge (tgt := 160) (pc2 := 138) (dk D_X13_cut 76 rfl) (by decide) rfl (fun q => k1 q) (fun q => k2 q)) (fun q10 => ?_) (fun q10 => ?_)
      · have h := h.1 q10
        refine A_p (fun T Q _ _ k => V_lload (pc2 := 162) (dk D_X13_cut 91 rfl) (V_lg 5 rfl) rfl k) ?_
        exact h
      · have h := h.2 q10
        refine A_p (fun T Q _ _ k => V_ldc2 (x := 27) (pc2 := 141) (dk D_X13_cut 77 rfl) kl_13_304 rfl k) ?_
        refine A_p (fun T Q _ _ k => V_lload (pc2 := 143) (dk D_X13_cut 78 rfl) (V_lg 5 rfl) rfl k) ?_
        refine A_p (fun T Q _ _ k => V_lmul (pc2 := 144) (dk D_X13_cut 79 rfl) rfl k) ?_
        refine A_p (fun T Q _ _ k => V_aload_n (pc2 := 145) (dk D_X13_cut 80 rfl) rfl (V_lg 0 rfl) rfl k) ?_
        refine A_ar (pc2 := 148) (a := 3) 3 (dk D_X13_cut 81 rfl) fl_13_20 (by decide) (by decide) rfl (fun _ => rfl) rfl ?_
        refine A_p (fun T Q _ _ k => V_iload_n (pc2 := 149) (dk D_X13_cut 82 rfl) rfl (V_lg 2 rfl) rfl k) ?_
        obtain ⟨h11, h⟩ := h
        refine A_bld (pc2 := 150) 3 (dk D_X13_cut 83 rfl) rfl (by decide) rfl (by decide) rfl rfl h11 ?_
        refine A_p (fun T Q _ _ k => V_bipush (x := 97) (pc2 := 152) (dk D_X13_cut 84 rfl) (by decide) rfl k) ?_
        refine A_p (fun T Q _ _ k => V_isub (pc2 := 153) (dk D_X13_cut 85 rfl) rfl k) ?_
        refine A_p (fun T Q _ _ k => V_iconst (x := 1) (pc2 := 154) (dk D_X13_cut 86 rfl) (by decide) rfl k) ?_
        refine A_p (fun T Q _ _ k => V_iadd (pc2 := 155) (dk D_X13_cut 87 rfl) rfl k) ?_
        refine A_p (fun T Q _ _ k => V_i2l (pc2 := 156) (dk D_X13_cut 88 rfl) rfl k) ?_
        refine A_p (fun T Q _ _ k => V_ladd (pc2 := 157) (dk D_X13_cut 89 rfl) rfl k) ?_
        refine A_p (fun T Q _ _ k => V_goto (tgt := 162) (dk D_X13_cut 90 rfl) (by decide) k) ?_
        exact h
theorem a_cut_162 {X : Cx} {b d : Nat} {σ : Rm} {Q : Res → Rm → Prop} (x1 : Int32) (x2 : Int32) (x3 : Int32) (x4 : Int32) (l5 : Int64) (t0 : Int64) (h : A X b d MX13_cut 105 [(0, vR b), (1, vI x1), (2, vI (x2 + 1)), (3, vI x3), (4, vI x4), (5, vL t0)] [] σ Q) : A X b d MX13_cut 162 [(0, vR b), (1, vI x1), (2, vI x2), (3, vI x3), (4, vI x4), (5, vL l5)] [vL t0] σ Q := by
  refine A_p (fun T Q _ _ k => V_lstore (pc2 := 164) (lv2 := [(0, _), (1, _), (2, _), (3, _), (4, _), (5, _)]) (dk D_X13_cut 92 rfl) (by decide) rfl rfl k) ?_
  refine A_p (fun T Q _ _ k => V_iinc (y := _ + 1) (pc2 := 167) (lv2 := [(0, _), (1, _), (2, _), (3, _), (4, _), (5, _)]) (dk D_X13_cut 93 rfl) (V_lg 2 rfl) rfl (by decide) rfl rfl k) ?_
  refine A_p (fun T Q _ _ k => V_goto (tgt := 105) (dk D_X13_cut 94 rfl) (by decide) k) ?_
  exact h
theorem a_cut_170 {X : Cx} {b d : Nat} {σ : Rm} {Q : Res → Rm → Prop} (x1 : Int32) (x2 : Int32) (x3 : Int32) (x4 : Int32) (l5 : Int64) (h : (vp_in x1 3002) ∧ ∀ s2 : Rm, s2 = wL σ 9 ((x1 : Int32).toNatClampNeg) l5 → (vp_in x1 3002) ∧ ((8 < (x2 - (aI s2 6 (x1 : Int32).toNatClampNeg)) → A X b d MX13_cut 209 [(0, vR b), (1, vI x1), (2, vI x2), (3, vI x3), (4, vI x4), (5, vL l5)] [vI x1, vR (b + 4)] s2 Q) ∧ (¬ 8 < (x2 - (aI s2 6 (x1 : Int32).toNatClampNeg)) → ∃ e5 : Nat, e5 + 1 ≤ d ∧ AC X b e5 MX13_isWordKey [vR b, vL l5] s2 (aRI fun y8 s9 => ((y8 = 0 → A X b d MX13_cut 209 [(0, vR b), (1, vI x1), (2, vI x2), (3, vI x3), (4, vI x4), (5, vL l5)] [vI x1, vR (b + 4)] s9 Q) ∧ (¬ y8 = 0 → A X b d MX13_cut 210 [(0, vR b), (1, vI x1), (2, vI x2), (3, vI x3), (4, vI x4), (5, vL l5)] [vI 4, vI x1, vR (b + 4)] s9 Q)))))) : A X b d MX13_cut 170 [(0, vR b), (1, vI x1), (2, vI x2), (3, vI x3), (4, vI x4), (5, vL l5)] [] σ Q := by
  refine A_p (fun T Q _ _ k => V_aload_n (pc2 := 171) (dk D_X13_cut 95 rfl) rfl (V_lg 0 rfl) rfl k) ?_
  refine A_ar (pc2 := 174) (a := 8) 9 (dk D_X13_cut 96 rfl) fl_13_36 (by decide) (by decide) rfl (fun _ => rfl) rfl ?_
  refine A_p (fun T Q _ _ k => V_iload_n (pc2 := 175) (dk D_X13_cut 97 rfl) rfl (V_lg 1 rfl) rfl k) ?_
  refine A_p (fun T Q _ _ k => V_lload (pc2 := 177) (dk D_X13_cut 98 rfl) (V_lg 5 rfl) rfl k) ?_
  obtain ⟨h1, h⟩ := h
  refine A_lst (pc2 := 178) 9 (dk D_X13_cut 99 rfl) rfl (by decide) rfl (by decide) rfl rfl h1 ?_
  have h := h _ rfl
  refine A_p (fun T Q _ _ k => V_aload_n (pc2 := 179) (dk D_X13_cut 100 rfl) rfl (V_lg 0 rfl) rfl k) ?_
  refine A_ar (pc2 := 182) (a := 4) 5 (dk D_X13_cut 101 rfl) fl_13_23 (by decide) (by decide) rfl (fun _ => rfl) rfl ?_
  refine A_p (fun T Q _ _ k => V_iload_n (pc2 := 183) (dk D_X13_cut 102 rfl) rfl (V_lg 1 rfl) rfl k) ?_
  refine A_p (fun T Q _ _ k => V_iload_n (pc2 := 184) (dk D_X13_cut 103 rfl) rfl (V_lg 2 rfl) rfl k) ?_
  refine A_p (fun T Q _ _ k => V_aload_n (pc2 := 185) (dk D_X13_cut 104 rfl) rfl (V_lg 0 rfl) rfl k) ?_
  refine A_ar (pc2 := 188) (a := 5) 6 (dk D_X13_cut 105 rfl) fl_13_27 (by decide) (by decide) rfl (fun _ => rfl) rfl ?_
  refine A_p (fun T Q _ _ k => V_iload_n (pc2 := 189) (dk D_X13_cut 106 rfl) rfl (V_lg 1 rfl) rfl k) ?_
  obtain ⟨h3, h⟩ := h
  refine A_ild (pc2 := 190) 6 (dk D_X13_cut 107 rfl) rfl (by decide) rfl (by decide) rfl rfl h3 ?_
  refine A_p (fun T Q _ _ k => V_isub (pc2 := 191) (dk D_X13_cut 108 rfl) rfl k) ?_
  refine A_p (fun T Q _ _ k => V_bipush (x := 8) (pc2 := 193) (dk D_X13_cut 109 rfl) (by decide) rfl k) ?_
  refine A_if (pa := 209) (pb := 196) (fun T Q k1 k2 => V_cmpgt (tgt := 209) (pc2 := 196) (dk D_X13_cut 110 rfl) (by decide) rfl (fun q => k1 q) (fun q => k2 q)) (fun q4 => ?_) (fun q4 => ?_)
  · have h := h.1 q4
    exact h
  · have h := h.2 q4
    refine A_p (fun T Q _ _ k => V_aload_n (pc2 := 197) (dk D_X13_cut 111 rfl) rfl (V_lg 0 rfl) rfl k) ?_
    refine A_p (fun T Q _ _ k => V_lload (pc2 := 199) (dk D_X13_cut 112 rfl) (V_lg 5 rfl) rfl k) ?_
    obtain ⟨e5, he6, hc7⟩ := h
    refine A_call (st := [_, _]) (pc2 := 202) (fun T Q Qc L hc k => V_callV (as := [_]) (st := [_, _]) (M' := MX13_isWordKey) (ci := 13) (pc2 := 202) (dk D_X13_cut 113 rfl) ml_13_321 mv_X13_isWordKey rfl rfl (by decide) rfl (Nat.le_of_ble_eq_true rfl) rfl he6 L.2.1 hc k) hc7 (aRI.k fun y8 s9 h => ?_)
    refine A_if (pa := 209) (pb := 205) (fun T Q k1 k2 => V_ifeq (tgt := 209) (pc2 := 205) (dk D_X13_cut 114 rfl) (by decide) rfl (fun q => k1 q) (fun q => k2 q)) (fun q10 => ?_) (fun q10 => ?_)
    · have h := h.1 q10
      exact h
    · have h := h.2 q10
      refine A_p (fun T Q _ _ k => V_iconst (x := 4) (pc2 := 206) (dk D_X13_cut 115 rfl) (by decide) rfl k) ?_
      refine A_p (fun T Q _ _ k => V_goto (tgt := 210) (dk D_X13_cut 116 rfl) (by decide) k) ?_
      exact h
theorem a_cut_209 {X : Cx} {b d : Nat} {σ : Rm} {Q : Res → Rm → Prop} (x1 : Int32) (x2 : Int32) (x3 : Int32) (x4 : Int32) (l5 : Int64) (t1 : Int32) (h : A X b d MX13_cut 210 [(0, vR b), (1, vI x1), (2, vI x2), (3, vI x3), (4, vI x4), (5, vL l5)] [vI 1, vI t1, vR (b + 4)] σ Q) : A X b d MX13_cut 209 [(0, vR b), (1, vI x1), (2, vI x2), (3, vI x3), (4, vI x4), (5, vL l5)] [vI t1, vR (b + 4)] σ Q := by
  refine A_p (fun T Q _ _ k => V_iconst (x := 1) (pc2 := 210) (dk D_X13_cut 117 rfl) (by decide) rfl k) ?_
  exact h
theorem a_cut_210 {X : Cx} {b d : Nat} {σ : Rm} {Q : Res → Rm → Prop} (x1 : Int32) (x2 : Int32) (x3 : Int32) (x4 : Int32) (l5 : Int64) (t1 : Int32) (t2 : Int32) (h : (vp_in t1 3002) ∧ ∀ s2 : Rm, s2 = wI σ 5 ((t1 : Int32).toNatClampNeg) t2 → A X b d MX13_cut 483 [(0, vR b), (1, vI x1), (2, vI x2), (3, vI x3), (4, vI x4)] [] s2 Q) : A X b d MX13_cut 210 [(0, vR b), (1, vI x1), (2, vI x2), (3, vI x3), (4, vI x4), (5, vL l5)] [vI t2, vI t1, vR (b + 4)] σ Q := by
  obtain ⟨h1, h⟩ := h
  refine A_ist (pc2 := 211) 5 (dk D_X13_cut 118 rfl) rfl (by decide) rfl (by decide) rfl rfl h1 ?_
  have h := h _ rfl
  refine A_p (fun T Q _ _ k => V_goto (tgt := 483) (dk D_X13_cut 119 rfl) (by decide) k) ?_
  refine A_p (fun T Q _ _ k => V_pick [0, 1, 2, 3, 4] (lv2 := [(0, _), (1, _), (2, _), (3, _), (4, _)]) rfl k) ?_
  exact h
theorem a_cut_225 {X : Cx} {b d : Nat} {σ : Rm} {Q : Res → Rm → Prop} (x1 : Int32) (x2 : Int32) (x3 : Int32) (x4 : Int32) (x5 : Int32) (h : (((sI σ 4) ≤ x2 → A X b d MX13_cut 286 [(0, vR b), (1, vI x1), (2, vI x2), (3, vI x3), (4, vI x4), (5, vI x5)] [] σ Q) ∧ (¬ (sI σ 4) ≤ x2 → (vp_in x2 3000) ∧ ∃ e3 : Nat, e3 + 1 ≤ d ∧ AC X b e3 MX13_isFigure [vI (aI σ 3 (x2 : Int32).toNatClampNeg)] σ (aRI fun y6 s7 => ((y6 = 0 → A X b d MX13_cut 286 [(0, vR b), (1, vI x1), (2, vI x2), (3, vI x3), (4, vI x4), (5, vI x5)] [] s7 Q) ∧ (¬ y6 = 0 → (vp_in x1 3002) ∧ ((9 ≤ (x2 - (aI s7 6 (x1 : Int32).toNatClampNeg)) → A X b d MX13_cut 278 [(0, vR b), (1, vI x1), (2, vI x2), (3, vI x3), (4, vI x4), (5, vI x5)] [vI x5] s7 Q) ∧ (¬ 9 ≤ (x2 - (aI s7 6 (x1 : Int32).toNatClampNeg)) → (vp_in x2 3000) ∧ A X b d MX13_cut 278 [(0, vR b), (1, vI x1), (2, vI x2), (3, vI x3), (4, vI x4), (5, vI x5)] [vI (((10 * x5) + (aI s7 3 (x2 : Int32).toNatClampNeg)) - 48)] s7 Q)))))))) : A X b d MX13_cut 225 [(0, vR b), (1, vI x1), (2, vI x2), (3, vI x3), (4, vI x4), (5, vI x5)] [] σ Q := by
  refine A_p (fun T Q _ _ k => V_iload_n (pc2 := 226) (dk D_X13_cut 125 rfl) rfl (V_lg 2 rfl) rfl k) ?_
  refine A_p (fun T Q _ _ k => V_aload_n (pc2 := 227) (dk D_X13_cut 126 rfl) rfl (V_lg 0 rfl) rfl k) ?_
  refine A_sc (pc2 := 230) 4 (dk D_X13_cut 127 rfl) fl_13_314 (by decide) rfl (fun _ => rfl) rfl ?_
  refine A_if (pa := 286) (pb := 233) (fun T Q k1 k2 => V_cmpge (tgt := 286) (pc2 := 233) (dk D_X13_cut 128 rfl) (by decide) rfl (fun q => k1 q) (fun q => k2 q)) (fun q1 => ?_) (fun q1 => ?_)
  · have h := h.1 q1
    exact h
  · have h := h.2 q1
    refine A_p (fun T Q _ _ k => V_aload_n (pc2 := 234) (dk D_X13_cut 129 rfl) rfl (V_lg 0 rfl) rfl k) ?_
    refine A_ar (pc2 := 237) (a := 3) 3 (dk D_X13_cut 130 rfl) fl_13_20 (by decide) (by decide) rfl (fun _ => rfl) rfl ?_
    refine A_p (fun T Q _ _ k => V_iload_n (pc2 := 238) (dk D_X13_cut 131 rfl) rfl (V_lg 2 rfl) rfl k) ?_
    obtain ⟨h2, h⟩ := h
    refine A_bld (pc2 := 239) 3 (dk D_X13_cut 132 rfl) rfl (by decide) rfl (by decide) rfl rfl h2 ?_
    obtain ⟨e3, he4, hc5⟩ := h
    refine A_call (st := []) (pc2 := 242) (fun T Q Qc L hc k => V_callS (as := [_]) (st := []) (M' := MX13_isFigure) (pc2 := 242) (dk D_X13_cut 133 rfl) ml_13_325 mv_X13_isFigure rfl rfl (Nat.le_of_ble_eq_true rfl) rfl he4 hc k) hc5 (aRI.k fun y6 s7 h => ?_)
    refine A_if (pa := 286) (pb := 245) (fun T Q k1 k2 => V_ifeq (tgt := 286) (pc2 := 245) (dk D_X13_cut 134 rfl) (by decide) rfl (fun q => k1 q) (fun q => k2 q)) (fun q8 => ?_) (fun q8 => ?_)
    · have h := h.1 q8
      exact h
    · have h := h.2 q8
      refine A_p (fun T Q _ _ k => V_iload_n (pc2 := 246) (dk D_X13_cut 135 rfl) rfl (V_lg 2 rfl) rfl k) ?_
      refine A_p (fun T Q _ _ k => V_aload_n (pc2 := 247) (dk D_X13_cut 136 rfl) rfl (V_lg 0 rfl) rfl k) ?_
      refine A_ar (pc2 := 250) (a := 5) 6 (dk D_X13_cut 137 rfl) fl_13_27 (by decide) (by decide) rfl (fun _ => rfl) rfl ?_
      refine A_p (fun T Q _ _ k => V_iload_n (pc2 := 251) (dk D_X13_cut 138 rfl) rfl (V_lg 1 rfl) rfl k) ?_
      obtain ⟨h9, h⟩ := h
      refine A_ild (pc2 := 252) 6 (dk D_X13_cut 139 rfl) rfl (by decide) rfl (by decide) rfl rfl h9 ?_
      refine A_p (fun T Q _ _ k => V_isub (pc2 := 253) (dk D_X13_cut 140 rfl) rfl k) ?_
      refine A_p (fun T Q _ _ k => V_bipush (x := 9) (pc2 := 255) (dk D_X13_cut 141 rfl) (by decide) rfl k) ?_
      refine A_if (pa := 276) (pb := 258) (fun T Q k1 k2 => V_cmpge (tgt := 276) (pc2 := 258) (dk D_X13_cut 142 rfl) (by decide) rfl (fun q => k1 q) (fun q => k2 q)) (fun q10 => ?_) (fun q10 => ?_)
      · have h := h.1 q10
        refine A_p (fun T Q _ _ k => V_iload (pc2 := 278) (dk D_X13_cut 154 rfl) (V_lg 5 rfl) rfl k) ?_
        exact h
      · have h := h.2 q10
        refine A_p (fun T Q _ _ k => V_bipush (x := 10) (pc2 := 260) (dk D_X13_cut 143 rfl) (by decide) rfl k) ?_
        refine A_p (fun T Q _ _ k => V_iload (pc2 := 262) (dk D_X13_cut 144 rfl) (V_lg 5 rfl) rfl k) ?_
        refine A_p (fun T Q _ _ k => V_imul (pc2 := 263) (dk D_X13_cut 145 rfl) rfl k) ?_
        refine A_p (fun T Q _ _ k => V_aload_n (pc2 := 264) (dk D_X13_cut 146 rfl) rfl (V_lg 0 rfl) rfl k) ?_
        refine A_ar (pc2 := 267) (a := 3) 3 (dk D_X13_cut 147 rfl) fl_13_20 (by decide) (by decide) rfl (fun _ => rfl) rfl ?_
        refine A_p (fun T Q _ _ k => V_iload_n (pc2 := 268) (dk D_X13_cut 148 rfl) rfl (V_lg 2 rfl) rfl k) ?_
        obtain ⟨h11, h⟩ := h
        refine A_bld (pc2 := 269) 3 (dk D_X13_cut 149 rfl) rfl (by decide) rfl (by decide) rfl rfl h11 ?_
        refine A_p (fun T Q _ _ k => V_iadd (pc2 := 270) (dk D_X13_cut 150 rfl) rfl k) ?_
        refine A_p (fun T Q _ _ k => V_bipush (x := 48) (pc2 := 272) (dk D_X13_cut 151 rfl) (by decide) rfl k) ?_
        refine A_p (fun T Q _ _ k => V_isub (pc2 := 273) (dk D_X13_cut 152 rfl) rfl k) ?_
        refine A_p (fun T Q _ _ k => V_goto (tgt := 278) (dk D_X13_cut 153 rfl) (by decide) k) ?_
        exact h
theorem a_cut_278 {X : Cx} {b d : Nat} {σ : Rm} {Q : Res → Rm → Prop} (x1 : Int32) (x2 : Int32) (x3 : Int32) (x4 : Int32) (x5 : Int32) (t0 : Int32) (h : A X b d MX13_cut 225 [(0, vR b), (1, vI x1), (2, vI (x2 + 1)), (3, vI x3), (4, vI x4), (5, vI t0)] [] σ Q) : A X b d MX13_cut 278 [(0, vR b), (1, vI x1), (2, vI x2), (3, vI x3), (4, vI x4), (5, vI x5)] [vI t0] σ Q := by
  refine A_p (fun T Q _ _ k => V_istore (pc2 := 280) (lv2 := [(0, _), (1, _), (2, _), (3, _), (4, _), (5, _)]) (dk D_X13_cut 155 rfl) (by decide) rfl rfl k) ?_
  refine A_p (fun T Q _ _ k => V_iinc (y := _ + 1) (pc2 := 283) (lv2 := [(0, _), (1, _), (2, _), (3, _), (4, _), (5, _)]) (dk D_X13_cut 156 rfl) (V_lg 2 rfl) rfl (by decide) rfl rfl k) ?_
  refine A_p (fun T Q _ _ k => V_goto (tgt := 225) (dk D_X13_cut 157 rfl) (by decide) k) ?_
  exact h
theorem a_cut_286 {X : Cx} {b d : Nat} {σ : Rm} {Q : Res → Rm → Prop} (x1 : Int32) (x2 : Int32) (x3 : Int32) (x4 : Int32) (x5 : Int32) (h : (vp_in x1 3002) ∧ ∀ s2 : Rm, s2 = wI σ 8 ((x1 : Int32).toNatClampNeg) x5 → (vp_in x1 3002) ∧ ∀ s4 : Rm, s4 = wI s2 5 ((x1 : Int32).toNatClampNeg) 2 → A X b d MX13_cut 483 [(0, vR b), (1, vI x1), (2, vI x2), (3, vI x3), (4, vI x4)] [] s4 Q) : A X b d MX13_cut 286 [(0, vR b), (1, vI x1), (2, vI x2), (3, vI x3), (4, vI x4), (5, vI x5)] [] σ Q := by
  refine A_p (fun T Q _ _ k => V_aload_n (pc2 := 287) (dk D_X13_cut 158 rfl) rfl (V_lg 0 rfl) rfl k) ?_
  refine A_ar (pc2 := 290) (a := 7) 8 (dk D_X13_cut 159 rfl) fl_13_33 (by decide) (by decide) rfl (fun _ => rfl) rfl ?_
  refine A_p (fun T Q _ _ k => V_iload_n (pc2 := 291) (dk D_X13_cut 160 rfl) rfl (V_lg 1 rfl) rfl k) ?_
  refine A_p (fun T Q _ _ k => V_iload (pc2 := 293) (dk D_X13_cut 161 rfl) (V_lg 5 rfl) rfl k) ?_
  obtain ⟨h1, h⟩ := h
  refine A_ist (pc2 := 294) 8 (dk D_X13_cut 162 rfl) rfl (by decide) rfl (by decide) rfl rfl h1 ?_
  have h := h _ rfl
  refine A_p (fun T Q _ _ k => V_aload_n (pc2 := 295) (dk D_X13_cut 163 rfl) rfl (V_lg 0 rfl) rfl k) ?_
  refine A_ar (pc2 := 298) (a := 4) 5 (dk D_X13_cut 164 rfl) fl_13_23 (by decide) (by decide) rfl (fun _ => rfl) rfl ?_
  refine A_p (fun T Q _ _ k => V_iload_n (pc2 := 299) (dk D_X13_cut 165 rfl) rfl (V_lg 1 rfl) rfl k) ?_
  refine A_p (fun T Q _ _ k => V_iconst (x := 2) (pc2 := 300) (dk D_X13_cut 166 rfl) (by decide) rfl k) ?_
  obtain ⟨h3, h⟩ := h
  refine A_ist (pc2 := 301) 5 (dk D_X13_cut 167 rfl) rfl (by decide) rfl (by decide) rfl rfl h3 ?_
  have h := h _ rfl
  refine A_p (fun T Q _ _ k => V_goto (tgt := 483) (dk D_X13_cut 168 rfl) (by decide) k) ?_
  refine A_p (fun T Q _ _ k => V_pick [0, 1, 2, 3, 4] (lv2 := [(0, _), (1, _), (2, _), (3, _), (4, _)]) rfl k) ?_
  exact h
theorem a_cut_347 {X : Cx} {b d : Nat} {σ : Rm} {Q : Res → Rm → Prop} (x1 : Int32) (x2 : Int32) (x3 : Int32) (x4 : Int32) (h : ((x4 = 40 → A X b d MX13_cut 445 [(0, vR b), (1, vI x1), (2, vI x2), (3, vI x3), (4, vI x4)] [] σ Q) ∧ (¬ x4 = 40 → ((x4 = 41 → A X b d MX13_cut 445 [(0, vR b), (1, vI x1), (2, vI x2), (3, vI x3), (4, vI x4)] [] σ Q) ∧ (¬ x4 = 41 → ((x4 = 123 → A X b d MX13_cut 445 [(0, vR b), (1, vI x1), (2, vI x2), (3, vI x3), (4, vI x4)] [] σ Q) ∧ (¬ x4 = 123 → ((x4 = 125 → A X b d MX13_cut 445 [(0, vR b), (1, vI x1), (2, vI x2), (3, vI x3), (4, vI x4)] [] σ Q) ∧ (¬ x4 = 125 → ((x4 = 44 → A X b d MX13_cut 445 [(0, vR b), (1, vI x1), (2, vI x2), (3, vI x3), (4, vI x4)] [] σ Q) ∧ (¬ x4 = 44 → ((x4 = 59 → A X b d MX13_cut 445 [(0, vR b), (1, vI x1), (2, vI x2), (3, vI x3), (4, vI x4)] [] σ Q) ∧ (¬ x4 = 59 → ((x4 = 61 → A X b d MX13_cut 445 [(0, vR b), (1, vI x1), (2, vI x2), (3, vI x3), (4, vI x4)] [] σ Q) ∧ (¬ x4 = 61 → ((x4 = 43 → A X b d MX13_cut 445 [(0, vR b), (1, vI x1), (2, vI x2), (3, vI x3), (4, vI x4)] [] σ Q) ∧ (¬ x4 = 43 → ((x4 = 45 → A X b d MX13_cut 445 [(0, vR b), (1, vI x1), (2, vI x2), (3, vI x3), (4, vI x4)] [] σ Q) ∧ (¬ x4 = 45 → ((x4 = 42 → A X b d MX13_cut 445 [(0, vR b), (1, vI x1), (2, vI x2), (3, vI x3), (4, vI x4)] [] σ Q) ∧ (¬ x4 = 42 → ((x4 = 47 → A X b d MX13_cut 445 [(0, vR b), (1, vI x1), (2, vI x2), (3, vI x3), (4, vI x4)] [] σ Q) ∧ (¬ x4 = 47 → ((x4 = 37 → A X b d MX13_cut 445 [(0, vR b), (1, vI x1), (2, vI x2), (3, vI x3), (4, vI x4)] [] σ Q) ∧ (¬ x4 = 37 → ((x4 = 60 → A X b d MX13_cut 445 [(0, vR b), (1, vI x1), (2, vI x2), (3, vI x3), (4, vI x4)] [] σ Q) ∧ (¬ x4 = 60 → ((x4 = 33 → A X b d MX13_cut 445 [(0, vR b), (1, vI x1), (2, vI x2), (3, vI x3), (4, vI x4)] [] σ Q) ∧ (¬ x4 = 33 → A X b d MX13_cut 450 [(0, vR b), (1, vI x1), (2, vI x2), (3, vI x3), (4, vI x4)] [vI 0] σ Q))))))))))))))))))))))))))))) : A X b d MX13_cut 347 [(0, vR b), (1, vI x1), (2, vI x2), (3, vI x3), (4, vI x4)] [] σ Q := by
  refine A_p (fun T Q _ _ k => V_iload (pc2 := 349) (dk D_X13_cut 193 rfl) (V_lg 4 rfl) rfl k) ?_
  refine A_p (fun T Q _ _ k => V_bipush (x := 40) (pc2 := 351) (dk D_X13_cut 194 rfl) (by decide) rfl k) ?_
  refine A_if (pa := 445) (pb := 354) (fun T Q k1 k2 => V_cmpeq (tgt := 445) (pc2 := 354) (dk D_X13_cut 195 rfl) (by decide) rfl (fun q => k1 q) (fun q => k2 q)) (fun q1 => ?_) (fun q1 => ?_)
  · have h := h.1 q1
    exact h
  · have h := h.2 q1
    refine A_p (fun T Q _ _ k => V_iload (pc2 := 356) (dk D_X13_cut 196 rfl) (V_lg 4 rfl) rfl k) ?_
    refine A_p (fun T Q _ _ k => V_bipush (x := 41) (pc2 := 358) (dk D_X13_cut 197 rfl) (by decide) rfl k) ?_
    refine A_if (pa := 445) (pb := 361) (fun T Q k1 k2 => V_cmpeq (tgt := 445) (pc2 := 361) (dk D_X13_cut 198 rfl) (by decide) rfl (fun q => k1 q) (fun q => k2 q)) (fun q2 => ?_) (fun q2 => ?_)
    · have h := h.1 q2
      exact h
    · have h := h.2 q2
      refine A_p (fun T Q _ _ k => V_iload (pc2 := 363) (dk D_X13_cut 199 rfl) (V_lg 4 rfl) rfl k) ?_
      refine A_p (fun T Q _ _ k => V_bipush (x := 123) (pc2 := 365) (dk D_X13_cut 200 rfl) (by decide) rfl k) ?_
      refine A_if (pa := 445) (pb := 368) (fun T Q k1 k2 => V_cmpeq (tgt := 445) (pc2 := 368) (dk D_X13_cut 201 rfl) (by decide) rfl (fun q => k1 q) (fun q => k2 q)) (fun q3 => ?_) (fun q3 => ?_)
      · have h := h.1 q3
        exact h
      · have h := h.2 q3
        refine A_p (fun T Q _ _ k => V_iload (pc2 := 370) (dk D_X13_cut 202 rfl) (V_lg 4 rfl) rfl k) ?_
        refine A_p (fun T Q _ _ k => V_bipush (x := 125) (pc2 := 372) (dk D_X13_cut 203 rfl) (by decide) rfl k) ?_
        refine A_if (pa := 445) (pb := 375) (fun T Q k1 k2 => V_cmpeq (tgt := 445) (pc2 := 375) (dk D_X13_cut 204 rfl) (by decide) rfl (fun q => k1 q) (fun q => k2 q)) (fun q4 => ?_) (fun q4 => ?_)
        · have h := h.1 q4
          exact h
        · have h := h.2 q4
          refine A_p (fun T Q _ _ k => V_iload (pc2 := 377) (dk D_X13_cut 205 rfl) (V_lg 4 rfl) rfl k) ?_
          refine A_p (fun T Q _ _ k => V_bipush (x := 44) (pc2 := 379) (dk D_X13_cut 206 rfl) (by decide) rfl k) ?_
          refine A_if (pa := 445) (pb := 382) (fun T Q k1 k2 => V_cmpeq (tgt := 445) (pc2 := 382) (dk D_X13_cut 207 rfl) (by decide) rfl (fun q => k1 q) (fun q => k2 q)) (fun q5 => ?_) (fun q5 => ?_)
          · have h := h.1 q5
            exact h
          · have h := h.2 q5
            refine A_p (fun T Q _ _ k => V_iload (pc2 := 384) (dk D_X13_cut 208 rfl) (V_lg 4 rfl) rfl k) ?_
            refine A_p (fun T Q _ _ k => V_bipush (x := 59) (pc2 := 386) (dk D_X13_cut 209 rfl) (by decide) rfl k) ?_
            refine A_if (pa := 445) (pb := 389) (fun T Q k1 k2 => V_cmpeq (tgt := 445) (pc2 := 389) (dk D_X13_cut 210 rfl) (by decide) rfl (fun q => k1 q) (fun q => k2 q)) (fun q6 => ?_) (fun q6 => ?_)
            · have h := h.1 q6
              exact h
            · have h := h.2 q6
              refine A_p (fun T Q _ _ k => V_iload (pc2 := 391) (dk D_X13_cut 211 rfl) (V_lg 4 rfl) rfl k) ?_
              refine A_p (fun T Q _ _ k => V_bipush (x := 61) (pc2 := 393) (dk D_X13_cut 212 rfl) (by decide) rfl k) ?_
              refine A_if (pa := 445) (pb := 396) (fun T Q k1 k2 => V_cmpeq (tgt := 445) (pc2 := 396) (dk D_X13_cut 213 rfl) (by decide) rfl (fun q => k1 q) (fun q => k2 q)) (fun q7 => ?_) (fun q7 => ?_)
              · have h := h.1 q7
                exact h
              · have h := h.2 q7
                refine A_p (fun T Q _ _ k => V_iload (pc2 := 398) (dk D_X13_cut 214 rfl) (V_lg 4 rfl) rfl k) ?_
                refine A_p (fun T Q _ _ k => V_bipush (x := 43) (pc2 := 400) (dk D_X13_cut 215 rfl) (by decide) rfl k) ?_
                refine A_if (pa := 445) (pb := 403) (fun T Q k1 k2 => V_cmpeq (tgt := 445) (pc2 := 403) (dk D_X13_cut 216 rfl) (by decide) rfl (fun q => k1 q) (fun q => k2 q)) (fun q8 => ?_) (fun q8 => ?_)
                · have h := h.1 q8
                  exact h
                · have h := h.2 q8
                  refine A_p (fun T Q _ _ k => V_iload (pc2 := 405) (dk D_X13_cut 217 rfl) (V_lg 4 rfl) rfl k) ?_
                  refine A_p (fun T Q _ _ k => V_bipush (x := 45) (pc2 := 407) (dk D_X13_cut 218 rfl) (by decide) rfl k) ?_
                  refine A_if (pa := 445) (pb := 410) (fun T Q k1 k2 => V_cmpeq (tgt := 445) (pc2 := 410) (dk D_X13_cut 219 rfl) (by decide) rfl (fun q => k1 q) (fun q => k2 q)) (fun q9 => ?_) (fun q9 => ?_)
                  · have h := h.1 q9
                    exact h
                  · have h := h.2 q9
                    refine A_p (fun T Q _ _ k => V_iload (pc2 := 412) (dk D_X13_cut 220 rfl) (V_lg 4 rfl) rfl k) ?_
                    refine A_p (fun T Q _ _ k => V_bipush (x := 42) (pc2 := 414) (dk D_X13_cut 221 rfl) (by decide) rfl k) ?_
                    refine A_if (pa := 445) (pb := 417) (fun T Q k1 k2 => V_cmpeq (tgt := 445) (pc2 := 417) (dk D_X13_cut 222 rfl) (by decide) rfl (fun q => k1 q) (fun q => k2 q)) (fun q10 => ?_) (fun q10 => ?_)
                    · have h := h.1 q10
                      exact h
                    · have h := h.2 q10
                      refine A_p (fun T Q _ _ k => V_iload (pc2 := 419) (dk D_X13_cut 223 rfl) (V_lg 4 rfl) rfl k) ?_
                      refine A_p (fun T Q _ _ k => V_bipush (x := 47) (pc2 := 421) (dk D_X13_cut 224 rfl) (by decide) rfl k) ?_
                      refine A_if (pa := 445) (pb := 424) (fun T Q k1 k2 => V_cmpeq (tgt := 445) (pc2 := 424) (dk D_X13_cut 225 rfl) (by decide) rfl (fun q => k1 q) (fun q => k2 q)) (fun q11 => ?_) (fun q11 => ?_)
                      · have h := h.1 q11
                        exact h
                      · have h := h.2 q11
                        refine A_p (fun T Q _ _ k => V_iload (pc2 := 426) (dk D_X13_cut 226 rfl) (V_lg 4 rfl) rfl k) ?_
                        refine A_p (fun T Q _ _ k => V_bipush (x := 37) (pc2 := 428) (dk D_X13_cut 227 rfl) (by decide) rfl k) ?_
                        refine A_if (pa := 445) (pb := 431) (fun T Q k1 k2 => V_cmpeq (tgt := 445) (pc2 := 431) (dk D_X13_cut 228 rfl) (by decide) rfl (fun q => k1 q) (fun q => k2 q)) (fun q12 => ?_) (fun q12 => ?_)
                        · have h := h.1 q12
                          exact h
                        · have h := h.2 q12
                          refine A_p (fun T Q _ _ k => V_iload (pc2 := 433) (dk D_X13_cut 229 rfl) (V_lg 4 rfl) rfl k) ?_
                          refine A_p (fun T Q _ _ k => V_bipush (x := 60) (pc2 := 435) (dk D_X13_cut 230 rfl) (by decide) rfl k) ?_
                          refine A_if (pa := 445) (pb := 438) (fun T Q k1 k2 => V_cmpeq (tgt := 445) (pc2 := 438) (dk D_X13_cut 231 rfl) (by decide) rfl (fun q => k1 q) (fun q => k2 q)) (fun q13 => ?_) (fun q13 => ?_)
                          · have h := h.1 q13
                            exact h
                          · have h := h.2 q13
                            refine A_p (fun T Q _ _ k => V_iload (pc2 := 440) (dk D_X13_cut 232 rfl) (V_lg 4 rfl) rfl k) ?_
                            refine A_p (fun T Q _ _ k => V_bipush (x := 33) (pc2 := 442) (dk D_X13_cut 233 rfl) (by decide) rfl k) ?_
                            refine A_if (pa := 445) (pb := 449) (fun T Q k1 k2 => V_cmpne (tgt := 449) (pc2 := 445) (dk D_X13_cut 234 rfl) (by decide) rfl (fun q => k2 q) (fun q => k1 q)) (fun q14 => ?_) (fun q14 => ?_)
                            · have h := h.1 q14
                              exact h
                            · have h := h.2 q14
                              refine A_p (fun T Q _ _ k => V_iconst (x := 0) (pc2 := 450) (dk D_X13_cut 237 rfl) (by decide) rfl k) ?_
                              exact h
theorem a_cut_445 {X : Cx} {b d : Nat} {σ : Rm} {Q : Res → Rm → Prop} (x1 : Int32) (x2 : Int32) (x3 : Int32) (x4 : Int32) (h : A X b d MX13_cut 450 [(0, vR b), (1, vI x1), (2, vI x2), (3, vI x3), (4, vI x4)] [vI 1] σ Q) : A X b d MX13_cut 445 [(0, vR b), (1, vI x1), (2, vI x2), (3, vI x3), (4, vI x4)] [] σ Q := by
  refine A_p (fun T Q _ _ k => V_iconst (x := 1) (pc2 := 446) (dk D_X13_cut 235 rfl) (by decide) rfl k) ?_
  refine A_p (fun T Q _ _ k => V_goto (tgt := 450) (dk D_X13_cut 236 rfl) (by decide) k) ?_
  exact h
theorem a_cut_450 {X : Cx} {b d : Nat} {σ : Rm} {Q : Res → Rm → Prop} (x1 : Int32) (x2 : Int32) (x3 : Int32) (x4 : Int32) (t0 : Int32) (h : ((t0 = 0 → A X b d MX13_cut 468 [(0, vR b), (1, vI x1), (2, vI x2), (3, vI x3), (4, vI x4), (5, vI t0)] [vI 7, vI x1, vR (b + 4)] σ Q) ∧ (¬ t0 = 0 → A X b d MX13_cut 468 [(0, vR b), (1, vI x1), (2, vI x2), (3, vI x3), (4, vI x4), (5, vI t0)] [vI 3, vI x1, vR (b + 4)] σ Q))) : A X b d MX13_cut 450 [(0, vR b), (1, vI x1), (2, vI x2), (3, vI x3), (4, vI x4)] [vI t0] σ Q := by
  refine A_p (fun T Q _ _ k => V_istore (pc2 := 452) (lv2 := [(0, _), (1, _), (2, _), (3, _), (4, _), (5, _)]) (dk D_X13_cut 238 rfl) (by decide) rfl rfl k) ?_
  refine A_p (fun T Q _ _ k => V_aload_n (pc2 := 453) (dk D_X13_cut 239 rfl) rfl (V_lg 0 rfl) rfl k) ?_
  refine A_ar (pc2 := 456) (a := 4) 5 (dk D_X13_cut 240 rfl) fl_13_23 (by decide) (by decide) rfl (fun _ => rfl) rfl ?_
  refine A_p (fun T Q _ _ k => V_iload_n (pc2 := 457) (dk D_X13_cut 241 rfl) rfl (V_lg 1 rfl) rfl k) ?_
  refine A_p (fun T Q _ _ k => V_iload (pc2 := 459) (dk D_X13_cut 242 rfl) (V_lg 5 rfl) rfl k) ?_
  refine A_if (pa := 466) (pb := 462) (fun T Q k1 k2 => V_ifeq (tgt := 466) (pc2 := 462) (dk D_X13_cut 243 rfl) (by decide) rfl (fun q => k1 q) (fun q => k2 q)) (fun q1 => ?_) (fun q1 => ?_)
  · have h := h.1 q1
    refine A_p (fun T Q _ _ k => V_bipush (x := 7) (pc2 := 468) (dk D_X13_cut 246 rfl) (by decide) rfl k) ?_
    exact h
  · have h := h.2 q1
    refine A_p (fun T Q _ _ k => V_iconst (x := 3) (pc2 := 463) (dk D_X13_cut 244 rfl) (by decide) rfl k) ?_
    refine A_p (fun T Q _ _ k => V_goto (tgt := 468) (dk D_X13_cut 245 rfl) (by decide) k) ?_
    exact h
theorem a_cut_468 {X : Cx} {b d : Nat} {σ : Rm} {Q : Res → Rm → Prop} (x1 : Int32) (x2 : Int32) (x3 : Int32) (x4 : Int32) (x5 : Int32) (t1 : Int32) (t2 : Int32) (h : (vp_in t1 3002) ∧ ∀ s2 : Rm, s2 = wI σ 5 ((t1 : Int32).toNatClampNeg) t2 → (vp_in x1 3002) ∧ ∀ s4 : Rm, s4 = wI s2 8 ((x1 : Int32).toNatClampNeg) x4 → A X b d MX13_cut 483 [(0, vR b), (1, vI x1), (2, vI (x2 + 1)), (3, vI x5), (4, vI x4)] [] s4 Q) : A X b d MX13_cut 468 [(0, vR b), (1, vI x1), (2, vI x2), (3, vI x3), (4, vI x4), (5, vI x5)] [vI t2, vI t1, vR (b + 4)] σ Q := by
  obtain ⟨h1, h⟩ := h
  refine A_ist (pc2 := 469) 5 (dk D_X13_cut 247 rfl) rfl (by decide) rfl (by decide) rfl rfl h1 ?_
  have h := h _ rfl
  refine A_p (fun T Q _ _ k => V_aload_n (pc2 := 470) (dk D_X13_cut 248 rfl) rfl (V_lg 0 rfl) rfl k) ?_
  refine A_ar (pc2 := 473) (a := 7) 8 (dk D_X13_cut 249 rfl) fl_13_33 (by decide) (by decide) rfl (fun _ => rfl) rfl ?_
  refine A_p (fun T Q _ _ k => V_iload_n (pc2 := 474) (dk D_X13_cut 250 rfl) rfl (V_lg 1 rfl) rfl k) ?_
  refine A_p (fun T Q _ _ k => V_iload (pc2 := 476) (dk D_X13_cut 251 rfl) (V_lg 4 rfl) rfl k) ?_
  obtain ⟨h3, h⟩ := h
  refine A_ist (pc2 := 477) 8 (dk D_X13_cut 252 rfl) rfl (by decide) rfl (by decide) rfl rfl h3 ?_
  have h := h _ rfl
  refine A_p (fun T Q _ _ k => V_iload (pc2 := 479) (dk D_X13_cut 253 rfl) (V_lg 5 rfl) rfl k) ?_
  refine A_p (fun T Q _ _ k => V_istore_n (pc2 := 480) (lv2 := [(0, _), (1, _), (2, _), (3, _), (4, _), (5, _)]) (dk D_X13_cut 254 rfl) rfl (by decide) rfl rfl k) ?_
  refine A_p (fun T Q _ _ k => V_iinc (y := _ + 1) (pc2 := 483) (lv2 := [(0, _), (1, _), (2, _), (3, _), (4, _), (5, _)]) (dk D_X13_cut 255 rfl) (V_lg 2 rfl) rfl (by decide) rfl rfl k) ?_
  refine A_p (fun T Q _ _ k => V_pick [0, 1, 2, 3, 4] (lv2 := [(0, _), (1, _), (2, _), (3, _), (4, _)]) rfl k) ?_
  exact h
theorem a_cut_483 {X : Cx} {b d : Nat} {σ : Rm} {Q : Res → Rm → Prop} (x1 : Int32) (x2 : Int32) (x3 : Int32) (x4 : Int32) (h : (vp_in x1 3002) ∧ ∀ s2 : Rm, s2 = wI σ 7 ((x1 : Int32).toNatClampNeg) x2 → A X b d MX13_cut 6 [(0, vR b), (1, vI (x1 + 1)), (2, vI x2), (3, vI x3)] [] s2 Q) : A X b d MX13_cut 483 [(0, vR b), (1, vI x1), (2, vI x2), (3, vI x3), (4, vI x4)] [] σ Q := by
  refine A_p (fun T Q _ _ k => V_aload_n (pc2 := 484) (dk D_X13_cut 256 rfl) rfl (V_lg 0 rfl) rfl k) ?_
  refine A_ar (pc2 := 487) (a := 6) 7 (dk D_X13_cut 257 rfl) fl_13_30 (by decide) (by decide) rfl (fun _ => rfl) rfl ?_
  refine A_p (fun T Q _ _ k => V_iload_n (pc2 := 488) (dk D_X13_cut 258 rfl) rfl (V_lg 1 rfl) rfl k) ?_
  refine A_p (fun T Q _ _ k => V_iload_n (pc2 := 489) (dk D_X13_cut 259 rfl) rfl (V_lg 2 rfl) rfl k) ?_
  obtain ⟨h1, h⟩ := h
  refine A_ist (pc2 := 490) 7 (dk D_X13_cut 260 rfl) rfl (by decide) rfl (by decide) rfl rfl h1 ?_
  have h := h _ rfl
  refine A_p (fun T Q _ _ k => V_iinc (y := _ + 1) (pc2 := 493) (lv2 := [(0, _), (1, _), (2, _), (3, _), (4, _)]) (dk D_X13_cut 261 rfl) (V_lg 1 rfl) rfl (by decide) rfl rfl k) ?_
  refine A_p (fun T Q _ _ k => V_goto (tgt := 6) (dk D_X13_cut 262 rfl) (by decide) k) ?_
  refine A_p (fun T Q _ _ k => V_pick [0, 1, 2, 3] (lv2 := [(0, _), (1, _), (2, _), (3, _)]) rfl k) ?_
  exact h
theorem a_fail_0 {X : Cx} {b d : Nat} {σ : Rm} {Q : Res → Rm → Prop} (x1 : Int32) (h : ∀ s1 : Rm, s1 = wI σ 0 6 x1 → Q (.inr (b + 1)) s1) : A X b d MX13_fail 0 [(0, vR b), (1, vI x1)] [] σ Q := by
  refine A_p (fun T Q _ _ k => V_aload_n (pc2 := 1) (dk D_X13_fail 0 rfl) rfl (V_lg 0 rfl) rfl k) ?_
  refine A_ar (pc2 := 4) (a := 1) 0 (dk D_X13_fail 1 rfl) fl_13_10 (by decide) (by decide) rfl (fun _ => rfl) rfl ?_
  refine A_p (fun T Q _ _ k => V_iload_n (pc2 := 5) (dk D_X13_fail 2 rfl) rfl (V_lg 1 rfl) rfl k) ?_
  refine A_putN (pc2 := 8) (dk D_X13_fail 3 rfl) rfl rfl ?_
  have h := h _ rfl
  refine A_p (fun T Q _ _ k => V_aload_n (pc2 := 9) (dk D_X13_fail 4 rfl) rfl (V_lg 0 rfl) rfl k) ?_
  refine A_ar (pc2 := 12) (a := 1) 0 (dk D_X13_fail 5 rfl) fl_13_10 (by decide) (by decide) rfl (fun _ => rfl) rfl ?_
  exact A_ret (fun T Q L k => V_athrow (dk D_X13_fail 6 rfl) (by decide) (by have := L.1; omega) k) h
theorem a_isSign_0 {X : Cx} {b d : Nat} {σ : Rm} {Q : Res → Rm → Prop} (x1 : Int32) (h : (vp_in (sI σ 10) 3002) ∧ (((aI σ 5 ((sI σ 10) : Int32).toNatClampNeg) = 3 → (vp_in (sI σ 10) 3002) ∧ (((aI σ 8 ((sI σ 10) : Int32).toNatClampNeg) = x1 → A X b d MX13_isSign 31 [(0, vR b), (1, vI x1)] [vI 1] σ Q) ∧ (¬ (aI σ 8 ((sI σ 10) : Int32).toNatClampNeg) = x1 → A X b d MX13_isSign 30 [(0, vR b), (1, vI x1)] [] σ Q))) ∧ (¬ (aI σ 5 ((sI σ 10) : Int32).toNatClampNeg) = 3 → A X b d MX13_isSign 30 [(0, vR b), (1, vI x1)] [] σ Q))) : A X b d MX13_isSign 0 [(0, vR b), (1, vI x1)] [] σ Q := by
  refine A_p (fun T Q _ _ k => V_aload_n (pc2 := 1) (dk D_X13_isSign 0 rfl) rfl (V_lg 0 rfl) rfl k) ?_
  refine A_ar (pc2 := 4) (a := 4) 5 (dk D_X13_isSign 1 rfl) fl_13_23 (by decide) (by decide) rfl (fun _ => rfl) rfl ?_
  refine A_p (fun T Q _ _ k => V_aload_n (pc2 := 5) (dk D_X13_isSign 2 rfl) rfl (V_lg 0 rfl) rfl k) ?_
  refine A_sc (pc2 := 8) 10 (dk D_X13_isSign 3 rfl) fl_13_331 (by decide) rfl (fun _ => rfl) rfl ?_
  obtain ⟨h1, h⟩ := h
  refine A_ild (pc2 := 9) 5 (dk D_X13_isSign 4 rfl) rfl (by decide) rfl (by decide) rfl rfl h1 ?_
  refine A_p (fun T Q _ _ k => V_iconst (x := 3) (pc2 := 10) (dk D_X13_isSign 5 rfl) (by decide) rfl k) ?_
  refine A_if (pa := 13) (pb := 30) (fun T Q k1 k2 => V_cmpne (tgt := 30) (pc2 := 13) (dk D_X13_isSign 6 rfl) (by decide) rfl (fun q => k2 q) (fun q => k1 q)) (fun q2 => ?_) (fun q2 => ?_)
  · have h := h.1 q2
    refine A_p (fun T Q _ _ k => V_aload_n (pc2 := 14) (dk D_X13_isSign 7 rfl) rfl (V_lg 0 rfl) rfl k) ?_
    refine A_ar (pc2 := 17) (a := 7) 8 (dk D_X13_isSign 8 rfl) fl_13_33 (by decide) (by decide) rfl (fun _ => rfl) rfl ?_
    refine A_p (fun T Q _ _ k => V_aload_n (pc2 := 18) (dk D_X13_isSign 9 rfl) rfl (V_lg 0 rfl) rfl k) ?_
    refine A_sc (pc2 := 21) 10 (dk D_X13_isSign 10 rfl) fl_13_331 (by decide) rfl (fun _ => rfl) rfl ?_
    obtain ⟨h3, h⟩ := h
    refine A_ild (pc2 := 22) 8 (dk D_X13_isSign 11 rfl) rfl (by decide) rfl (by decide) rfl rfl h3 ?_
    refine A_p (fun T Q _ _ k => V_iload_n (pc2 := 23) (dk D_X13_isSign 12 rfl) rfl (V_lg 1 rfl) rfl k) ?_
    refine A_if (pa := 26) (pb := 30) (fun T Q k1 k2 => V_cmpne (tgt := 30) (pc2 := 26) (dk D_X13_isSign 13 rfl) (by decide) rfl (fun q => k2 q) (fun q => k1 q)) (fun q4 => ?_) (fun q4 => ?_)
    · have h := h.1 q4
      refine A_p (fun T Q _ _ k => V_iconst (x := 1) (pc2 := 27) (dk D_X13_isSign 14 rfl) (by decide) rfl k) ?_
      refine A_p (fun T Q _ _ k => V_goto (tgt := 31) (dk D_X13_isSign 15 rfl) (by decide) k) ?_
      exact h
    · have h := h.2 q4
      exact h
  · have h := h.2 q2
    exact h
theorem a_isSign_30 {X : Cx} {b d : Nat} {σ : Rm} {Q : Res → Rm → Prop} (x1 : Int32) (h : A X b d MX13_isSign 31 [(0, vR b), (1, vI x1)] [vI 0] σ Q) : A X b d MX13_isSign 30 [(0, vR b), (1, vI x1)] [] σ Q := by
  refine A_p (fun T Q _ _ k => V_iconst (x := 0) (pc2 := 31) (dk D_X13_isSign 16 rfl) (by decide) rfl k) ?_
  exact h
theorem a_isSign_31 {X : Cx} {b d : Nat} {σ : Rm} {Q : Res → Rm → Prop} (x1 : Int32) (t0 : Int32) (h : (t0 = 0 ∨ t0 = 1) ∧ Q (.inl (some (vI t0))) σ) : A X b d MX13_isSign 31 [(0, vR b), (1, vI x1)] [vI t0] σ Q := by
  obtain ⟨h1, h⟩ := h
  exact A_ret (fun T Q _ k => V_zreturn (dk D_X13_isSign 17 rfl) rfl h1 k) h
theorem a_isWord_0 {X : Cx} {b d : Nat} {σ : Rm} {Q : Res → Rm → Prop} (r1 : Nat) (h : (vp_in (sI σ 10) 3002) ∧ (((aI σ 5 ((sI σ 10) : Int32).toNatClampNeg) = 4 → (vp_in (sI σ 10) 3002) ∧ ∃ e4 : Nat, e4 + 1 ≤ d ∧ AC X b e4 MX13_keyOf [vR b, vR r1] σ (aRJ fun w7 s8 => (((lg_cmp (aL σ 9 ((sI σ 10) : Int32).toNatClampNeg) w7) = 0 → A X b d MX13_isWord 36 [(0, vR b), (1, vR r1)] [vI 1] s8 Q) ∧ (¬ (lg_cmp (aL σ 9 ((sI σ 10) : Int32).toNatClampNeg) w7) = 0 → A X b d MX13_isWord 35 [(0, vR b), (1, vR r1)] [] s8 Q)))) ∧ (¬ (aI σ 5 ((sI σ 10) : Int32).toNatClampNeg) = 4 → A X b d MX13_isWord 35 [(0, vR b), (1, vR r1)] [] σ Q))) : A X b d MX13_isWord 0 [(0, vR b), (1, vR r1)] [] σ Q := by
  refine A_p (fun T Q _ _ k => V_aload_n (pc2 := 1) (dk D_X13_isWord 0 rfl) rfl (V_lg 0 rfl) rfl k) ?_
  refine A_ar (pc2 := 4) (a := 4) 5 (dk D_X13_isWord 1 rfl) fl_13_23 (by decide) (by decide) rfl (fun _ => rfl) rfl ?_
  refine A_p (fun T Q _ _ k => V_aload_n (pc2 := 5) (dk D_X13_isWord 2 rfl) rfl (V_lg 0 rfl) rfl k) ?_
  refine A_sc (pc2 := 8) 10 (dk D_X13_isWord 3 rfl) fl_13_331 (by decide) rfl (fun _ => rfl) rfl ?_
  obtain ⟨h1, h⟩ := h
  refine A_ild (pc2 := 9) 5 (dk D_X13_isWord 4 rfl) rfl (by decide) rfl (by decide) rfl rfl h1 ?_
  refine A_p (fun T Q _ _ k => V_iconst (x := 4) (pc2 := 10) (dk D_X13_isWord 5 rfl) (by decide) rfl k) ?_
  refine A_if (pa := 13) (pb := 35) (fun T Q k1 k2 => V_cmpne (tgt := 35) (pc2 := 13) (dk D_X13_isWord 6 rfl) (by decide) rfl (fun q => k2 q) (fun q => k1 q)) (fun q2 => ?_) (fun q2 => ?_)
  · have h := h.1 q2
    refine A_p (fun T Q _ _ k => V_aload_n (pc2 := 14) (dk D_X13_isWord 7 rfl) rfl (V_lg 0 rfl) rfl k) ?_
    refine A_ar (pc2 := 17) (a := 8) 9 (dk D_X13_isWord 8 rfl) fl_13_36 (by decide) (by decide) rfl (fun _ => rfl) rfl ?_
    refine A_p (fun T Q _ _ k => V_aload_n (pc2 := 18) (dk D_X13_isWord 9 rfl) rfl (V_lg 0 rfl) rfl k) ?_
    refine A_sc (pc2 := 21) 10 (dk D_X13_isWord 10 rfl) fl_13_331 (by decide) rfl (fun _ => rfl) rfl ?_
    obtain ⟨h3, h⟩ := h
    refine A_lld (pc2 := 22) 9 (dk D_X13_isWord 11 rfl) rfl (by decide) rfl (by decide) rfl rfl h3 ?_
    refine A_p (fun T Q _ _ k => V_aload_n (pc2 := 23) (dk D_X13_isWord 12 rfl) rfl (V_lg 0 rfl) rfl k) ?_
    refine A_p (fun T Q _ _ k => V_aload_n (pc2 := 24) (dk D_X13_isWord 13 rfl) rfl (V_lg 1 rfl) rfl k) ?_
    obtain ⟨e4, he5, hc6⟩ := h
    refine A_call (st := [_]) (pc2 := 27) (fun T Q Qc L hc k => V_callV (as := [_]) (st := [_]) (M' := MX13_keyOf) (ci := 13) (pc2 := 27) (dk D_X13_isWord 14 rfl) ml_13_310 mv_X13_keyOf rfl rfl (by decide) rfl (Nat.le_of_ble_eq_true rfl) rfl he5 L.2.1 hc k) hc6 (aRJ.k fun w7 s8 h => ?_)
    refine A_p (fun T Q _ _ k => V_lcmp (pc2 := 28) (dk D_X13_isWord 15 rfl) rfl k) ?_
    refine A_if (pa := 31) (pb := 35) (fun T Q k1 k2 => V_ifne (tgt := 35) (pc2 := 31) (dk D_X13_isWord 16 rfl) (by decide) rfl (fun q => k2 q) (fun q => k1 q)) (fun q9 => ?_) (fun q9 => ?_)
    · have h := h.1 q9
      refine A_p (fun T Q _ _ k => V_iconst (x := 1) (pc2 := 32) (dk D_X13_isWord 17 rfl) (by decide) rfl k) ?_
      refine A_p (fun T Q _ _ k => V_goto (tgt := 36) (dk D_X13_isWord 18 rfl) (by decide) k) ?_
      exact h
    · have h := h.2 q9
      exact h
  · have h := h.2 q2
    exact h
theorem a_isWord_35 {X : Cx} {b d : Nat} {σ : Rm} {Q : Res → Rm → Prop} (r1 : Nat) (h : A X b d MX13_isWord 36 [(0, vR b), (1, vR r1)] [vI 0] σ Q) : A X b d MX13_isWord 35 [(0, vR b), (1, vR r1)] [] σ Q := by
  refine A_p (fun T Q _ _ k => V_iconst (x := 0) (pc2 := 36) (dk D_X13_isWord 19 rfl) (by decide) rfl k) ?_
  exact h
theorem a_isWord_36 {X : Cx} {b d : Nat} {σ : Rm} {Q : Res → Rm → Prop} (r1 : Nat) (t0 : Int32) (h : (t0 = 0 ∨ t0 = 1) ∧ Q (.inl (some (vI t0))) σ) : A X b d MX13_isWord 36 [(0, vR b), (1, vR r1)] [vI t0] σ Q := by
  obtain ⟨h1, h⟩ := h
  exact A_ret (fun T Q _ k => V_zreturn (dk D_X13_isWord 20 rfl) rfl h1 k) h
theorem a_mustSign_0 {X : Cx} {b d : Nat} {σ : Rm} {Q : Res → Rm → Prop} (x1 : Int32) (h : ∃ e1 : Nat, e1 + 1 ≤ d ∧ AC X b e1 MX13_isSign [vR b, vI x1] σ (aRI fun y4 s5 => ((y4 = 0 → (vp_in (sI s5 10) 3002) ∧ ∃ e8 : Nat, e8 + 1 ≤ d ∧ AC X b e8 MX13_fail [vR b, vI (aI s5 6 ((sI s5 10) : Int32).toNatClampNeg)] s5 (aTV Q fun  s11 => A X b d MX13_mustSign 21 [(0, vR b), (1, vI x1)] [] s11 Q)) ∧ (¬ y4 = 0 → A X b d MX13_mustSign 21 [(0, vR b), (1, vI x1)] [] s5 Q)))) : A X b d MX13_mustSign 0 [(0, vR b), (1, vI x1)] [] σ Q := by
  refine A_p (fun T Q _ _ k => V_aload_n (pc2 := 1) (dk D_X13_mustSign 0 rfl) rfl (V_lg 0 rfl) rfl k) ?_
  refine A_p (fun T Q _ _ k => V_iload_n (pc2 := 2) (dk D_X13_mustSign 1 rfl) rfl (V_lg 1 rfl) rfl k) ?_
  obtain ⟨e1, he2, hc3⟩ := h
  refine A_call (st := []) (pc2 := 5) (fun T Q Qc L hc k => V_callV (as := [_]) (st := []) (M' := MX13_isSign) (ci := 13) (pc2 := 5) (dk D_X13_mustSign 2 rfl) ml_13_334 mv_X13_isSign rfl rfl (by decide) rfl (Nat.le_of_ble_eq_true rfl) rfl he2 L.2.1 hc k) hc3 (aRI.k fun y4 s5 h => ?_)
  refine A_if (pa := 8) (pb := 21) (fun T Q k1 k2 => V_ifne (tgt := 21) (pc2 := 8) (dk D_X13_mustSign 3 rfl) (by decide) rfl (fun q => k2 q) (fun q => k1 q)) (fun q6 => ?_) (fun q6 => ?_)
  · have h := h.1 q6
    refine A_p (fun T Q _ _ k => V_aload_n (pc2 := 9) (dk D_X13_mustSign 4 rfl) rfl (V_lg 0 rfl) rfl k) ?_
    refine A_p (fun T Q _ _ k => V_aload_n (pc2 := 10) (dk D_X13_mustSign 5 rfl) rfl (V_lg 0 rfl) rfl k) ?_
    refine A_ar (pc2 := 13) (a := 5) 6 (dk D_X13_mustSign 6 rfl) fl_13_27 (by decide) (by decide) rfl (fun _ => rfl) rfl ?_
    refine A_p (fun T Q _ _ k => V_aload_n (pc2 := 14) (dk D_X13_mustSign 7 rfl) rfl (V_lg 0 rfl) rfl k) ?_
    refine A_sc (pc2 := 17) 10 (dk D_X13_mustSign 8 rfl) fl_13_331 (by decide) rfl (fun _ => rfl) rfl ?_
    obtain ⟨h7, h⟩ := h
    refine A_ild (pc2 := 18) 6 (dk D_X13_mustSign 9 rfl) rfl (by decide) rfl (by decide) rfl rfl h7 ?_
    obtain ⟨e8, he9, hc10⟩ := h
    refine A_callT (st := []) (pc2 := 21) (fun T Q Qc L hc k => V_callVT (as := [_]) (st := []) (M' := MX13_fail) (ci := 13) (pc2 := 21) (dk D_X13_mustSign 10 rfl) ml_13_337 mv_X13_fail rfl rfl (by decide) rfl (Nat.le_of_ble_eq_true rfl) rfl (by decide) he9 L.2.1 hc k) hc10 (aTV.k fun  s11 h => ?_)
    exact h
  · have h := h.2 q6
    exact h
theorem a_mustSign_21 {X : Cx} {b d : Nat} {σ : Rm} {Q : Res → Rm → Prop} (x1 : Int32) (h : ∀ s1 : Rm, s1 = wS σ 10 ((sI σ 10) + 1) → Q (.inl none) s1) : A X b d MX13_mustSign 21 [(0, vR b), (1, vI x1)] [] σ Q := by
  refine A_p (fun T Q _ _ k => V_aload_n (pc2 := 22) (dk D_X13_mustSign 11 rfl) rfl (V_lg 0 rfl) rfl k) ?_
  refine A_p (fun T Q _ _ k => V_dup (pc2 := 23) (dk D_X13_mustSign 12 rfl) rfl rfl k) ?_
  refine A_sc (pc2 := 26) 10 (dk D_X13_mustSign 13 rfl) fl_13_331 (by decide) rfl (fun _ => rfl) rfl ?_
  refine A_p (fun T Q _ _ k => V_iconst (x := 1) (pc2 := 27) (dk D_X13_mustSign 14 rfl) (by decide) rfl k) ?_
  refine A_p (fun T Q _ _ k => V_iadd (pc2 := 28) (dk D_X13_mustSign 15 rfl) rfl k) ?_
  refine A_put (pc2 := 31) 10 (dk D_X13_mustSign 16 rfl) fl_13_331 (by decide) rfl rfl rfl rfl ?_
  have h := h _ rfl
  exact A_ret (fun T Q _ k => V_return (dk D_X13_mustSign 17 rfl) rfl k) h
theorem a_mustWord_0 {X : Cx} {b d : Nat} {σ : Rm} {Q : Res → Rm → Prop} (r1 : Nat) (h : ∃ e1 : Nat, e1 + 1 ≤ d ∧ AC X b e1 MX13_isWord [vR b, vR r1] σ (aRI fun y4 s5 => ((y4 = 0 → (vp_in (sI s5 10) 3002) ∧ ∃ e8 : Nat, e8 + 1 ≤ d ∧ AC X b e8 MX13_fail [vR b, vI (aI s5 6 ((sI s5 10) : Int32).toNatClampNeg)] s5 (aTV Q fun  s11 => A X b d MX13_mustWord 21 [(0, vR b), (1, vR r1)] [] s11 Q)) ∧ (¬ y4 = 0 → A X b d MX13_mustWord 21 [(0, vR b), (1, vR r1)] [] s5 Q)))) : A X b d MX13_mustWord 0 [(0, vR b), (1, vR r1)] [] σ Q := by
  refine A_p (fun T Q _ _ k => V_aload_n (pc2 := 1) (dk D_X13_mustWord 0 rfl) rfl (V_lg 0 rfl) rfl k) ?_
  refine A_p (fun T Q _ _ k => V_aload_n (pc2 := 2) (dk D_X13_mustWord 1 rfl) rfl (V_lg 1 rfl) rfl k) ?_
  obtain ⟨e1, he2, hc3⟩ := h
  refine A_call (st := []) (pc2 := 5) (fun T Q Qc L hc k => V_callV (as := [_]) (st := []) (M' := MX13_isWord) (ci := 13) (pc2 := 5) (dk D_X13_mustWord 2 rfl) ml_13_341 mv_X13_isWord rfl rfl (by decide) rfl (Nat.le_of_ble_eq_true rfl) rfl he2 L.2.1 hc k) hc3 (aRI.k fun y4 s5 h => ?_)
  refine A_if (pa := 8) (pb := 21) (fun T Q k1 k2 => V_ifne (tgt := 21) (pc2 := 8) (dk D_X13_mustWord 3 rfl) (by decide) rfl (fun q => k2 q) (fun q => k1 q)) (fun q6 => ?_) (fun q6 => ?_)
  · have h := h.1 q6
    refine A_p (fun T Q _ _ k => V_aload_n (pc2 := 9) (dk D_X13_mustWord 4 rfl) rfl (V_lg 0 rfl) rfl k) ?_
    refine A_p (fun T Q _ _ k => V_aload_n (pc2 := 10) (dk D_X13_mustWord 5 rfl) rfl (V_lg 0 rfl) rfl k) ?_
    refine A_ar (pc2 := 13) (a := 5) 6 (dk D_X13_mustWord 6 rfl) fl_13_27 (by decide) (by decide) rfl (fun _ => rfl) rfl ?_
    refine A_p (fun T Q _ _ k => V_aload_n (pc2 := 14) (dk D_X13_mustWord 7 rfl) rfl (V_lg 0 rfl) rfl k) ?_
    refine A_sc (pc2 := 17) 10 (dk D_X13_mustWord 8 rfl) fl_13_331 (by decide) rfl (fun _ => rfl) rfl ?_
    obtain ⟨h7, h⟩ := h
    refine A_ild (pc2 := 18) 6 (dk D_X13_mustWord 9 rfl) rfl (by decide) rfl (by decide) rfl rfl h7 ?_
    obtain ⟨e8, he9, hc10⟩ := h
    refine A_callT (st := []) (pc2 := 21) (fun T Q Qc L hc k => V_callVT (as := [_]) (st := []) (M' := MX13_fail) (ci := 13) (pc2 := 21) (dk D_X13_mustWord 10 rfl) ml_13_337 mv_X13_fail rfl rfl (by decide) rfl (Nat.le_of_ble_eq_true rfl) rfl (by decide) he9 L.2.1 hc k) hc10 (aTV.k fun  s11 h => ?_)
    exact h
  · have h := h.2 q6
    exact h
theorem a_mustWord_21 {X : Cx} {b d : Nat} {σ : Rm} {Q : Res → Rm → Prop} (r1 : Nat) (h : ∀ s1 : Rm, s1 = wS σ 10 ((sI σ 10) + 1) → Q (.inl none) s1) : A X b d MX13_mustWord 21 [(0, vR b), (1, vR r1)] [] σ Q := by
  refine A_p (fun T Q _ _ k => V_aload_n (pc2 := 22) (dk D_X13_mustWord 11 rfl) rfl (V_lg 0 rfl) rfl k) ?_
  refine A_p (fun T Q _ _ k => V_dup (pc2 := 23) (dk D_X13_mustWord 12 rfl) rfl rfl k) ?_
  refine A_sc (pc2 := 26) 10 (dk D_X13_mustWord 13 rfl) fl_13_331 (by decide) rfl (fun _ => rfl) rfl ?_
  refine A_p (fun T Q _ _ k => V_iconst (x := 1) (pc2 := 27) (dk D_X13_mustWord 14 rfl) (by decide) rfl k) ?_
  refine A_p (fun T Q _ _ k => V_iadd (pc2 := 28) (dk D_X13_mustWord 15 rfl) rfl k) ?_
  refine A_put (pc2 := 31) 10 (dk D_X13_mustWord 16 rfl) fl_13_331 (by decide) rfl rfl rfl rfl ?_
  have h := h _ rfl
  exact A_ret (fun T Q _ k => V_return (dk D_X13_mustWord 17 rfl) rfl k) h
theorem a_mustName_0 {X : Cx} {b d : Nat} {σ : Rm} {Q : Res → Rm → Prop}  (h : (vp_in (sI σ 10) 3002) ∧ (((aI σ 5 ((sI σ 10) : Int32).toNatClampNeg) = 1 → A X b d MX13_mustName 26 [(0, vR b)] [] σ Q) ∧ (¬ (aI σ 5 ((sI σ 10) : Int32).toNatClampNeg) = 1 → (vp_in (sI σ 10) 3002) ∧ ∃ e4 : Nat, e4 + 1 ≤ d ∧ AC X b e4 MX13_fail [vR b, vI (aI σ 6 ((sI σ 10) : Int32).toNatClampNeg)] σ (aTV Q fun  s7 => A X b d MX13_mustName 26 [(0, vR b)] [] s7 Q)))) : A X b d MX13_mustName 0 [(0, vR b)] [] σ Q := by
  refine A_p (fun T Q _ _ k => V_aload_n (pc2 := 1) (dk D_X13_mustName 0 rfl) rfl (V_lg 0 rfl) rfl k) ?_
  refine A_ar (pc2 := 4) (a := 4) 5 (dk D_X13_mustName 1 rfl) fl_13_23 (by decide) (by decide) rfl (fun _ => rfl) rfl ?_
  refine A_p (fun T Q _ _ k => V_aload_n (pc2 := 5) (dk D_X13_mustName 2 rfl) rfl (V_lg 0 rfl) rfl k) ?_
  refine A_sc (pc2 := 8) 10 (dk D_X13_mustName 3 rfl) fl_13_331 (by decide) rfl (fun _ => rfl) rfl ?_
  obtain ⟨h1, h⟩ := h
  refine A_ild (pc2 := 9) 5 (dk D_X13_mustName 4 rfl) rfl (by decide) rfl (by decide) rfl rfl h1 ?_
  refine A_p (fun T Q _ _ k => V_iconst (x := 1) (pc2 := 10) (dk D_X13_mustName 5 rfl) (by decide) rfl k) ?_
  refine A_if (pa := 26) (pb := 13) (fun T Q k1 k2 => V_cmpeq (tgt := 26) (pc2 := 13) (dk D_X13_mustName 6 rfl) (by decide) rfl (fun q => k1 q) (fun q => k2 q)) (fun q2 => ?_) (fun q2 => ?_)
  · have h := h.1 q2
    exact h
  · have h := h.2 q2
    refine A_p (fun T Q _ _ k => V_aload_n (pc2 := 14) (dk D_X13_mustName 7 rfl) rfl (V_lg 0 rfl) rfl k) ?_
    refine A_p (fun T Q _ _ k => V_aload_n (pc2 := 15) (dk D_X13_mustName 8 rfl) rfl (V_lg 0 rfl) rfl k) ?_
    refine A_ar (pc2 := 18) (a := 5) 6 (dk D_X13_mustName 9 rfl) fl_13_27 (by decide) (by decide) rfl (fun _ => rfl) rfl ?_
    refine A_p (fun T Q _ _ k => V_aload_n (pc2 := 19) (dk D_X13_mustName 10 rfl) rfl (V_lg 0 rfl) rfl k) ?_
    refine A_sc (pc2 := 22) 10 (dk D_X13_mustName 11 rfl) fl_13_331 (by decide) rfl (fun _ => rfl) rfl ?_
    obtain ⟨h3, h⟩ := h
    refine A_ild (pc2 := 23) 6 (dk D_X13_mustName 12 rfl) rfl (by decide) rfl (by decide) rfl rfl h3 ?_
    obtain ⟨e4, he5, hc6⟩ := h
    refine A_callT (st := []) (pc2 := 26) (fun T Q Qc L hc k => V_callVT (as := [_]) (st := []) (M' := MX13_fail) (ci := 13) (pc2 := 26) (dk D_X13_mustName 13 rfl) ml_13_337 mv_X13_fail rfl rfl (by decide) rfl (Nat.le_of_ble_eq_true rfl) rfl (by decide) he5 L.2.1 hc k) hc6 (aTV.k fun  s7 h => ?_)
    exact h
theorem a_mustName_26 {X : Cx} {b d : Nat} {σ : Rm} {Q : Res → Rm → Prop}  (h : (vp_in (sI σ 10) 3002) ∧ (vp_in (sI σ 10) 3002) ∧ ((((aI σ 7 ((sI σ 10) : Int32).toNatClampNeg) - (aI σ 6 ((sI σ 10) : Int32).toNatClampNeg)) ≤ 8 → A X b d MX13_mustName 66 [(0, vR b)] [] σ Q) ∧ (¬ ((aI σ 7 ((sI σ 10) : Int32).toNatClampNeg) - (aI σ 6 ((sI σ 10) : Int32).toNatClampNeg)) ≤ 8 → (vp_in (sI σ 10) 3002) ∧ ∃ e5 : Nat, e5 + 1 ≤ d ∧ AC X b e5 MX13_fail [vR b, vI ((aI σ 6 ((sI σ 10) : Int32).toNatClampNeg) + 8)] σ (aTV Q fun  s8 => A X b d MX13_mustName 66 [(0, vR b)] [] s8 Q)))) : A X b d MX13_mustName 26 [(0, vR b)] [] σ Q := by
  refine A_p (fun T Q _ _ k => V_aload_n (pc2 := 27) (dk D_X13_mustName 14 rfl) rfl (V_lg 0 rfl) rfl k) ?_
  refine A_ar (pc2 := 30) (a := 6) 7 (dk D_X13_mustName 15 rfl) fl_13_30 (by decide) (by decide) rfl (fun _ => rfl) rfl ?_
  refine A_p (fun T Q _ _ k => V_aload_n (pc2 := 31) (dk D_X13_mustName 16 rfl) rfl (V_lg 0 rfl) rfl k) ?_
  refine A_sc (pc2 := 34) 10 (dk D_X13_mustName 17 rfl) fl_13_331 (by decide) rfl (fun _ => rfl) rfl ?_
  obtain ⟨h1, h⟩ := h
  refine A_ild (pc2 := 35) 7 (dk D_X13_mustName 18 rfl) rfl (by decide) rfl (by decide) rfl rfl h1 ?_
  refine A_p (fun T Q _ _ k => V_aload_n (pc2 := 36) (dk D_X13_mustName 19 rfl) rfl (V_lg 0 rfl) rfl k) ?_
  refine A_ar (pc2 := 39) (a := 5) 6 (dk D_X13_mustName 20 rfl) fl_13_27 (by decide) (by decide) rfl (fun _ => rfl) rfl ?_
  refine A_p (fun T Q _ _ k => V_aload_n (pc2 := 40) (dk D_X13_mustName 21 rfl) rfl (V_lg 0 rfl) rfl k) ?_
  refine A_sc (pc2 := 43) 10 (dk D_X13_mustName 22 rfl) fl_13_331 (by decide) rfl (fun _ => rfl) rfl ?_
  obtain ⟨h2, h⟩ := h
  refine A_ild (pc2 := 44) 6 (dk D_X13_mustName 23 rfl) rfl (by decide) rfl (by decide) rfl rfl h2 ?_
  refine A_p (fun T Q _ _ k => V_isub (pc2 := 45) (dk D_X13_mustName 24 rfl) rfl k) ?_
  refine A_p (fun T Q _ _ k => V_bipush (x := 8) (pc2 := 47) (dk D_X13_mustName 25 rfl) (by decide) rfl k) ?_
  refine A_if (pa := 66) (pb := 50) (fun T Q k1 k2 => V_cmple (tgt := 66) (pc2 := 50) (dk D_X13_mustName 26 rfl) (by decide) rfl (fun q => k1 q) (fun q => k2 q)) (fun q3 => ?_) (fun q3 => ?_)
  · have h := h.1 q3
    exact h
  · have h := h.2 q3
    refine A_p (fun T Q _ _ k => V_aload_n (pc2 := 51) (dk D_X13_mustName 27 rfl) rfl (V_lg 0 rfl) rfl k) ?_
    refine A_p (fun T Q _ _ k => V_aload_n (pc2 := 52) (dk D_X13_mustName 28 rfl) rfl (V_lg 0 rfl) rfl k) ?_
    refine A_ar (pc2 := 55) (a := 5) 6 (dk D_X13_mustName 29 rfl) fl_13_27 (by decide) (by decide) rfl (fun _ => rfl) rfl ?_
    refine A_p (fun T Q _ _ k => V_aload_n (pc2 := 56) (dk D_X13_mustName 30 rfl) rfl (V_lg 0 rfl) rfl k) ?_
    refine A_sc (pc2 := 59) 10 (dk D_X13_mustName 31 rfl) fl_13_331 (by decide) rfl (fun _ => rfl) rfl ?_
    obtain ⟨h4, h⟩ := h
    refine A_ild (pc2 := 60) 6 (dk D_X13_mustName 32 rfl) rfl (by decide) rfl (by decide) rfl rfl h4 ?_
    refine A_p (fun T Q _ _ k => V_bipush (x := 8) (pc2 := 62) (dk D_X13_mustName 33 rfl) (by decide) rfl k) ?_
    refine A_p (fun T Q _ _ k => V_iadd (pc2 := 63) (dk D_X13_mustName 34 rfl) rfl k) ?_
    obtain ⟨e5, he6, hc7⟩ := h
    refine A_callT (st := []) (pc2 := 66) (fun T Q Qc L hc k => V_callVT (as := [_]) (st := []) (M' := MX13_fail) (ci := 13) (pc2 := 66) (dk D_X13_mustName 35 rfl) ml_13_337 mv_X13_fail rfl rfl (by decide) rfl (Nat.le_of_ble_eq_true rfl) rfl (by decide) he6 L.2.1 hc k) hc7 (aTV.k fun  s8 h => ?_)
    exact h
theorem a_mustName_66 {X : Cx} {b d : Nat} {σ : Rm} {Q : Res → Rm → Prop}  (h : ∀ s1 : Rm, s1 = wS σ 10 ((sI σ 10) + 1) → Q (.inl (some (vI ((sI s1 10) - 1)))) s1) : A X b d MX13_mustName 66 [(0, vR b)] [] σ Q := by
  refine A_p (fun T Q _ _ k => V_aload_n (pc2 := 67) (dk D_X13_mustName 36 rfl) rfl (V_lg 0 rfl) rfl k) ?_
  refine A_p (fun T Q _ _ k => V_dup (pc2 := 68) (dk D_X13_mustName 37 rfl) rfl rfl k) ?_
  refine A_sc (pc2 := 71) 10 (dk D_X13_mustName 38 rfl) fl_13_331 (by decide) rfl (fun _ => rfl) rfl ?_
  refine A_p (fun T Q _ _ k => V_iconst (x := 1) (pc2 := 72) (dk D_X13_mustName 39 rfl) (by decide) rfl k) ?_
  refine A_p (fun T Q _ _ k => V_iadd (pc2 := 73) (dk D_X13_mustName 40 rfl) rfl k) ?_
  refine A_put (pc2 := 76) 10 (dk D_X13_mustName 41 rfl) fl_13_331 (by decide) rfl rfl rfl rfl ?_
  have h := h _ rfl
  refine A_p (fun T Q _ _ k => V_aload_n (pc2 := 77) (dk D_X13_mustName 42 rfl) rfl (V_lg 0 rfl) rfl k) ?_
  refine A_sc (pc2 := 80) 10 (dk D_X13_mustName 43 rfl) fl_13_331 (by decide) rfl (fun _ => rfl) rfl ?_
  refine A_p (fun T Q _ _ k => V_iconst (x := 1) (pc2 := 81) (dk D_X13_mustName 44 rfl) (by decide) rfl k) ?_
  refine A_p (fun T Q _ _ k => V_isub (pc2 := 82) (dk D_X13_mustName 45 rfl) rfl k) ?_
  exact A_ret (fun T Q _ k => V_ireturn (dk D_X13_mustName 46 rfl) rfl k) h
theorem a_mustNumber_0 {X : Cx} {b d : Nat} {σ : Rm} {Q : Res → Rm → Prop}  (h : (vp_in (sI σ 10) 3002) ∧ (((aI σ 5 ((sI σ 10) : Int32).toNatClampNeg) = 2 → A X b d MX13_mustNumber 26 [(0, vR b)] [] σ Q) ∧ (¬ (aI σ 5 ((sI σ 10) : Int32).toNatClampNeg) = 2 → (vp_in (sI σ 10) 3002) ∧ ∃ e4 : Nat, e4 + 1 ≤ d ∧ AC X b e4 MX13_fail [vR b, vI (aI σ 6 ((sI σ 10) : Int32).toNatClampNeg)] σ (aTV Q fun  s7 => A X b d MX13_mustNumber 26 [(0, vR b)] [] s7 Q)))) : A X b d MX13_mustNumber 0 [(0, vR b)] [] σ Q := by
  refine A_p (fun T Q _ _ k => V_aload_n (pc2 := 1) (dk D_X13_mustNumber 0 rfl) rfl (V_lg 0 rfl) rfl k) ?_
  refine A_ar (pc2 := 4) (a := 4) 5 (dk D_X13_mustNumber 1 rfl) fl_13_23 (by decide) (by decide) rfl (fun _ => rfl) rfl ?_
  refine A_p (fun T Q _ _ k => V_aload_n (pc2 := 5) (dk D_X13_mustNumber 2 rfl) rfl (V_lg 0 rfl) rfl k) ?_
  refine A_sc (pc2 := 8) 10 (dk D_X13_mustNumber 3 rfl) fl_13_331 (by decide) rfl (fun _ => rfl) rfl ?_
  obtain ⟨h1, h⟩ := h
  refine A_ild (pc2 := 9) 5 (dk D_X13_mustNumber 4 rfl) rfl (by decide) rfl (by decide) rfl rfl h1 ?_
  refine A_p (fun T Q _ _ k => V_iconst (x := 2) (pc2 := 10) (dk D_X13_mustNumber 5 rfl) (by decide) rfl k) ?_
  refine A_if (pa := 26) (pb := 13) (fun T Q k1 k2 => V_cmpeq (tgt := 26) (pc2 := 13) (dk D_X13_mustNumber 6 rfl) (by decide) rfl (fun q => k1 q) (fun q => k2 q)) (fun q2 => ?_) (fun q2 => ?_)
  · have h := h.1 q2
    exact h
  · have h := h.2 q2
    refine A_p (fun T Q _ _ k => V_aload_n (pc2 := 14) (dk D_X13_mustNumber 7 rfl) rfl (V_lg 0 rfl) rfl k) ?_
    refine A_p (fun T Q _ _ k => V_aload_n (pc2 := 15) (dk D_X13_mustNumber 8 rfl) rfl (V_lg 0 rfl) rfl k) ?_
    refine A_ar (pc2 := 18) (a := 5) 6 (dk D_X13_mustNumber 9 rfl) fl_13_27 (by decide) (by decide) rfl (fun _ => rfl) rfl ?_
    refine A_p (fun T Q _ _ k => V_aload_n (pc2 := 19) (dk D_X13_mustNumber 10 rfl) rfl (V_lg 0 rfl) rfl k) ?_
    refine A_sc (pc2 := 22) 10 (dk D_X13_mustNumber 11 rfl) fl_13_331 (by decide) rfl (fun _ => rfl) rfl ?_
    obtain ⟨h3, h⟩ := h
    refine A_ild (pc2 := 23) 6 (dk D_X13_mustNumber 12 rfl) rfl (by decide) rfl (by decide) rfl rfl h3 ?_
    obtain ⟨e4, he5, hc6⟩ := h
    refine A_callT (st := []) (pc2 := 26) (fun T Q Qc L hc k => V_callVT (as := [_]) (st := []) (M' := MX13_fail) (ci := 13) (pc2 := 26) (dk D_X13_mustNumber 13 rfl) ml_13_337 mv_X13_fail rfl rfl (by decide) rfl (Nat.le_of_ble_eq_true rfl) rfl (by decide) he5 L.2.1 hc k) hc6 (aTV.k fun  s7 h => ?_)
    exact h
theorem a_mustNumber_26 {X : Cx} {b d : Nat} {σ : Rm} {Q : Res → Rm → Prop}  (h : (vp_in (sI σ 10) 3002) ∧ (vp_in (sI σ 10) 3002) ∧ ((((aI σ 7 ((sI σ 10) : Int32).toNatClampNeg) - (aI σ 6 ((sI σ 10) : Int32).toNatClampNeg)) ≤ 9 → A X b d MX13_mustNumber 66 [(0, vR b)] [] σ Q) ∧ (¬ ((aI σ 7 ((sI σ 10) : Int32).toNatClampNeg) - (aI σ 6 ((sI σ 10) : Int32).toNatClampNeg)) ≤ 9 → (vp_in (sI σ 10) 3002) ∧ ∃ e5 : Nat, e5 + 1 ≤ d ∧ AC X b e5 MX13_fail [vR b, vI ((aI σ 6 ((sI σ 10) : Int32).toNatClampNeg) + 9)] σ (aTV Q fun  s8 => A X b d MX13_mustNumber 66 [(0, vR b)] [] s8 Q)))) : A X b d MX13_mustNumber 26 [(0, vR b)] [] σ Q := by
  refine A_p (fun T Q _ _ k => V_aload_n (pc2 := 27) (dk D_X13_mustNumber 14 rfl) rfl (V_lg 0 rfl) rfl k) ?_
  refine A_ar (pc2 := 30) (a := 6) 7 (dk D_X13_mustNumber 15 rfl) fl_13_30 (by decide) (by decide) rfl (fun _ => rfl) rfl ?_
  refine A_p (fun T Q _ _ k => V_aload_n (pc2 := 31) (dk D_X13_mustNumber 16 rfl) rfl (V_lg 0 rfl) rfl k) ?_
  refine A_sc (pc2 := 34) 10 (dk D_X13_mustNumber 17 rfl) fl_13_331 (by decide) rfl (fun _ => rfl) rfl ?_
  obtain ⟨h1, h⟩ := h
  refine A_ild (pc2 := 35) 7 (dk D_X13_mustNumber 18 rfl) rfl (by decide) rfl (by decide) rfl rfl h1 ?_
  refine A_p (fun T Q _ _ k => V_aload_n (pc2 := 36) (dk D_X13_mustNumber 19 rfl) rfl (V_lg 0 rfl) rfl k) ?_
  refine A_ar (pc2 := 39) (a := 5) 6 (dk D_X13_mustNumber 20 rfl) fl_13_27 (by decide) (by decide) rfl (fun _ => rfl) rfl ?_
  refine A_p (fun T Q _ _ k => V_aload_n (pc2 := 40) (dk D_X13_mustNumber 21 rfl) rfl (V_lg 0 rfl) rfl k) ?_
  refine A_sc (pc2 := 43) 10 (dk D_X13_mustNumber 22 rfl) fl_13_331 (by decide) rfl (fun _ => rfl) rfl ?_
  obtain ⟨h2, h⟩ := h
  refine A_ild (pc2 := 44) 6 (dk D_X13_mustNumber 23 rfl) rfl (by decide) rfl (by decide) rfl rfl h2 ?_
  refine A_p (fun T Q _ _ k => V_isub (pc2 := 45) (dk D_X13_mustNumber 24 rfl) rfl k) ?_
  refine A_p (fun T Q _ _ k => V_bipush (x := 9) (pc2 := 47) (dk D_X13_mustNumber 25 rfl) (by decide) rfl k) ?_
  refine A_if (pa := 66) (pb := 50) (fun T Q k1 k2 => V_cmple (tgt := 66) (pc2 := 50) (dk D_X13_mustNumber 26 rfl) (by decide) rfl (fun q => k1 q) (fun q => k2 q)) (fun q3 => ?_) (fun q3 => ?_)
  · have h := h.1 q3
    exact h
  · have h := h.2 q3
    refine A_p (fun T Q _ _ k => V_aload_n (pc2 := 51) (dk D_X13_mustNumber 27 rfl) rfl (V_lg 0 rfl) rfl k) ?_
    refine A_p (fun T Q _ _ k => V_aload_n (pc2 := 52) (dk D_X13_mustNumber 28 rfl) rfl (V_lg 0 rfl) rfl k) ?_
    refine A_ar (pc2 := 55) (a := 5) 6 (dk D_X13_mustNumber 29 rfl) fl_13_27 (by decide) (by decide) rfl (fun _ => rfl) rfl ?_
    refine A_p (fun T Q _ _ k => V_aload_n (pc2 := 56) (dk D_X13_mustNumber 30 rfl) rfl (V_lg 0 rfl) rfl k) ?_
    refine A_sc (pc2 := 59) 10 (dk D_X13_mustNumber 31 rfl) fl_13_331 (by decide) rfl (fun _ => rfl) rfl ?_
    obtain ⟨h4, h⟩ := h
    refine A_ild (pc2 := 60) 6 (dk D_X13_mustNumber 32 rfl) rfl (by decide) rfl (by decide) rfl rfl h4 ?_
    refine A_p (fun T Q _ _ k => V_bipush (x := 9) (pc2 := 62) (dk D_X13_mustNumber 33 rfl) (by decide) rfl k) ?_
    refine A_p (fun T Q _ _ k => V_iadd (pc2 := 63) (dk D_X13_mustNumber 34 rfl) rfl k) ?_
    obtain ⟨e5, he6, hc7⟩ := h
    refine A_callT (st := []) (pc2 := 66) (fun T Q Qc L hc k => V_callVT (as := [_]) (st := []) (M' := MX13_fail) (ci := 13) (pc2 := 66) (dk D_X13_mustNumber 35 rfl) ml_13_337 mv_X13_fail rfl rfl (by decide) rfl (Nat.le_of_ble_eq_true rfl) rfl (by decide) he6 L.2.1 hc k) hc7 (aTV.k fun  s8 h => ?_)
    exact h
theorem a_mustNumber_66 {X : Cx} {b d : Nat} {σ : Rm} {Q : Res → Rm → Prop}  (h : ∀ s1 : Rm, s1 = wS σ 10 ((sI σ 10) + 1) → (vp_in ((sI s1 10) - 1) 3002) ∧ Q (.inl (some (vI (aI s1 8 (((sI s1 10) - 1) : Int32).toNatClampNeg)))) s1) : A X b d MX13_mustNumber 66 [(0, vR b)] [] σ Q := by
  refine A_p (fun T Q _ _ k => V_aload_n (pc2 := 67) (dk D_X13_mustNumber 36 rfl) rfl (V_lg 0 rfl) rfl k) ?_
  refine A_p (fun T Q _ _ k => V_dup (pc2 := 68) (dk D_X13_mustNumber 37 rfl) rfl rfl k) ?_
  refine A_sc (pc2 := 71) 10 (dk D_X13_mustNumber 38 rfl) fl_13_331 (by decide) rfl (fun _ => rfl) rfl ?_
  refine A_p (fun T Q _ _ k => V_iconst (x := 1) (pc2 := 72) (dk D_X13_mustNumber 39 rfl) (by decide) rfl k) ?_
  refine A_p (fun T Q _ _ k => V_iadd (pc2 := 73) (dk D_X13_mustNumber 40 rfl) rfl k) ?_
  refine A_put (pc2 := 76) 10 (dk D_X13_mustNumber 41 rfl) fl_13_331 (by decide) rfl rfl rfl rfl ?_
  have h := h _ rfl
  refine A_p (fun T Q _ _ k => V_aload_n (pc2 := 77) (dk D_X13_mustNumber 42 rfl) rfl (V_lg 0 rfl) rfl k) ?_
  refine A_ar (pc2 := 80) (a := 7) 8 (dk D_X13_mustNumber 43 rfl) fl_13_33 (by decide) (by decide) rfl (fun _ => rfl) rfl ?_
  refine A_p (fun T Q _ _ k => V_aload_n (pc2 := 81) (dk D_X13_mustNumber 44 rfl) rfl (V_lg 0 rfl) rfl k) ?_
  refine A_sc (pc2 := 84) 10 (dk D_X13_mustNumber 45 rfl) fl_13_331 (by decide) rfl (fun _ => rfl) rfl ?_
  refine A_p (fun T Q _ _ k => V_iconst (x := 1) (pc2 := 85) (dk D_X13_mustNumber 46 rfl) (by decide) rfl k) ?_
  refine A_p (fun T Q _ _ k => V_isub (pc2 := 86) (dk D_X13_mustNumber 47 rfl) rfl k) ?_
  obtain ⟨h2, h⟩ := h
  refine A_ild (pc2 := 87) 8 (dk D_X13_mustNumber 48 rfl) rfl (by decide) rfl (by decide) rfl rfl h2 ?_
  exact A_ret (fun T Q _ k => V_ireturn (dk D_X13_mustNumber 49 rfl) rfl k) h
theorem a_opens_0 {X : Cx} {b d : Nat} {σ : Rm} {Q : Res → Rm → Prop}  (h : (((sI σ 12) = 24 → (vp_in (sI σ 10) 3002) ∧ ∃ e3 : Nat, e3 + 1 ≤ d ∧ AC X b e3 MX13_fail [vR b, vI (aI σ 6 ((sI σ 10) : Int32).toNatClampNeg)] σ (aTV Q fun  s6 => A X b d MX13_opens 22 [(0, vR b)] [] s6 Q)) ∧ (¬ (sI σ 12) = 24 → A X b d MX13_opens 22 [(0, vR b)] [] σ Q))) : A X b d MX13_opens 0 [(0, vR b)] [] σ Q := by
  refine A_p (fun T Q _ _ k => V_aload_n (pc2 := 1) (dk D_X13_opens 0 rfl) rfl (V_lg 0 rfl) rfl k) ?_
  refine A_sc (pc2 := 4) 12 (dk D_X13_opens 1 rfl) fl_13_345 (by decide) rfl (fun _ => rfl) rfl ?_
  refine A_p (fun T Q _ _ k => V_bipush (x := 24) (pc2 := 6) (dk D_X13_opens 2 rfl) (by decide) rfl k) ?_
  refine A_if (pa := 9) (pb := 22) (fun T Q k1 k2 => V_cmpne (tgt := 22) (pc2 := 9) (dk D_X13_opens 3 rfl) (by decide) rfl (fun q => k2 q) (fun q => k1 q)) (fun q1 => ?_) (fun q1 => ?_)
  · have h := h.1 q1
    refine A_p (fun T Q _ _ k => V_aload_n (pc2 := 10) (dk D_X13_opens 4 rfl) rfl (V_lg 0 rfl) rfl k) ?_
    refine A_p (fun T Q _ _ k => V_aload_n (pc2 := 11) (dk D_X13_opens 5 rfl) rfl (V_lg 0 rfl) rfl k) ?_
    refine A_ar (pc2 := 14) (a := 5) 6 (dk D_X13_opens 6 rfl) fl_13_27 (by decide) (by decide) rfl (fun _ => rfl) rfl ?_
    refine A_p (fun T Q _ _ k => V_aload_n (pc2 := 15) (dk D_X13_opens 7 rfl) rfl (V_lg 0 rfl) rfl k) ?_
    refine A_sc (pc2 := 18) 10 (dk D_X13_opens 8 rfl) fl_13_331 (by decide) rfl (fun _ => rfl) rfl ?_
    obtain ⟨h2, h⟩ := h
    refine A_ild (pc2 := 19) 6 (dk D_X13_opens 9 rfl) rfl (by decide) rfl (by decide) rfl rfl h2 ?_
    obtain ⟨e3, he4, hc5⟩ := h
    refine A_callT (st := []) (pc2 := 22) (fun T Q Qc L hc k => V_callVT (as := [_]) (st := []) (M' := MX13_fail) (ci := 13) (pc2 := 22) (dk D_X13_opens 10 rfl) ml_13_337 mv_X13_fail rfl rfl (by decide) rfl (Nat.le_of_ble_eq_true rfl) rfl (by decide) he4 L.2.1 hc k) hc5 (aTV.k fun  s6 h => ?_)
    exact h
  · have h := h.2 q1
    exact h
theorem a_opens_22 {X : Cx} {b d : Nat} {σ : Rm} {Q : Res → Rm → Prop}  (h : ∀ s1 : Rm, s1 = wS σ 12 ((sI σ 12) + 1) → ∀ s2 : Rm, s2 = wS s1 10 ((sI s1 10) + 1) → Q (.inl none) s2) : A X b d MX13_opens 22 [(0, vR b)] [] σ Q := by
  refine A_p (fun T Q _ _ k => V_aload_n (pc2 := 23) (dk D_X13_opens 11 rfl) rfl (V_lg 0 rfl) rfl k) ?_
  refine A_p (fun T Q _ _ k => V_dup (pc2 := 24) (dk D_X13_opens 12 rfl) rfl rfl k) ?_
  refine A_sc (pc2 := 27) 12 (dk D_X13_opens 13 rfl) fl_13_345 (by decide) rfl (fun _ => rfl) rfl ?_
  refine A_p (fun T Q _ _ k => V_iconst (x := 1) (pc2 := 28) (dk D_X13_opens 14 rfl) (by decide) rfl k) ?_
  refine A_p (fun T Q _ _ k => V_iadd (pc2 := 29) (dk D_X13_opens 15 rfl) rfl k) ?_
  refine A_put (pc2 := 32) 12 (dk D_X13_opens 16 rfl) fl_13_345 (by decide) rfl rfl rfl rfl ?_
  have h := h _ rfl
  refine A_p (fun T Q _ _ k => V_aload_n (pc2 := 33) (dk D_X13_opens 17 rfl) rfl (V_lg 0 rfl) rfl k) ?_
  refine A_p (fun T Q _ _ k => V_dup (pc2 := 34) (dk D_X13_opens 18 rfl) rfl rfl k) ?_
  refine A_sc (pc2 := 37) 10 (dk D_X13_opens 19 rfl) fl_13_331 (by decide) rfl (fun _ => rfl) rfl ?_
  refine A_p (fun T Q _ _ k => V_iconst (x := 1) (pc2 := 38) (dk D_X13_opens 20 rfl) (by decide) rfl k) ?_
  refine A_p (fun T Q _ _ k => V_iadd (pc2 := 39) (dk D_X13_opens 21 rfl) rfl k) ?_
  refine A_put (pc2 := 42) 10 (dk D_X13_opens 22 rfl) fl_13_331 (by decide) rfl rfl rfl rfl ?_
  have h := h _ rfl
  exact A_ret (fun T Q _ k => V_return (dk D_X13_opens 23 rfl) rfl k) h
theorem a_closes_0 {X : Cx} {b d : Nat} {σ : Rm} {Q : Res → Rm → Prop} (x1 : Int32) (h : ∃ e1 : Nat, e1 + 1 ≤ d ∧ AC X b e1 MX13_mustSign [vR b, vI x1] σ (aTV Q fun  s4 => ∀ s5 : Rm, s5 = wS s4 12 ((sI s4 12) - 1) → Q (.inl none) s5)) : A X b d MX13_closes 0 [(0, vR b), (1, vI x1)] [] σ Q := by
  refine A_p (fun T Q _ _ k => V_aload_n (pc2 := 1) (dk D_X13_closes 0 rfl) rfl (V_lg 0 rfl) rfl k) ?_
  refine A_p (fun T Q _ _ k => V_iload_n (pc2 := 2) (dk D_X13_closes 1 rfl) rfl (V_lg 1 rfl) rfl k) ?_
  obtain ⟨e1, he2, hc3⟩ := h
  refine A_callT (st := []) (pc2 := 5) (fun T Q Qc L hc k => V_callVT (as := [_]) (st := []) (M' := MX13_mustSign) (ci := 13) (pc2 := 5) (dk D_X13_closes 2 rfl) ml_13_348 mv_X13_mustSign rfl rfl (by decide) rfl (Nat.le_of_ble_eq_true rfl) rfl (by decide) he2 L.2.1 hc k) hc3 (aTV.k fun  s4 h => ?_)
  refine A_p (fun T Q _ _ k => V_aload_n (pc2 := 6) (dk D_X13_closes 3 rfl) rfl (V_lg 0 rfl) rfl k) ?_
  refine A_p (fun T Q _ _ k => V_dup (pc2 := 7) (dk D_X13_closes 4 rfl) rfl rfl k) ?_
  refine A_sc (pc2 := 10) 12 (dk D_X13_closes 5 rfl) fl_13_345 (by decide) rfl (fun _ => rfl) rfl ?_
  refine A_p (fun T Q _ _ k => V_iconst (x := 1) (pc2 := 11) (dk D_X13_closes 6 rfl) (by decide) rfl k) ?_
  refine A_p (fun T Q _ _ k => V_isub (pc2 := 12) (dk D_X13_closes 7 rfl) rfl k) ?_
  refine A_put (pc2 := 15) 12 (dk D_X13_closes 8 rfl) fl_13_345 (by decide) rfl rfl rfl rfl ?_
  have h := h _ rfl
  exact A_ret (fun T Q _ k => V_return (dk D_X13_closes 9 rfl) rfl k) h
theorem a_emit_0 {X : Cx} {b d : Nat} {σ : Rm} {Q : Res → Rm → Prop} (x1 : Int32) (x2 : Int32) (x3 : Int32) (h : (vp_in (sI σ 17) 12000) ∧ ∀ s2 : Rm, s2 = wI σ 13 (((sI σ 17) : Int32).toNatClampNeg) x1 → (vp_in (sI s2 17) 12000) ∧ ∀ s4 : Rm, s4 = wI s2 14 (((sI s2 17) : Int32).toNatClampNeg) x2 → (vp_in (sI s4 17) 12000) ∧ ∀ s6 : Rm, s6 = wI s4 15 (((sI s4 17) : Int32).toNatClampNeg) x3 → (vp_in (sI s6 17) 12000) ∧ ∀ s8 : Rm, s8 = wI s6 16 (((sI s6 17) : Int32).toNatClampNeg) 0 → ∀ s9 : Rm, s9 = wS s8 17 ((sI s8 17) + 1) → Q (.inl (some (vI ((sI s9 17) - 1)))) s9) : A X b d MX13_emit 0 [(0, vR b), (1, vI x1), (2, vI x2), (3, vI x3)] [] σ Q := by
  refine A_p (fun T Q _ _ k => V_aload_n (pc2 := 1) (dk D_X13_emit 0 rfl) rfl (V_lg 0 rfl) rfl k) ?_
  refine A_ar (pc2 := 4) (a := 10) 13 (dk D_X13_emit 1 rfl) fl_13_92 (by decide) (by decide) rfl (fun _ => rfl) rfl ?_
  refine A_p (fun T Q _ _ k => V_aload_n (pc2 := 5) (dk D_X13_emit 2 rfl) rfl (V_lg 0 rfl) rfl k) ?_
  refine A_sc (pc2 := 8) 17 (dk D_X13_emit 3 rfl) fl_13_351 (by decide) rfl (fun _ => rfl) rfl ?_
  refine A_p (fun T Q _ _ k => V_iload_n (pc2 := 9) (dk D_X13_emit 4 rfl) rfl (V_lg 1 rfl) rfl k) ?_
  obtain ⟨h1, h⟩ := h
  refine A_ist (pc2 := 10) 13 (dk D_X13_emit 5 rfl) rfl (by decide) rfl (by decide) rfl rfl h1 ?_
  have h := h _ rfl
  refine A_p (fun T Q _ _ k => V_aload_n (pc2 := 11) (dk D_X13_emit 6 rfl) rfl (V_lg 0 rfl) rfl k) ?_
  refine A_ar (pc2 := 14) (a := 11) 14 (dk D_X13_emit 7 rfl) fl_13_95 (by decide) (by decide) rfl (fun _ => rfl) rfl ?_
  refine A_p (fun T Q _ _ k => V_aload_n (pc2 := 15) (dk D_X13_emit 8 rfl) rfl (V_lg 0 rfl) rfl k) ?_
  refine A_sc (pc2 := 18) 17 (dk D_X13_emit 9 rfl) fl_13_351 (by decide) rfl (fun _ => rfl) rfl ?_
  refine A_p (fun T Q _ _ k => V_iload_n (pc2 := 19) (dk D_X13_emit 10 rfl) rfl (V_lg 2 rfl) rfl k) ?_
  obtain ⟨h3, h⟩ := h
  refine A_ist (pc2 := 20) 14 (dk D_X13_emit 11 rfl) rfl (by decide) rfl (by decide) rfl rfl h3 ?_
  have h := h _ rfl
  refine A_p (fun T Q _ _ k => V_aload_n (pc2 := 21) (dk D_X13_emit 12 rfl) rfl (V_lg 0 rfl) rfl k) ?_
  refine A_ar (pc2 := 24) (a := 12) 15 (dk D_X13_emit 13 rfl) fl_13_98 (by decide) (by decide) rfl (fun _ => rfl) rfl ?_
  refine A_p (fun T Q _ _ k => V_aload_n (pc2 := 25) (dk D_X13_emit 14 rfl) rfl (V_lg 0 rfl) rfl k) ?_
  refine A_sc (pc2 := 28) 17 (dk D_X13_emit 15 rfl) fl_13_351 (by decide) rfl (fun _ => rfl) rfl ?_
  refine A_p (fun T Q _ _ k => V_iload_n (pc2 := 29) (dk D_X13_emit 16 rfl) rfl (V_lg 3 rfl) rfl k) ?_
  obtain ⟨h5, h⟩ := h
  refine A_ist (pc2 := 30) 15 (dk D_X13_emit 17 rfl) rfl (by decide) rfl (by decide) rfl rfl h5 ?_
  have h := h _ rfl
  refine A_p (fun T Q _ _ k => V_aload_n (pc2 := 31) (dk D_X13_emit 18 rfl) rfl (V_lg 0 rfl) rfl k) ?_
  refine A_ar (pc2 := 34) (a := 13) 16 (dk D_X13_emit 19 rfl) fl_13_101 (by decide) (by decide) rfl (fun _ => rfl) rfl ?_
  refine A_p (fun T Q _ _ k => V_aload_n (pc2 := 35) (dk D_X13_emit 20 rfl) rfl (V_lg 0 rfl) rfl k) ?_
  refine A_sc (pc2 := 38) 17 (dk D_X13_emit 21 rfl) fl_13_351 (by decide) rfl (fun _ => rfl) rfl ?_
  refine A_p (fun T Q _ _ k => V_iconst (x := 0) (pc2 := 39) (dk D_X13_emit 22 rfl) (by decide) rfl k) ?_
  obtain ⟨h7, h⟩ := h
  refine A_ist (pc2 := 40) 16 (dk D_X13_emit 23 rfl) rfl (by decide) rfl (by decide) rfl rfl h7 ?_
  have h := h _ rfl
  refine A_p (fun T Q _ _ k => V_aload_n (pc2 := 41) (dk D_X13_emit 24 rfl) rfl (V_lg 0 rfl) rfl k) ?_
  refine A_p (fun T Q _ _ k => V_dup (pc2 := 42) (dk D_X13_emit 25 rfl) rfl rfl k) ?_
  refine A_sc (pc2 := 45) 17 (dk D_X13_emit 26 rfl) fl_13_351 (by decide) rfl (fun _ => rfl) rfl ?_
  refine A_p (fun T Q _ _ k => V_iconst (x := 1) (pc2 := 46) (dk D_X13_emit 27 rfl) (by decide) rfl k) ?_
  refine A_p (fun T Q _ _ k => V_iadd (pc2 := 47) (dk D_X13_emit 28 rfl) rfl k) ?_
  refine A_put (pc2 := 50) 17 (dk D_X13_emit 29 rfl) fl_13_351 (by decide) rfl rfl rfl rfl ?_
  have h := h _ rfl
  refine A_p (fun T Q _ _ k => V_aload_n (pc2 := 51) (dk D_X13_emit 30 rfl) rfl (V_lg 0 rfl) rfl k) ?_
  refine A_sc (pc2 := 54) 17 (dk D_X13_emit 31 rfl) fl_13_351 (by decide) rfl (fun _ => rfl) rfl ?_
  refine A_p (fun T Q _ _ k => V_iconst (x := 1) (pc2 := 55) (dk D_X13_emit 32 rfl) (by decide) rfl k) ?_
  refine A_p (fun T Q _ _ k => V_isub (pc2 := 56) (dk D_X13_emit 33 rfl) rfl k) ?_
  exact A_ret (fun T Q _ k => V_ireturn (dk D_X13_emit 34 rfl) rfl k) h
theorem a_blame_0 {X : Cx} {b d : Nat} {σ : Rm} {Q : Res → Rm → Prop} (x1 : Int32) (h : (((sI σ 37) < 0 → A X b d MX13_blame 21 [(0, vR b), (1, vI x1)] [vR b] σ Q) ∧ (¬ (sI σ 37) < 0 → (vp_in x1 3002) ∧ (((sI σ 37) ≤ (aI σ 6 (x1 : Int32).toNatClampNeg) → A X b d MX13_blame 34 [(0, vR b), (1, vI x1)] [vI (sI σ 37), vR b] σ Q) ∧ (¬ (sI σ 37) ≤ (aI σ 6 (x1 : Int32).toNatClampNeg) → A X b d MX13_blame 21 [(0, vR b), (1, vI x1)] [vR b] σ Q))))) : A X b d MX13_blame 0 [(0, vR b), (1, vI x1)] [] σ Q := by
  refine A_p (fun T Q _ _ k => V_aload_n (pc2 := 1) (dk D_X13_blame 0 rfl) rfl (V_lg 0 rfl) rfl k) ?_
  refine A_p (fun T Q _ _ k => V_aload_n (pc2 := 2) (dk D_X13_blame 1 rfl) rfl (V_lg 0 rfl) rfl k) ?_
  refine A_sc (pc2 := 5) 37 (dk D_X13_blame 2 rfl) fl_13_354 (by decide) rfl (fun _ => rfl) rfl ?_
  refine A_if (pa := 21) (pb := 8) (fun T Q k1 k2 => V_iflt (tgt := 21) (pc2 := 8) (dk D_X13_blame 3 rfl) (by decide) rfl (fun q => k1 q) (fun q => k2 q)) (fun q1 => ?_) (fun q1 => ?_)
  · have h := h.1 q1
    exact h
  · have h := h.2 q1
    refine A_p (fun T Q _ _ k => V_aload_n (pc2 := 9) (dk D_X13_blame 4 rfl) rfl (V_lg 0 rfl) rfl k) ?_
    refine A_ar (pc2 := 12) (a := 5) 6 (dk D_X13_blame 5 rfl) fl_13_27 (by decide) (by decide) rfl (fun _ => rfl) rfl ?_
    refine A_p (fun T Q _ _ k => V_iload_n (pc2 := 13) (dk D_X13_blame 6 rfl) rfl (V_lg 1 rfl) rfl k) ?_
    obtain ⟨h2, h⟩ := h
    refine A_ild (pc2 := 14) 6 (dk D_X13_blame 7 rfl) rfl (by decide) rfl (by decide) rfl rfl h2 ?_
    refine A_p (fun T Q _ _ k => V_aload_n (pc2 := 15) (dk D_X13_blame 8 rfl) rfl (V_lg 0 rfl) rfl k) ?_
    refine A_sc (pc2 := 18) 37 (dk D_X13_blame 9 rfl) fl_13_354 (by decide) rfl (fun _ => rfl) rfl ?_
    refine A_if (pa := 30) (pb := 21) (fun T Q k1 k2 => V_cmpge (tgt := 30) (pc2 := 21) (dk D_X13_blame 10 rfl) (by decide) rfl (fun q => k1 q) (fun q => k2 q)) (fun q3 => ?_) (fun q3 => ?_)
    · have h := h.1 q3
      refine A_p (fun T Q _ _ k => V_aload_n (pc2 := 31) (dk D_X13_blame 16 rfl) rfl (V_lg 0 rfl) rfl k) ?_
      refine A_sc (pc2 := 34) 37 (dk D_X13_blame 17 rfl) fl_13_354 (by decide) rfl (fun _ => rfl) rfl ?_
      exact h
    · have h := h.2 q3
      exact h
theorem a_blame_21 {X : Cx} {b d : Nat} {σ : Rm} {Q : Res → Rm → Prop} (x1 : Int32) (h : (vp_in x1 3002) ∧ A X b d MX13_blame 34 [(0, vR b), (1, vI x1)] [vI (aI σ 6 (x1 : Int32).toNatClampNeg), vR b] σ Q) : A X b d MX13_blame 21 [(0, vR b), (1, vI x1)] [vR b] σ Q := by
  refine A_p (fun T Q _ _ k => V_aload_n (pc2 := 22) (dk D_X13_blame 11 rfl) rfl (V_lg 0 rfl) rfl k) ?_
  refine A_ar (pc2 := 25) (a := 5) 6 (dk D_X13_blame 12 rfl) fl_13_27 (by decide) (by decide) rfl (fun _ => rfl) rfl ?_
  refine A_p (fun T Q _ _ k => V_iload_n (pc2 := 26) (dk D_X13_blame 13 rfl) rfl (V_lg 1 rfl) rfl k) ?_
  obtain ⟨h1, h⟩ := h
  refine A_ild (pc2 := 27) 6 (dk D_X13_blame 14 rfl) rfl (by decide) rfl (by decide) rfl rfl h1 ?_
  refine A_p (fun T Q _ _ k => V_goto (tgt := 34) (dk D_X13_blame 15 rfl) (by decide) k) ?_
  exact h
theorem a_blame_34 {X : Cx} {b d : Nat} {σ : Rm} {Q : Res → Rm → Prop} (x1 : Int32) (t1 : Int32) (h : ∀ s1 : Rm, s1 = wS σ 37 t1 → Q (.inl none) s1) : A X b d MX13_blame 34 [(0, vR b), (1, vI x1)] [vI t1, vR b] σ Q := by
  refine A_put (pc2 := 37) 37 (dk D_X13_blame 18 rfl) fl_13_354 (by decide) rfl rfl rfl rfl ?_
  have h := h _ rfl
  exact A_ret (fun T Q _ k => V_return (dk D_X13_blame 19 rfl) rfl k) h
theorem a_variable_0 {X : Cx} {b d : Nat} {σ : Rm} {Q : Res → Rm → Prop} (x1 : Int32) (h : A X b d MX13_variable 2 [(0, vR b), (1, vI x1), (2, vI 0)] [] σ Q) : A X b d MX13_variable 0 [(0, vR b), (1, vI x1)] [] σ Q := by
  refine A_p (fun T Q _ _ k => V_iconst (x := 0) (pc2 := 1) (dk D_X13_variable 0 rfl) (by decide) rfl k) ?_
  refine A_p (fun T Q _ _ k => V_istore_n (pc2 := 2) (lv2 := [(0, _), (1, _), (2, _)]) (dk D_X13_variable 1 rfl) rfl (by decide) rfl rfl k) ?_
  exact h
theorem a_variable_2 {X : Cx} {b d : Nat} {σ : Rm} {Q : Res → Rm → Prop} (x1 : Int32) (x2 : Int32) (h : (((sI σ 25) ≤ x2 → (((sI σ 25) < 12 → A X b d MX13_variable 48 [(0, vR b), (1, vI x1), (2, vI x2)] [] σ Q) ∧ (¬ (sI σ 25) < 12 → ∃ e3 : Nat, e3 + 1 ≤ d ∧ AC X b e3 MX13_blame [vR b, vI x1] σ (aRV fun  s6 => A X b d MX13_variable 48 [(0, vR b), (1, vI x1), (2, vI x2)] [] s6 Q)))) ∧ (¬ (sI σ 25) ≤ x2 → (vp_in x2 1600) ∧ (vp_in x1 3002) ∧ (((lg_cmp (aL σ 24 (x2 : Int32).toNatClampNeg) (aL σ 9 (x1 : Int32).toNatClampNeg)) = 0 → Q (.inl (some (vI x2))) σ) ∧ (¬ (lg_cmp (aL σ 24 (x2 : Int32).toNatClampNeg) (aL σ 9 (x1 : Int32).toNatClampNeg)) = 0 → A X b d MX13_variable 2 [(0, vR b), (1, vI x1), (2, vI (x2 + 1))] [] σ Q))))) : A X b d MX13_variable 2 [(0, vR b), (1, vI x1), (2, vI x2)] [] σ Q := by
  refine A_p (fun T Q _ _ k => V_iload_n (pc2 := 3) (dk D_X13_variable 2 rfl) rfl (V_lg 2 rfl) rfl k) ?_
  refine A_p (fun T Q _ _ k => V_aload_n (pc2 := 4) (dk D_X13_variable 3 rfl) rfl (V_lg 0 rfl) rfl k) ?_
  refine A_sc (pc2 := 7) 25 (dk D_X13_variable 4 rfl) fl_13_357 (by decide) rfl (fun _ => rfl) rfl ?_
  refine A_if (pa := 34) (pb := 10) (fun T Q k1 k2 => V_cmpge (tgt := 34) (pc2 := 10) (dk D_X13_variable 5 rfl) (by decide) rfl (fun q => k1 q) (fun q => k2 q)) (fun q1 => ?_) (fun q1 => ?_)
  · have h := h.1 q1
    refine A_p (fun T Q _ _ k => V_aload_n (pc2 := 35) (dk D_X13_variable 20 rfl) rfl (V_lg 0 rfl) rfl k) ?_
    refine A_sc (pc2 := 38) 25 (dk D_X13_variable 21 rfl) fl_13_357 (by decide) rfl (fun _ => rfl) rfl ?_
    refine A_p (fun T Q _ _ k => V_bipush (x := 12) (pc2 := 40) (dk D_X13_variable 22 rfl) (by decide) rfl k) ?_
    refine A_if (pa := 48) (pb := 43) (fun T Q k1 k2 => V_cmplt (tgt := 48) (pc2 := 43) (dk D_X13_variable 23 rfl) (by decide) rfl (fun q => k1 q) (fun q => k2 q)) (fun q2 => ?_) (fun q2 => ?_)
    · have h := h.1 q2
      exact h
    · have h := h.2 q2
      refine A_p (fun T Q _ _ k => V_aload_n (pc2 := 44) (dk D_X13_variable 24 rfl) rfl (V_lg 0 rfl) rfl k) ?_
      refine A_p (fun T Q _ _ k => V_iload_n (pc2 := 45) (dk D_X13_variable 25 rfl) rfl (V_lg 1 rfl) rfl k) ?_
      obtain ⟨e3, he4, hc5⟩ := h
      refine A_call (st := []) (pc2 := 48) (fun T Q Qc L hc k => V_callV (as := [_]) (st := []) (M' := MX13_blame) (ci := 13) (pc2 := 48) (dk D_X13_variable 26 rfl) ml_13_360 mv_X13_blame rfl rfl (by decide) rfl (Nat.le_of_ble_eq_true rfl) rfl he4 L.2.1 hc k) hc5 (aRV.k fun  s6 h => ?_)
      exact h
  · have h := h.2 q1
    refine A_p (fun T Q _ _ k => V_aload_n (pc2 := 11) (dk D_X13_variable 6 rfl) rfl (V_lg 0 rfl) rfl k) ?_
    refine A_ar (pc2 := 14) (a := 19) 24 (dk D_X13_variable 7 rfl) fl_13_119 (by decide) (by decide) rfl (fun _ => rfl) rfl ?_
    refine A_p (fun T Q _ _ k => V_iload_n (pc2 := 15) (dk D_X13_variable 8 rfl) rfl (V_lg 2 rfl) rfl k) ?_
    obtain ⟨h7, h⟩ := h
    refine A_lld (pc2 := 16) 24 (dk D_X13_variable 9 rfl) rfl (by decide) rfl (by decide) rfl rfl h7 ?_
    refine A_p (fun T Q _ _ k => V_aload_n (pc2 := 17) (dk D_X13_variable 10 rfl) rfl (V_lg 0 rfl) rfl k) ?_
    refine A_ar (pc2 := 20) (a := 8) 9 (dk D_X13_variable 11 rfl) fl_13_36 (by decide) (by decide) rfl (fun _ => rfl) rfl ?_
    refine A_p (fun T Q _ _ k => V_iload_n (pc2 := 21) (dk D_X13_variable 12 rfl) rfl (V_lg 1 rfl) rfl k) ?_
    obtain ⟨h8, h⟩ := h
    refine A_lld (pc2 := 22) 9 (dk D_X13_variable 13 rfl) rfl (by decide) rfl (by decide) rfl rfl h8 ?_
    refine A_p (fun T Q _ _ k => V_lcmp (pc2 := 23) (dk D_X13_variable 14 rfl) rfl k) ?_
    refine A_if (pa := 26) (pb := 28) (fun T Q k1 k2 => V_ifne (tgt := 28) (pc2 := 26) (dk D_X13_variable 15 rfl) (by decide) rfl (fun q => k2 q) (fun q => k1 q)) (fun q9 => ?_) (fun q9 => ?_)
    · have h := h.1 q9
      refine A_p (fun T Q _ _ k => V_iload_n (pc2 := 27) (dk D_X13_variable 16 rfl) rfl (V_lg 2 rfl) rfl k) ?_
      exact A_ret (fun T Q _ k => V_ireturn (dk D_X13_variable 17 rfl) rfl k) h
    · have h := h.2 q9
      refine A_p (fun T Q _ _ k => V_iinc (y := _ + 1) (pc2 := 31) (lv2 := [(0, _), (1, _), (2, _)]) (dk D_X13_variable 18 rfl) (V_lg 2 rfl) rfl (by decide) rfl rfl k) ?_
      refine A_p (fun T Q _ _ k => V_goto (tgt := 2) (dk D_X13_variable 19 rfl) (by decide) k) ?_
      exact h
theorem a_variable_48 {X : Cx} {b d : Nat} {σ : Rm} {Q : Res → Rm → Prop} (x1 : Int32) (x2 : Int32) (h : (vp_in x1 3002) ∧ (vp_in (sI σ 25) 1600) ∧ ∀ s3 : Rm, s3 = wL σ 24 (((sI σ 25) : Int32).toNatClampNeg) (aL σ 9 (x1 : Int32).toNatClampNeg) → ∀ s4 : Rm, s4 = wS s3 25 ((sI s3 25) + 1) → Q (.inl (some (vI ((sI s4 25) - 1)))) s4) : A X b d MX13_variable 48 [(0, vR b), (1, vI x1), (2, vI x2)] [] σ Q := by
  refine A_p (fun T Q _ _ k => V_aload_n (pc2 := 49) (dk D_X13_variable 27 rfl) rfl (V_lg 0 rfl) rfl k) ?_
  refine A_ar (pc2 := 52) (a := 19) 24 (dk D_X13_variable 28 rfl) fl_13_119 (by decide) (by decide) rfl (fun _ => rfl) rfl ?_
  refine A_p (fun T Q _ _ k => V_aload_n (pc2 := 53) (dk D_X13_variable 29 rfl) rfl (V_lg 0 rfl) rfl k) ?_
  refine A_sc (pc2 := 56) 25 (dk D_X13_variable 30 rfl) fl_13_357 (by decide) rfl (fun _ => rfl) rfl ?_
  refine A_p (fun T Q _ _ k => V_aload_n (pc2 := 57) (dk D_X13_variable 31 rfl) rfl (V_lg 0 rfl) rfl k) ?_
  refine A_ar (pc2 := 60) (a := 8) 9 (dk D_X13_variable 32 rfl) fl_13_36 (by decide) (by decide) rfl (fun _ => rfl) rfl ?_
  refine A_p (fun T Q _ _ k => V_iload_n (pc2 := 61) (dk D_X13_variable 33 rfl) rfl (V_lg 1 rfl) rfl k) ?_
  obtain ⟨h1, h⟩ := h
  refine A_lld (pc2 := 62) 9 (dk D_X13_variable 34 rfl) rfl (by decide) rfl (by decide) rfl rfl h1 ?_
  obtain ⟨h2, h⟩ := h
  refine A_lst (pc2 := 63) 24 (dk D_X13_variable 35 rfl) rfl (by decide) rfl (by decide) rfl rfl h2 ?_
  have h := h _ rfl
  refine A_p (fun T Q _ _ k => V_aload_n (pc2 := 64) (dk D_X13_variable 36 rfl) rfl (V_lg 0 rfl) rfl k) ?_
  refine A_p (fun T Q _ _ k => V_dup (pc2 := 65) (dk D_X13_variable 37 rfl) rfl rfl k) ?_
  refine A_sc (pc2 := 68) 25 (dk D_X13_variable 38 rfl) fl_13_357 (by decide) rfl (fun _ => rfl) rfl ?_
  refine A_p (fun T Q _ _ k => V_iconst (x := 1) (pc2 := 69) (dk D_X13_variable 39 rfl) (by decide) rfl k) ?_
  refine A_p (fun T Q _ _ k => V_iadd (pc2 := 70) (dk D_X13_variable 40 rfl) rfl k) ?_
  refine A_put (pc2 := 73) 25 (dk D_X13_variable 41 rfl) fl_13_357 (by decide) rfl rfl rfl rfl ?_
  have h := h _ rfl
  refine A_p (fun T Q _ _ k => V_aload_n (pc2 := 74) (dk D_X13_variable 42 rfl) rfl (V_lg 0 rfl) rfl k) ?_
  refine A_sc (pc2 := 77) 25 (dk D_X13_variable 43 rfl) fl_13_357 (by decide) rfl (fun _ => rfl) rfl ?_
  refine A_p (fun T Q _ _ k => V_iconst (x := 1) (pc2 := 78) (dk D_X13_variable 44 rfl) (by decide) rfl k) ?_
  refine A_p (fun T Q _ _ k => V_isub (pc2 := 79) (dk D_X13_variable 45 rfl) rfl k) ?_
  exact A_ret (fun T Q _ k => V_ireturn (dk D_X13_variable 46 rfl) rfl k) h
theorem a_readBlock_0 {X : Cx} {b d : Nat} {σ : Rm} {Q : Res → Rm → Prop}  (h : ∃ e1 : Nat, e1 + 1 ≤ d ∧ AC X b e1 MX13_isSign [vR b, vI 123] σ (aRI fun y4 s5 => ((y4 = 0 → (vp_in (sI s5 10) 3002) ∧ ∃ e8 : Nat, e8 + 1 ≤ d ∧ AC X b e8 MX13_fail [vR b, vI (aI s5 6 ((sI s5 10) : Int32).toNatClampNeg)] s5 (aTV Q fun  s11 => A X b d MX13_readBlock 22 [(0, vR b)] [] s11 Q)) ∧ (¬ y4 = 0 → A X b d MX13_readBlock 22 [(0, vR b)] [] s5 Q)))) : A X b d MX13_readBlock 0 [(0, vR b)] [] σ Q := by
  refine A_p (fun T Q _ _ k => V_aload_n (pc2 := 1) (dk D_X13_readBlock 0 rfl) rfl (V_lg 0 rfl) rfl k) ?_
  refine A_p (fun T Q _ _ k => V_bipush (x := 123) (pc2 := 3) (dk D_X13_readBlock 1 rfl) (by decide) rfl k) ?_
  obtain ⟨e1, he2, hc3⟩ := h
  refine A_call (st := []) (pc2 := 6) (fun T Q Qc L hc k => V_callV (as := [_]) (st := []) (M' := MX13_isSign) (ci := 13) (pc2 := 6) (dk D_X13_readBlock 2 rfl) ml_13_334 mv_X13_isSign rfl rfl (by decide) rfl (Nat.le_of_ble_eq_true rfl) rfl he2 L.2.1 hc k) hc3 (aRI.k fun y4 s5 h => ?_)
  refine A_if (pa := 9) (pb := 22) (fun T Q k1 k2 => V_ifne (tgt := 22) (pc2 := 9) (dk D_X13_readBlock 3 rfl) (by decide) rfl (fun q => k2 q) (fun q => k1 q)) (fun q6 => ?_) (fun q6 => ?_)
  · have h := h.1 q6
    refine A_p (fun T Q _ _ k => V_aload_n (pc2 := 10) (dk D_X13_readBlock 4 rfl) rfl (V_lg 0 rfl) rfl k) ?_
    refine A_p (fun T Q _ _ k => V_aload_n (pc2 := 11) (dk D_X13_readBlock 5 rfl) rfl (V_lg 0 rfl) rfl k) ?_
    refine A_ar (pc2 := 14) (a := 5) 6 (dk D_X13_readBlock 6 rfl) fl_13_27 (by decide) (by decide) rfl (fun _ => rfl) rfl ?_
    refine A_p (fun T Q _ _ k => V_aload_n (pc2 := 15) (dk D_X13_readBlock 7 rfl) rfl (V_lg 0 rfl) rfl k) ?_
    refine A_sc (pc2 := 18) 10 (dk D_X13_readBlock 8 rfl) fl_13_331 (by decide) rfl (fun _ => rfl) rfl ?_
    obtain ⟨h7, h⟩ := h
    refine A_ild (pc2 := 19) 6 (dk D_X13_readBlock 9 rfl) rfl (by decide) rfl (by decide) rfl rfl h7 ?_
    obtain ⟨e8, he9, hc10⟩ := h
    refine A_callT (st := []) (pc2 := 22) (fun T Q Qc L hc k => V_callVT (as := [_]) (st := []) (M' := MX13_fail) (ci := 13) (pc2 := 22) (dk D_X13_readBlock 10 rfl) ml_13_337 mv_X13_fail rfl rfl (by decide) rfl (Nat.le_of_ble_eq_true rfl) rfl (by decide) he9 L.2.1 hc k) hc10 (aTV.k fun  s11 h => ?_)
    exact h
  · have h := h.2 q6
    exact h
theorem a_readBlock_22 {X : Cx} {b d : Nat} {σ : Rm} {Q : Res → Rm → Prop}  (h : ∃ e1 : Nat, e1 + 1 ≤ d ∧ AC X b e1 MX13_opens [vR b] σ (aTV Q fun  s4 => A X b d MX13_readBlock 26 [(0, vR b)] [] s4 Q)) : A X b d MX13_readBlock 22 [(0, vR b)] [] σ Q := by
  refine A_p (fun T Q _ _ k => V_aload_n (pc2 := 23) (dk D_X13_readBlock 11 rfl) rfl (V_lg 0 rfl) rfl k) ?_
  obtain ⟨e1, he2, hc3⟩ := h
  refine A_callT (st := []) (pc2 := 26) (fun T Q Qc L hc k => V_callVT (as := []) (st := []) (M' := MX13_opens) (ci := 13) (pc2 := 26) (dk D_X13_readBlock 12 rfl) ml_13_363 mv_X13_opens rfl rfl (by decide) rfl (Nat.le_of_ble_eq_true rfl) rfl (by decide) he2 L.2.1 hc k) hc3 (aTV.k fun  s4 h => ?_)
  exact h
theorem a_readBlock_26 {X : Cx} {b d : Nat} {σ : Rm} {Q : Res → Rm → Prop}  (h : ∃ e1 : Nat, e1 + 1 ≤ d ∧ AC X b e1 MX13_isSign [vR b, vI 125] σ (aRI fun y4 s5 => ((y4 = 0 → ∃ e7 : Nat, e7 + 1 ≤ d ∧ AC X b e7 MX13_readStatement [vR b] s5 (aTV Q fun  s10 => A X b d MX13_readBlock 26 [(0, vR b)] [] s10 Q)) ∧ (¬ y4 = 0 → ∃ e11 : Nat, e11 + 1 ≤ d ∧ AC X b e11 MX13_closes [vR b, vI 125] s5 (aTV Q fun  s14 => Q (.inl none) s14))))) : A X b d MX13_readBlock 26 [(0, vR b)] [] σ Q := by
  refine A_p (fun T Q _ _ k => V_aload_n (pc2 := 27) (dk D_X13_readBlock 13 rfl) rfl (V_lg 0 rfl) rfl k) ?_
  refine A_p (fun T Q _ _ k => V_bipush (x := 125) (pc2 := 29) (dk D_X13_readBlock 14 rfl) (by decide) rfl k) ?_
  obtain ⟨e1, he2, hc3⟩ := h
  refine A_call (st := []) (pc2 := 32) (fun T Q Qc L hc k => V_callV (as := [_]) (st := []) (M' := MX13_isSign) (ci := 13) (pc2 := 32) (dk D_X13_readBlock 15 rfl) ml_13_334 mv_X13_isSign rfl rfl (by decide) rfl (Nat.le_of_ble_eq_true rfl) rfl he2 L.2.1 hc k) hc3 (aRI.k fun y4 s5 h => ?_)
  refine A_if (pa := 35) (pb := 42) (fun T Q k1 k2 => V_ifne (tgt := 42) (pc2 := 35) (dk D_X13_readBlock 16 rfl) (by decide) rfl (fun q => k2 q) (fun q => k1 q)) (fun q6 => ?_) (fun q6 => ?_)
  · have h := h.1 q6
    refine A_p (fun T Q _ _ k => V_aload_n (pc2 := 36) (dk D_X13_readBlock 17 rfl) rfl (V_lg 0 rfl) rfl k) ?_
    obtain ⟨e7, he8, hc9⟩ := h
    refine A_callT (st := []) (pc2 := 39) (fun T Q Qc L hc k => V_callST (as := [_]) (st := []) (M' := MX13_readStatement) (pc2 := 39) (dk D_X13_readBlock 18 rfl) ml_13_366 mv_X13_readStatement rfl rfl (Nat.le_of_ble_eq_true rfl) rfl (by decide) he8 hc k) hc9 (aTV.k fun  s10 h => ?_)
    refine A_p (fun T Q _ _ k => V_goto (tgt := 26) (dk D_X13_readBlock 19 rfl) (by decide) k) ?_
    exact h
  · have h := h.2 q6
    refine A_p (fun T Q _ _ k => V_aload_n (pc2 := 43) (dk D_X13_readBlock 20 rfl) rfl (V_lg 0 rfl) rfl k) ?_
    refine A_p (fun T Q _ _ k => V_bipush (x := 125) (pc2 := 45) (dk D_X13_readBlock 21 rfl) (by decide) rfl k) ?_
    obtain ⟨e11, he12, hc13⟩ := h
    refine A_callT (st := []) (pc2 := 48) (fun T Q Qc L hc k => V_callVT (as := [_]) (st := []) (M' := MX13_closes) (ci := 13) (pc2 := 48) (dk D_X13_readBlock 22 rfl) ml_13_370 mv_X13_closes rfl rfl (by decide) rfl (Nat.le_of_ble_eq_true rfl) rfl (by decide) he12 L.2.1 hc k) hc13 (aTV.k fun  s14 h => ?_)
    exact A_ret (fun T Q _ k => V_return (dk D_X13_readBlock 23 rfl) rfl k) h
set_option maxRecDepth 100000 in
theorem a_readStatement_0 {X : Cx} {b d : Nat} {σ : Rm} {Q : Res → Rm → Prop}  (h : (vp_in (sI σ 10) 3002) ∧ ∃ e2 : Nat, e2 + 1 ≤ d ∧ AC X b e2 MX13_emit [vR b, vI 0, vI (aI σ 6 ((sI σ 10) : Int32).toNatClampNeg), vI 0] σ (aRI fun y5 s6 => ∃ e7 : Nat, e7 + 1 ≤ d ∧ AC X b e7 MX13_isWord [vR b, vR 14] s6 (aRI fun y10 s11 => ((y10 = 0 → ∃ e13 : Nat, e13 + 1 ≤ d ∧ AC X b e13 MX13_isWord [vR b, vR 6] s11 (aRI fun y16 s17 => ((y16 = 0 → ∃ e19 : Nat, e19 + 1 ≤ d ∧ AC X b e19 MX13_isWord [vR b, vR 8] s17 (aRI fun y22 s23 => ((y22 = 0 → ∃ e25 : Nat, e25 + 1 ≤ d ∧ AC X b e25 MX13_isWord [vR b, vR 12] s23 (aRI fun y28 s29 => ((y28 = 0 → ∃ e31 : Nat, e31 + 1 ≤ d ∧ AC X b e31 MX13_isWord [vR b, vR 13] s29 (aRI fun y34 s35 => ((y34 = 0 → ∃ e37 : Nat, e37 + 1 ≤ d ∧ AC X b e37 MX13_isWord [vR b, vR 19] s35 (aRI fun y40 s41 => ((y40 = 0 → ∃ e43 : Nat, e43 + 1 ≤ d ∧ AC X b e43 MX13_isWord [vR b, vR 25] s41 (aRI fun y46 s47 => ((y46 = 0 → ∃ e49 : Nat, e49 + 1 ≤ d ∧ AC X b e49 MX13_isWord [vR b, vR 9] s47 (aRI fun y52 s53 => ((y52 = 0 → (vp_in (sI s53 10) 3002) ∧ (((aI s53 5 ((sI s53 10) : Int32).toNatClampNeg) = 1 → (vp_in ((sI s53 10) + 1) 3002) ∧ (((aI s53 5 (((sI s53 10) + 1) : Int32).toNatClampNeg) = 3 → (vp_in ((sI s53 10) + 1) 3002) ∧ (((aI s53 8 (((sI s53 10) + 1) : Int32).toNatClampNeg) = 61 → ∃ e61 : Nat, e61 + 1 ≤ d ∧ AC X b e61 MX13_mustName [vR b] s53 (aTI Q fun y64 s65 => ∃ e66 : Nat, e66 + 1 ≤ d ∧ AC X b e66 MX13_variable [vR b, vI y64] s65 (aRI fun y69 s70 => ∃ e71 : Nat, e71 + 1 ≤ d ∧ AC X b e71 MX13_mustSign [vR b, vI 61] s70 (aTV Q fun  s74 => ∃ e75 : Nat, e75 + 1 ≤ d ∧ AC X b e75 MX13_readE [vR b] s74 (aTV Q fun  s78 => ∃ e79 : Nat, e79 + 1 ≤ d ∧ AC X b e79 MX13_mustSign [vR b, vI 59] s78 (aTV Q fun  s82 => ∃ e83 : Nat, e83 + 1 ≤ d ∧ AC X b e83 MX13_emit [vR b, vI 3, vI y69, vI 0] s82 (aRI fun y86 s87 => A X b d MX13_readStatement 526 [(0, vR b), (1, vI (aI σ 6 ((sI σ 10) : Int32).toNatClampNeg)), (2, vI y86)] [] s87 Q))))))) ∧ (¬ (aI s53 8 (((sI s53 10) + 1) : Int32).toNatClampNeg) = 61 → A X b d MX13_readStatement 507 [(0, vR b), (1, vI (aI σ 6 ((sI σ 10) : Int32).toNatClampNeg)), (2, vI y5)] [] s53 Q))) ∧ (¬ (aI s53 5 (((sI s53 10) + 1) : Int32).toNatClampNeg) = 3 → A X b d MX13_readStatement 507 [(0, vR b), (1, vI (aI σ 6 ((sI σ 10) : Int32).toNatClampNeg)), (2, vI y5)] [] s53 Q))) ∧ (¬ (aI s53 5 ((sI s53 10) : Int32).toNatClampNeg) = 1 → A X b d MX13_readStatement 507 [(0, vR b), (1, vI (aI σ 6 ((sI σ 10) : Int32).toNatClampNeg)), (2, vI y5)] [] s53 Q))) ∧ (¬ y52 = 0 → ∃ e88 : Nat, e88 + 1 ≤ d ∧ AC X b e88 MX13_readTry [vR b] s53 (aTV Q fun  s91 => A X b d MX13_readStatement 526 [(0, vR b), (1, vI (aI σ 6 ((sI σ 10) : Int32).toNatClampNeg)), (2, vI y5)] [] s91 Q))))) ∧ (¬ y46 = 0 → ∃ e92 : Nat, e92 + 1 ≤ d ∧ AC X b e92 MX13_readEach [vR b, vI (aI σ 6 ((sI σ 10) : Int32).toNatClampNeg)] s47 (aTV Q fun  s95 => A X b d MX13_readStatement 526 [(0, vR b), (1, vI (aI σ 6 ((sI σ 10) : Int32).toNatClampNeg)), (2, vI y5)] [] s95 Q))))) ∧ (¬ y40 = 0 → ∀ s96 : Rm, s96 = wS s41 10 ((sI s41 10) + 1) → ∃ e97 : Nat, e97 + 1 ≤ d ∧ AC X b e97 MX13_readE [vR b] s96 (aTV Q fun  s100 => ∃ e101 : Nat, e101 + 1 ≤ d ∧ AC X b e101 MX13_mustSign [vR b, vI 59] s100 (aTV Q fun  s104 => ∃ e105 : Nat, e105 + 1 ≤ d ∧ AC X b e105 MX13_emit [vR b, vI 27, vI 0, vI 0] s104 (aRI fun y108 s109 => A X b d MX13_readStatement 526 [(0, vR b), (1, vI (aI σ 6 ((sI σ 10) : Int32).toNatClampNeg)), (2, vI y108)] [] s109 Q))))))) ∧ (¬ y34 = 0 → ∀ s110 : Rm, s110 = wS s35 10 ((sI s35 10) + 1) → ∃ e111 : Nat, e111 + 1 ≤ d ∧ AC X b e111 MX13_isSign [vR b, vI 59] s110 (aRI fun y114 s115 => ((y114 = 0 → ∃ e117 : Nat, e117 + 1 ≤ d ∧ AC X b e117 MX13_readE [vR b] s115 (aTV Q fun  s120 => A X b d MX13_readStatement 335 [(0, vR b), (1, vI (aI σ 6 ((sI σ 10) : Int32).toNatClampNeg)), (2, vI y5)] [] s120 Q)) ∧ (¬ y114 = 0 → ∃ e121 : Nat, e121 + 1 ≤ d ∧ AC X b e121 MX13_emit [vR b, vI 1, vI 0, vI 0] s115 (aRI fun y124 s125 => A X b d MX13_readStatement 335 [(0, vR b), (1, vI (aI σ 6 ((sI σ 10) : Int32).toNatClampNeg)), (2, vI y124)] [] s125 Q)))))))) ∧ (¬ y28 = 0 → ∀ s126 : Rm, s126 = wS s29 10 ((sI s29 10) + 1) → ∃ e127 : Nat, e127 + 1 ≤ d ∧ AC X b e127 MX13_mustNumber [vR b] s126 (aTI Q fun y130 s131 => ∃ e132 : Nat, e132 + 1 ≤ d ∧ AC X b e132 MX13_readE [vR b] s131 (aTV Q fun  s135 => ∃ e136 : Nat, e136 + 1 ≤ d ∧ AC X b e136 MX13_mustSign [vR b, vI 59] s135 (aTV Q fun  s139 => ∃ e140 : Nat, e140 + 1 ≤ d ∧ AC X b e140 MX13_emit [vR b, vI 25, vI (y130 - y130 / 10 * 10), vI ((sI s139 35) - 1)] s139 (aRI fun y143 s144 => A X b d MX13_readStatement 526 [(0, vR b), (1, vI (aI σ 6 ((sI σ 10) : Int32).toNatClampNeg)), (2, vI y143)] [] s144 Q)))))))) ∧ (¬ y22 = 0 → ∀ s145 : Rm, s145 = wS s23 10 ((sI s23 10) + 1) → ∃ e146 : Nat, e146 + 1 ≤ d ∧ AC X b e146 MX13_readTest [vR b] s145 (aTV Q fun  s149 => ∃ e150 : Nat, e150 + 1 ≤ d ∧ AC X b e150 MX13_emit [vR b, vI 24, vI 0, vI 0] s149 (aRI fun y153 s154 => ∃ e155 : Nat, e155 + 1 ≤ d ∧ AC X b e155 MX13_readBlock [vR b] s154 (aTV Q fun  s158 => ∃ e159 : Nat, e159 + 1 ≤ d ∧ AC X b e159 MX13_emit [vR b, vI 0, vI (aI σ 6 ((sI σ 10) : Int32).toNatClampNeg), vI 0] s158 (aRI fun y162 s163 => ∃ e164 : Nat, e164 + 1 ≤ d ∧ AC X b e164 MX13_emit [vR b, vI 23, vI (sI s145 17), vI 0] s163 (aRI fun y167 s168 => (vp_in y153 12000) ∧ ∀ s170 : Rm, s170 = wI s168 14 ((y153 : Int32).toNatClampNeg) (sI s168 17) → A X b d MX13_readStatement 526 [(0, vR b), (1, vI (aI σ 6 ((sI σ 10) : Int32).toNatClampNeg)), (2, vI y167)] [] s170 Q))))))))) ∧ (¬ y16 = 0 → ∀ s171 : Rm, s171 = wS s17 10 ((sI s17 10) + 1) → ∃ e172 : Nat, e172 + 1 ≤ d ∧ AC X b e172 MX13_readTest [vR b] s171 (aTV Q fun  s175 => ∃ e176 : Nat, e176 + 1 ≤ d ∧ AC X b e176 MX13_emit [vR b, vI 24, vI 0, vI 0] s175 (aRI fun y179 s180 => ∃ e181 : Nat, e181 + 1 ≤ d ∧ AC X b e181 MX13_readBlock [vR b] s180 (aTV Q fun  s184 => ∃ e185 : Nat, e185 + 1 ≤ d ∧ AC X b e185 MX13_isWord [vR b, vR 7] s184 (aRI fun y188 s189 => ((y188 = 0 → (vp_in y179 12000) ∧ ∀ s192 : Rm, s192 = wI s189 14 ((y179 : Int32).toNatClampNeg) (sI s189 17) → A X b d MX13_readStatement 162 [(0, vR b), (1, vI (aI σ 6 ((sI σ 10) : Int32).toNatClampNeg)), (2, vI y5), (3, vI y179)] [] s192 Q) ∧ (¬ y188 = 0 → ∀ s193 : Rm, s193 = wS s189 10 ((sI s189 10) + 1) → ∃ e194 : Nat, e194 + 1 ≤ d ∧ AC X b e194 MX13_emit [vR b, vI 23, vI 0, vI 0] s193 (aRI fun y197 s198 => (vp_in y179 12000) ∧ ∀ s200 : Rm, s200 = wI s198 14 ((y179 : Int32).toNatClampNeg) (sI s198 17) → ∃ e201 : Nat, e201 + 1 ≤ d ∧ AC X b e201 MX13_readBlock [vR b] s200 (aTV Q fun  s204 => (vp_in y197 12000) ∧ ∀ s206 : Rm, s206 = wI s204 14 ((y197 : Int32).toNatClampNeg) (sI s204 17) → A X b d MX13_readStatement 162 [(0, vR b), (1, vI (aI σ 6 ((sI σ 10) : Int32).toNatClampNeg)), (2, vI y5), (3, vI y179)] [] s206 Q)))))))))))) ∧ (¬ y10 = 0 → ∀ s207 : Rm, s207 = wS s11 10 ((sI s11 10) + 1) → ∃ e208 : Nat, e208 + 1 ≤ d ∧ AC X b e208 MX13_readE [vR b] s207 (aTV Q fun  s211 => ∃ e212 : Nat, e212 + 1 ≤ d ∧ AC X b e212 MX13_mustSign [vR b, vI 59] s211 (aTV Q fun  s215 => ∃ e216 : Nat, e216 + 1 ≤ d ∧ AC X b e216 MX13_emit [vR b, vI 21, vI 0, vI 0] s215 (aRI fun y219 s220 => A X b d MX13_readStatement 526 [(0, vR b), (1, vI (aI σ 6 ((sI σ 10) : Int32).toNatClampNeg)), (2, vI y219)] [] s220 Q)))))))) : A X b d MX13_readStatement 0 [(0, vR b)] [] σ Q := by
  refine A_p (fun T Q _ _ k => V_aload_n (pc2 := 1) (dk D_X13_readStatement 0 rfl) rfl (V_lg 0 rfl) rfl k) ?_
  refine A_ar (pc2 := 4) (a := 5) 6 (dk D_X13_readStatement 1 rfl) fl_13_27 (by decide) (by decide) rfl (fun _ => rfl) rfl ?_
  refine A_p (fun T Q _ _ k => V_aload_n (pc2 := 5) (dk D_X13_readStatement 2 rfl) rfl (V_lg 0 rfl) rfl k) ?_
  refine A_sc (pc2 := 8) 10 (dk D_X13_readStatement 3 rfl) fl_13_331 (by decide) rfl (fun _ => rfl) rfl ?_
  obtain ⟨h1, h⟩ := h
  refine A_ild (pc2 := 9) 6 (dk D_X13_readStatement 4 rfl) rfl (by decide) rfl (by decide) rfl rfl h1 ?_
  refine A_p (fun T Q _ _ k => V_istore_n (pc2 := 10) (lv2 := [(0, _), (1, _)]) (dk D_X13_readStatement 5 rfl) rfl (by decide) rfl rfl k) ?_
  refine A_p (fun T Q _ _ k => V_aload_n (pc2 := 11) (dk D_X13_readStatement 6 rfl) rfl (V_lg 0 rfl) rfl k) ?_
  refine A_p (fun T Q _ _ k => V_iconst (x := 0) (pc2 := 12) (dk D_X13_readStatement 7 rfl) (by decide) rfl k) ?_
  refine A_p (fun T Q _ _ k => V_iload_n (pc2 := 13) (dk D_X13_readStatement 8 rfl) rfl (V_lg 1 rfl) rfl k) ?_
  refine A_p (fun T Q _ _ k => V_iconst (x := 0) (pc2 := 14) (dk D_X13_readStatement 9 rfl) (by decide) rfl k) ?_
  obtain ⟨e2, he3, hc4⟩ := h
  refine A_call (st := []) (pc2 := 17) (fun T Q Qc L hc k => V_callV (as := [_, _, _]) (st := []) (M' := MX13_emit) (ci := 13) (pc2 := 17) (dk D_X13_readStatement 10 rfl) ml_13_373 mv_X13_emit rfl rfl (by decide) rfl (Nat.le_of_ble_eq_true rfl) rfl he3 L.2.1 hc k) hc4 (aRI.k fun y5 s6 h => ?_)
  refine A_p (fun T Q _ _ k => V_istore_n (pc2 := 18) (lv2 := [(0, _), (1, _), (2, _)]) (dk D_X13_readStatement 11 rfl) rfl (by decide) rfl rfl k) ?_
  refine A_p (fun T Q _ _ k => V_aload_n (pc2 := 19) (dk D_X13_readStatement 12 rfl) rfl (V_lg 0 rfl) rfl k) ?_
  refine A_p (fun T Q _ _ k => V_ldcs 12 (pc2 := 21) (dk D_X13_readStatement 13 rfl) rfl rfl k) ?_
  obtain ⟨e7, he8, hc9⟩ := h
  refine A_call (st := []) (pc2 := 24) (fun T Q Qc L hc k => V_callV (as := [_]) (st := []) (M' := MX13_isWord) (ci := 13) (pc2 := 24) (dk D_X13_readStatement 14 rfl) ml_13_341 mv_X13_isWord rfl rfl (by decide) rfl (Nat.le_of_ble_eq_true rfl) rfl he8 L.2.1 hc k) hc9 (aRI.k fun y10 s11 h => ?_)
  refine A_if (pa := 59) (pb := 27) (fun T Q k1 k2 => V_ifeq (tgt := 59) (pc2 := 27) (dk D_X13_readStatement 15 rfl) (by decide) rfl (fun q => k1 q) (fun q => k2 q)) (fun q12 => ?_) (fun q12 => ?_)
  · have h := h.1 q12
    refine A_p (fun T Q _ _ k => V_aload_n (pc2 := 60) (dk D_X13_readStatement 34 rfl) rfl (V_lg 0 rfl) rfl k) ?_
    refine A_p (fun T Q _ _ k => V_ldcs 4 (pc2 := 62) (dk D_X13_readStatement 35 rfl) rfl rfl k) ?_
    obtain ⟨e13, he14, hc15⟩ := h
    refine A_call (st := []) (pc2 := 65) (fun T Q Qc L hc k => V_callV (as := [_]) (st := []) (M' := MX13_isWord) (ci := 13) (pc2 := 65) (dk D_X13_readStatement 36 rfl) ml_13_341 mv_X13_isWord rfl rfl (by decide) rfl (Nat.le_of_ble_eq_true rfl) rfl he14 L.2.1 hc k) hc15 (aRI.k fun y16 s17 h => ?_)
    refine A_if (pa := 165) (pb := 68) (fun T Q k1 k2 => V_ifeq (tgt := 165) (pc2 := 68) (dk D_X13_readStatement 37 rfl) (by decide) rfl (fun q => k1 q) (fun q => k2 q)) (fun q18 => ?_) (fun q18 => ?_)
    · have h := h.1 q18
      refine A_p (fun T Q _ _ k => V_aload_n (pc2 := 166) (dk D_X13_readStatement 92 rfl) rfl (V_lg 0 rfl) rfl k) ?_
      refine A_p (fun T Q _ _ k => V_ldcs 6 (pc2 := 168) (dk D_X13_readStatement 93 rfl) rfl rfl k) ?_
      obtain ⟨e19, he20, hc21⟩ := h
      refine A_call (st := []) (pc2 := 171) (fun T Q Qc L hc k => V_callV (as := [_]) (st := []) (M' := MX13_isWord) (ci := 13) (pc2 := 171) (dk D_X13_readStatement 94 rfl) ml_13_341 mv_X13_isWord rfl rfl (by decide) rfl (Nat.le_of_ble_eq_true rfl) rfl he20 L.2.1 hc k) hc21 (aRI.k fun y22 s23 h => ?_)
      refine A_if (pa := 238) (pb := 174) (fun T Q k1 k2 => V_ifeq (tgt := 238) (pc2 := 174) (dk D_X13_readStatement 95 rfl) (by decide) rfl (fun q => k1 q) (fun q => k2 q)) (fun q24 => ?_) (fun q24 => ?_)
      · have h := h.1 q24
        refine A_p (fun T Q _ _ k => V_aload_n (pc2 := 239) (dk D_X13_readStatement 134 rfl) rfl (V_lg 0 rfl) rfl k) ?_
        refine A_p (fun T Q _ _ k => V_ldcs 10 (pc2 := 241) (dk D_X13_readStatement 135 rfl) rfl rfl k) ?_
        obtain ⟨e25, he26, hc27⟩ := h
        refine A_call (st := []) (pc2 := 244) (fun T Q Qc L hc k => V_callV (as := [_]) (st := []) (M' := MX13_isWord) (ci := 13) (pc2 := 244) (dk D_X13_readStatement 136 rfl) ml_13_341 mv_X13_isWord rfl rfl (by decide) rfl (Nat.le_of_ble_eq_true rfl) rfl he26 L.2.1 hc k) hc27 (aRI.k fun y28 s29 h => ?_)
        refine A_if (pa := 292) (pb := 247) (fun T Q k1 k2 => V_ifeq (tgt := 292) (pc2 := 247) (dk D_X13_readStatement 137 rfl) (by decide) rfl (fun q => k1 q) (fun q => k2 q)) (fun q30 => ?_) (fun q30 => ?_)
        · have h := h.1 q30
          refine A_p (fun T Q _ _ k => V_aload_n (pc2 := 293) (dk D_X13_readStatement 164 rfl) rfl (V_lg 0 rfl) rfl k) ?_
          refine A_p (fun T Q _ _ k => V_ldcs 11 (pc2 := 295) (dk D_X13_readStatement 165 rfl) rfl rfl k) ?_
          obtain ⟨e31, he32, hc33⟩ := h
          refine A_call (st := []) (pc2 := 298) (fun T Q Qc L hc k => V_callV (as := [_]) (st := []) (M' := MX13_isWord) (ci := 13) (pc2 := 298) (dk D_X13_readStatement 166 rfl) ml_13_341 mv_X13_isWord rfl rfl (by decide) rfl (Nat.le_of_ble_eq_true rfl) rfl he32 L.2.1 hc k) hc33 (aRI.k fun y34 s35 h => ?_)
          refine A_if (pa := 353) (pb := 301) (fun T Q k1 k2 => V_ifeq (tgt := 353) (pc2 := 301) (dk D_X13_readStatement 167 rfl) (by decide) rfl (fun q => k1 q) (fun q => k2 q)) (fun q36 => ?_) (fun q36 => ?_)
          · have h := h.1 q36
            refine A_p (fun T Q _ _ k => V_aload_n (pc2 := 354) (dk D_X13_readStatement 197 rfl) rfl (V_lg 0 rfl) rfl k) ?_
            refine A_p (fun T Q _ _ k => V_ldcs 17 (pc2 := 356) (dk D_X13_readStatement 198 rfl) rfl rfl k) ?_
            obtain ⟨e37, he38, hc39⟩ := h
            refine A_call (st := []) (pc2 := 359) (fun T Q Qc L hc k => V_callV (as := [_]) (st := []) (M' := MX13_isWord) (ci := 13) (pc2 := 359) (dk D_X13_readStatement 199 rfl) ml_13_341 mv_X13_isWord rfl rfl (by decide) rfl (Nat.le_of_ble_eq_true rfl) rfl he38 L.2.1 hc k) hc39 (aRI.k fun y40 s41 h => ?_)
            refine A_if (pa := 394) (pb := 362) (fun T Q k1 k2 => V_ifeq (tgt := 394) (pc2 := 362) (dk D_X13_readStatement 200 rfl) (by decide) rfl (fun q => k1 q) (fun q => k2 q)) (fun q42 => ?_) (fun q42 => ?_)
            · have h := h.1 q42
              refine A_p (fun T Q _ _ k => V_aload_n (pc2 := 395) (dk D_X13_readStatement 219 rfl) rfl (V_lg 0 rfl) rfl k) ?_
              refine A_p (fun T Q _ _ k => V_ldcs 23 (pc2 := 397) (dk D_X13_readStatement 220 rfl) rfl rfl k) ?_
              obtain ⟨e43, he44, hc45⟩ := h
              refine A_call (st := []) (pc2 := 400) (fun T Q Qc L hc k => V_callV (as := [_]) (st := []) (M' := MX13_isWord) (ci := 13) (pc2 := 400) (dk D_X13_readStatement 221 rfl) ml_13_341 mv_X13_isWord rfl rfl (by decide) rfl (Nat.le_of_ble_eq_true rfl) rfl he44 L.2.1 hc k) hc45 (aRI.k fun y46 s47 h => ?_)
              refine A_if (pa := 411) (pb := 403) (fun T Q k1 k2 => V_ifeq (tgt := 411) (pc2 := 403) (dk D_X13_readStatement 222 rfl) (by decide) rfl (fun q => k1 q) (fun q => k2 q)) (fun q48 => ?_) (fun q48 => ?_)
              · have h := h.1 q48
                refine A_p (fun T Q _ _ k => V_aload_n (pc2 := 412) (dk D_X13_readStatement 227 rfl) rfl (V_lg 0 rfl) rfl k) ?_
                refine A_p (fun T Q _ _ k => V_ldcs 7 (pc2 := 414) (dk D_X13_readStatement 228 rfl) rfl rfl k) ?_
                obtain ⟨e49, he50, hc51⟩ := h
                refine A_call (st := []) (pc2 := 417) (fun T Q Qc L hc k => V_callV (as := [_]) (st := []) (M' := MX13_isWord) (ci := 13) (pc2 := 417) (dk D_X13_readStatement 229 rfl) ml_13_341 mv_X13_isWord rfl rfl (by decide) rfl (Nat.le_of_ble_eq_true rfl) rfl he50 L.2.1 hc k) hc51 (aRI.k fun y52 s53 h => ?_)
                refine A_if (pa := 427) (pb := 420) (fun T Q k1 k2 => V_ifeq (tgt := 427) (pc2 := 420) (dk D_X13_readStatement 230 rfl) (by decide) rfl (fun q => k1 q) (fun q => k2 q)) (fun q54 => ?_) (fun q54 => ?_)
                · have h := h.1 q54
                  refine A_p (fun T Q _ _ k => V_aload_n (pc2 := 428) (dk D_X13_readStatement 234 rfl) rfl (V_lg 0 rfl) rfl k) ?_
                  refine A_ar (pc2 := 431) (a := 4) 5 (dk D_X13_readStatement 235 rfl) fl_13_23 (by decide) (by decide) rfl (fun _ => rfl) rfl ?_
                  refine A_p (fun T Q _ _ k => V_aload_n (pc2 := 432) (dk D_X13_readStatement 236 rfl) rfl (V_lg 0 rfl) rfl k) ?_
                  refine A_sc (pc2 := 435) 10 (dk D_X13_readStatement 237 rfl) fl_13_331 (by decide) rfl (fun _ => rfl) rfl ?_
                  obtain ⟨h55, h⟩ := h
                  refine A_ild (pc2 := 436) 5 (dk D_X13_readStatement 238 rfl) rfl (by decide) rfl (by decide) rfl rfl h55 ?_
                  refine A_p (fun T Q _ _ k => V_iconst (x := 1) (pc2 := 437) (dk D_X13_readStatement 239 rfl) (by decide) rfl k) ?_
                  refine A_if (pa := 440) (pb := 507) (fun T Q k1 k2 => V_cmpne (tgt := 507) (pc2 := 440) (dk D_X13_readStatement 240 rfl) (by decide) rfl (fun q => k2 q) (fun q => k1 q)) (fun q56 => ?_) (fun q56 => ?_)
                  · have h := h.1 q56
                    refine A_p (fun T Q _ _ k => V_aload_n (pc2 := 441) (dk D_X13_readStatement 241 rfl) rfl (V_lg 0 rfl) rfl k) ?_
                    refine A_ar (pc2 := 444) (a := 4) 5 (dk D_X13_readStatement 242 rfl) fl_13_23 (by decide) (by decide) rfl (fun _ => rfl) rfl ?_
                    refine A_p (fun T Q _ _ k => V_aload_n (pc2 := 445) (dk D_X13_readStatement 243 rfl) rfl (V_lg 0 rfl) rfl k) ?_
                    refine A_sc (pc2 := 448) 10 (dk D_X13_readStatement 244 rfl) fl_13_331 (by decide) rfl (fun _ => rfl) rfl ?_
                    refine A_p (fun T Q _ _ k => V_iconst (x := 1) (pc2 := 449) (dk D_X13_readStatement 245 rfl) (by decide) rfl k) ?_
                    refine A_p (fun T Q _ _ k => V_iadd (pc2 := 450) (dk D_X13_readStatement 246 rfl) rfl k) ?_
                    obtain ⟨h57, h⟩ := h
                    refine A_ild (pc2 := 451) 5 (dk D_X13_readStatement 247 rfl) rfl (by decide) rfl (by decide) rfl rfl h57 ?_
                    refine A_p (fun T Q _ _ k => V_iconst (x := 3) (pc2 := 452) (dk D_X13_readStatement 248 rfl) (by decide) rfl k) ?_
                    refine A_if (pa := 455) (pb := 507) (fun T Q k1 k2 => V_cmpne (tgt := 507) (pc2 := 455) (dk D_X13_readStatement 249 rfl) (by decide) rfl (fun q => k2 q) (fun q => k1 q)) (fun q58 => ?_) (fun q58 => ?_)
                    · have h := h.1 q58
                      refine A_p (fun T Q _ _ k => V_aload_n (pc2 := 456) (dk D_X13_readStatement 250 rfl) rfl (V_lg 0 rfl) rfl k) ?_
                      refine A_ar (pc2 := 459) (a := 7) 8 (dk D_X13_readStatement 251 rfl) fl_13_33 (by decide) (by decide) rfl (fun _ => rfl) rfl ?_
                      refine A_p (fun T Q _ _ k => V_aload_n (pc2 := 460) (dk D_X13_readStatement 252 rfl) rfl (V_lg 0 rfl) rfl k) ?_
                      refine A_sc (pc2 := 463) 10 (dk D_X13_readStatement 253 rfl) fl_13_331 (by decide) rfl (fun _ => rfl) rfl ?_
                      refine A_p (fun T Q _ _ k => V_iconst (x := 1) (pc2 := 464) (dk D_X13_readStatement 254 rfl) (by decide) rfl k) ?_
                      refine A_p (fun T Q _ _ k => V_iadd (pc2 := 465) (dk D_X13_readStatement 255 rfl) rfl k) ?_
                      obtain ⟨h59, h⟩ := h
                      refine A_ild (pc2 := 466) 8 (dk D_X13_readStatement 256 rfl) rfl (by decide) rfl (by decide) rfl rfl h59 ?_
                      refine A_p (fun T Q _ _ k => V_bipush (x := 61) (pc2 := 468) (dk D_X13_readStatement 257 rfl) (by decide) rfl k) ?_
                      refine A_if (pa := 471) (pb := 507) (fun T Q k1 k2 => V_cmpne (tgt := 507) (pc2 := 471) (dk D_X13_readStatement 258 rfl) (by decide) rfl (fun q => k2 q) (fun q => k1 q)) (fun q60 => ?_) (fun q60 => ?_)
                      · have h := h.1 q60
                        refine A_p (fun T Q _ _ k => V_aload_n (pc2 := 472) (dk D_X13_readStatement 259 rfl) rfl (V_lg 0 rfl) rfl k) ?_
                        refine A_p (fun T Q _ _ k => V_aload_n (pc2 := 473) (dk D_X13_readStatement 260 rfl) rfl (V_lg 0 rfl) rfl k) ?_
                        obtain ⟨e61, he62, hc63⟩ := h
                        refine A_callT (st := [_]) (pc2 := 476) (fun T Q Qc L hc k => V_callVT (as := []) (st := [_]) (M' := MX13_mustName) (ci := 13) (pc2 := 476) (dk D_X13_readStatement 261 rfl) ml_13_399 mv_X13_mustName rfl rfl (by decide) rfl (Nat.le_of_ble_eq_true rfl) rfl (by decide) he62 L.2.1 hc k) hc63 (aTI.k fun y64 s65 h => ?_)
                        obtain ⟨e66, he67, hc68⟩ := h
                        refine A_call (st := []) (pc2 := 479) (fun T Q Qc L hc k => V_callV (as := [_]) (st := []) (M' := MX13_variable) (ci := 13) (pc2 := 479) (dk D_X13_readStatement 262 rfl) ml_13_402 mv_X13_variable rfl rfl (by decide) rfl (Nat.le_of_ble_eq_true rfl) rfl he67 L.2.1 hc k) hc68 (aRI.k fun y69 s70 h => ?_)
                        refine A_p (fun T Q _ _ k => V_istore_n (pc2 := 480) (lv2 := [(0, _), (1, _), (2, _), (3, _)]) (dk D_X13_readStatement 263 rfl) rfl (by decide) rfl rfl k) ?_
                        refine A_p (fun T Q _ _ k => V_aload_n (pc2 := 481) (dk D_X13_readStatement 264 rfl) rfl (V_lg 0 rfl) rfl k) ?_
                        refine A_p (fun T Q _ _ k => V_bipush (x := 61) (pc2 := 483) (dk D_X13_readStatement 265 rfl) (by decide) rfl k) ?_
                        obtain ⟨e71, he72, hc73⟩ := h
                        refine A_callT (st := []) (pc2 := 486) (fun T Q Qc L hc k => V_callVT (as := [_]) (st := []) (M' := MX13_mustSign) (ci := 13) (pc2 := 486) (dk D_X13_readStatement 266 rfl) ml_13_348 mv_X13_mustSign rfl rfl (by decide) rfl (Nat.le_of_ble_eq_true rfl) rfl (by decide) he72 L.2.1 hc k) hc73 (aTV.k fun  s74 h => ?_)
                        refine A_p (fun T Q _ _ k => V_aload_n (pc2 := 487) (dk D_X13_readStatement 267 rfl) rfl (V_lg 0 rfl) rfl k) ?_
                        obtain ⟨e75, he76, hc77⟩ := h
                        refine A_callT (st := []) (pc2 := 490) (fun T Q Qc L hc k => V_callST (as := [_]) (st := []) (M' := MX13_readE) (pc2 := 490) (dk D_X13_readStatement 268 rfl) ml_13_377 mv_X13_readE rfl rfl (Nat.le_of_ble_eq_true rfl) rfl (by decide) he76 hc k) hc77 (aTV.k fun  s78 h => ?_)
                        refine A_p (fun T Q _ _ k => V_aload_n (pc2 := 491) (dk D_X13_readStatement 269 rfl) rfl (V_lg 0 rfl) rfl k) ?_
                        refine A_p (fun T Q _ _ k => V_bipush (x := 59) (pc2 := 493) (dk D_X13_readStatement 270 rfl) (by decide) rfl k) ?_
                        obtain ⟨e79, he80, hc81⟩ := h
                        refine A_callT (st := []) (pc2 := 496) (fun T Q Qc L hc k => V_callVT (as := [_]) (st := []) (M' := MX13_mustSign) (ci := 13) (pc2 := 496) (dk D_X13_readStatement 271 rfl) ml_13_348 mv_X13_mustSign rfl rfl (by decide) rfl (Nat.le_of_ble_eq_true rfl) rfl (by decide) he80 L.2.1 hc k) hc81 (aTV.k fun  s82 h => ?_)
                        refine A_p (fun T Q _ _ k => V_aload_n (pc2 := 497) (dk D_X13_readStatement 272 rfl) rfl (V_lg 0 rfl) rfl k) ?_
                        refine A_p (fun T Q _ _ k => V_iconst (x := 3) (pc2 := 498) (dk D_X13_readStatement 273 rfl) (by decide) rfl k) ?_
                        refine A_p (fun T Q _ _ k => V_iload_n (pc2 := 499) (dk D_X13_readStatement 274 rfl) rfl (V_lg 3 rfl) rfl k) ?_
                        refine A_p (fun T Q _ _ k => V_iconst (x := 0) (pc2 := 500) (dk D_X13_readStatement 275 rfl) (by decide) rfl k) ?_
                        obtain ⟨e83, he84, hc85⟩ := h
                        refine A_call (st := []) (pc2 := 503) (fun T Q Qc L hc k => V_callV (as := [_, _, _]) (st := []) (M' := MX13_emit) (ci := 13) (pc2 := 503) (dk D_X13_readStatement 276 rfl) ml_13_373 mv_X13_emit rfl rfl (by decide) rfl (Nat.le_of_ble_eq_true rfl) rfl he84 L.2.1 hc k) hc85 (aRI.k fun y86 s87 h => ?_)
                        refine A_p (fun T Q _ _ k => V_istore_n (pc2 := 504) (lv2 := [(0, _), (1, _), (2, _), (3, _)]) (dk D_X13_readStatement 277 rfl) rfl (by decide) rfl rfl k) ?_
                        refine A_p (fun T Q _ _ k => V_goto (tgt := 526) (dk D_X13_readStatement 278 rfl) (by decide) k) ?_
                        refine A_p (fun T Q _ _ k => V_pick [0, 1, 2] (lv2 := [(0, _), (1, _), (2, _)]) rfl k) ?_
                        exact h
                      · have h := h.2 q60
                        exact h
                    · have h := h.2 q58
                      exact h
                  · have h := h.2 q56
                    exact h
                · have h := h.2 q54
                  refine A_p (fun T Q _ _ k => V_aload_n (pc2 := 421) (dk D_X13_readStatement 231 rfl) rfl (V_lg 0 rfl) rfl k) ?_
                  obtain ⟨e88, he89, hc90⟩ := h
                  refine A_callT (st := []) (pc2 := 424) (fun T Q Qc L hc k => V_callST (as := [_]) (st := []) (M' := MX13_readTry) (pc2 := 424) (dk D_X13_readStatement 232 rfl) ml_13_396 mv_X13_readTry rfl rfl (Nat.le_of_ble_eq_true rfl) rfl (by decide) he89 hc k) hc90 (aTV.k fun  s91 h => ?_)
                  refine A_p (fun T Q _ _ k => V_goto (tgt := 526) (dk D_X13_readStatement 233 rfl) (by decide) k) ?_
                  exact h
              · have h := h.2 q48
                refine A_p (fun T Q _ _ k => V_aload_n (pc2 := 404) (dk D_X13_readStatement 223 rfl) rfl (V_lg 0 rfl) rfl k) ?_
                refine A_p (fun T Q _ _ k => V_iload_n (pc2 := 405) (dk D_X13_readStatement 224 rfl) rfl (V_lg 1 rfl) rfl k) ?_
                obtain ⟨e92, he93, hc94⟩ := h
                refine A_callT (st := []) (pc2 := 408) (fun T Q Qc L hc k => V_callST (as := [_, _]) (st := []) (M' := MX13_readEach) (pc2 := 408) (dk D_X13_readStatement 225 rfl) ml_13_392 mv_X13_readEach rfl rfl (Nat.le_of_ble_eq_true rfl) rfl (by decide) he93 hc k) hc94 (aTV.k fun  s95 h => ?_)
                refine A_p (fun T Q _ _ k => V_goto (tgt := 526) (dk D_X13_readStatement 226 rfl) (by decide) k) ?_
                exact h
            · have h := h.2 q42
              refine A_p (fun T Q _ _ k => V_aload_n (pc2 := 363) (dk D_X13_readStatement 201 rfl) rfl (V_lg 0 rfl) rfl k) ?_
              refine A_p (fun T Q _ _ k => V_dup (pc2 := 364) (dk D_X13_readStatement 202 rfl) rfl rfl k) ?_
              refine A_sc (pc2 := 367) 10 (dk D_X13_readStatement 203 rfl) fl_13_331 (by decide) rfl (fun _ => rfl) rfl ?_
              refine A_p (fun T Q _ _ k => V_iconst (x := 1) (pc2 := 368) (dk D_X13_readStatement 204 rfl) (by decide) rfl k) ?_
              refine A_p (fun T Q _ _ k => V_iadd (pc2 := 369) (dk D_X13_readStatement 205 rfl) rfl k) ?_
              refine A_put (pc2 := 372) 10 (dk D_X13_readStatement 206 rfl) fl_13_331 (by decide) rfl rfl rfl rfl ?_
              have h := h _ rfl
              refine A_p (fun T Q _ _ k => V_aload_n (pc2 := 373) (dk D_X13_readStatement 207 rfl) rfl (V_lg 0 rfl) rfl k) ?_
              obtain ⟨e97, he98, hc99⟩ := h
              refine A_callT (st := []) (pc2 := 376) (fun T Q Qc L hc k => V_callST (as := [_]) (st := []) (M' := MX13_readE) (pc2 := 376) (dk D_X13_readStatement 208 rfl) ml_13_377 mv_X13_readE rfl rfl (Nat.le_of_ble_eq_true rfl) rfl (by decide) he98 hc k) hc99 (aTV.k fun  s100 h => ?_)
              refine A_p (fun T Q _ _ k => V_aload_n (pc2 := 377) (dk D_X13_readStatement 209 rfl) rfl (V_lg 0 rfl) rfl k) ?_
              refine A_p (fun T Q _ _ k => V_bipush (x := 59) (pc2 := 379) (dk D_X13_readStatement 210 rfl) (by decide) rfl k) ?_
              obtain ⟨e101, he102, hc103⟩ := h
              refine A_callT (st := []) (pc2 := 382) (fun T Q Qc L hc k => V_callVT (as := [_]) (st := []) (M' := MX13_mustSign) (ci := 13) (pc2 := 382) (dk D_X13_readStatement 211 rfl) ml_13_348 mv_X13_mustSign rfl rfl (by decide) rfl (Nat.le_of_ble_eq_true rfl) rfl (by decide) he102 L.2.1 hc k) hc103 (aTV.k fun  s104 h => ?_)
              refine A_p (fun T Q _ _ k => V_aload_n (pc2 := 383) (dk D_X13_readStatement 212 rfl) rfl (V_lg 0 rfl) rfl k) ?_
              refine A_p (fun T Q _ _ k => V_bipush (x := 27) (pc2 := 385) (dk D_X13_readStatement 213 rfl) (by decide) rfl k) ?_
              refine A_p (fun T Q _ _ k => V_iconst (x := 0) (pc2 := 386) (dk D_X13_readStatement 214 rfl) (by decide) rfl k) ?_
              refine A_p (fun T Q _ _ k => V_iconst (x := 0) (pc2 := 387) (dk D_X13_readStatement 215 rfl) (by decide) rfl k) ?_
              obtain ⟨e105, he106, hc107⟩ := h
              refine A_call (st := []) (pc2 := 390) (fun T Q Qc L hc k => V_callV (as := [_, _, _]) (st := []) (M' := MX13_emit) (ci := 13) (pc2 := 390) (dk D_X13_readStatement 216 rfl) ml_13_373 mv_X13_emit rfl rfl (by decide) rfl (Nat.le_of_ble_eq_true rfl) rfl he106 L.2.1 hc k) hc107 (aRI.k fun y108 s109 h => ?_)
              refine A_p (fun T Q _ _ k => V_istore_n (pc2 := 391) (lv2 := [(0, _), (1, _), (2, _)]) (dk D_X13_readStatement 217 rfl) rfl (by decide) rfl rfl k) ?_
              refine A_p (fun T Q _ _ k => V_goto (tgt := 526) (dk D_X13_readStatement 218 rfl) (by decide) k) ?_
              exact h
          · have h := h.2 q36
            refine A_p (fun T Q _ _ k => V_aload_n (pc2 := 302) (dk D_X13_readStatement 168 rfl) rfl (V_lg 0 rfl) rfl k) ?_
            refine A_p (fun T Q _ _ k => V_dup (pc2 := 303) (dk D_X13_readStatement 169 rfl) rfl rfl k) ?_
            refine A_sc (pc2 := 306) 10 (dk D_X13_readStatement 170 rfl) fl_13_331 (by decide) rfl (fun _ => rfl) rfl ?_
            refine A_p (fun T Q _ _ k => V_iconst (x := 1) (pc2 := 307) (dk D_X13_readStatement 171 rfl) (by decide) rfl k) ?_
            refine A_p (fun T Q _ _ k => V_iadd (pc2 := 308) (dk D_X13_readStatement 172 rfl) rfl k) ?_
            refine A_put (pc2 := 311) 10 (dk D_X13_readStatement 173 rfl) fl_13_331 (by decide) rfl rfl rfl rfl ?_
            have h := h _ rfl
            refine A_p (fun T Q _ _ k => V_aload_n (pc2 := 312) (dk D_X13_readStatement 174 rfl) rfl (V_lg 0 rfl) rfl k) ?_
            refine A_p (fun T Q _ _ k => V_bipush (x := 59) (pc2 := 314) (dk D_X13_readStatement 175 rfl) (by decide) rfl k) ?_
            obtain ⟨e111, he112, hc113⟩ := h
            refine A_call (st := []) (pc2 := 317) (fun T Q Qc L hc k => V_callV (as := [_]) (st := []) (M' := MX13_isSign) (ci := 13) (pc2 := 317) (dk D_X13_readStatement 176 rfl) ml_13_334 mv_X13_isSign rfl rfl (by decide) rfl (Nat.le_of_ble_eq_true rfl) rfl he112 L.2.1 hc k) hc113 (aRI.k fun y114 s115 h => ?_)
            refine A_if (pa := 331) (pb := 320) (fun T Q k1 k2 => V_ifeq (tgt := 331) (pc2 := 320) (dk D_X13_readStatement 177 rfl) (by decide) rfl (fun q => k1 q) (fun q => k2 q)) (fun q116 => ?_) (fun q116 => ?_)
            · have h := h.1 q116
              refine A_p (fun T Q _ _ k => V_aload_n (pc2 := 332) (dk D_X13_readStatement 185 rfl) rfl (V_lg 0 rfl) rfl k) ?_
              obtain ⟨e117, he118, hc119⟩ := h
              refine A_callT (st := []) (pc2 := 335) (fun T Q Qc L hc k => V_callST (as := [_]) (st := []) (M' := MX13_readE) (pc2 := 335) (dk D_X13_readStatement 186 rfl) ml_13_377 mv_X13_readE rfl rfl (Nat.le_of_ble_eq_true rfl) rfl (by decide) he118 hc k) hc119 (aTV.k fun  s120 h => ?_)
              exact h
            · have h := h.2 q116
              refine A_p (fun T Q _ _ k => V_aload_n (pc2 := 321) (dk D_X13_readStatement 178 rfl) rfl (V_lg 0 rfl) rfl k) ?_
              refine A_p (fun T Q _ _ k => V_iconst (x := 1) (pc2 := 322) (dk D_X13_readStatement 179 rfl) (by decide) rfl k) ?_
              refine A_p (fun T Q _ _ k => V_iconst (x := 0) (pc2 := 323) (dk D_X13_readStatement 180 rfl) (by decide) rfl k) ?_
              refine A_p (fun T Q _ _ k => V_iconst (x := 0) (pc2 := 324) (dk D_X13_readStatement 181 rfl) (by decide) rfl k) ?_
              obtain ⟨e121, he122, hc123⟩ := h
              refine A_call (st := []) (pc2 := 327) (fun T Q Qc L hc k => V_callV (as := [_, _, _]) (st := []) (M' := MX13_emit) (ci := 13) (pc2 := 327) (dk D_X13_readStatement 182 rfl) ml_13_373 mv_X13_emit rfl rfl (by decide) rfl (Nat.le_of_ble_eq_true rfl) rfl he122 L.2.1 hc k) hc123 (aRI.k fun y124 s125 h => ?_)
              refine A_p (fun T Q _ _ k => V_istore_n (pc2 := 328) (lv2 := [(0, _), (1, _), (2, _)]) (dk D_X13_readStatement 183 rfl) rfl (by decide) rfl rfl k) ?_
              refine A_p (fun T Q _ _ k => V_goto (tgt := 335) (dk D_X13_readStatement 184 rfl) (by decide) k) ?_
              exact h
        · have h := h.2 q30
          refine A_p (fun T Q _ _ k => V_aload_n (pc2 := 248) (dk D_X13_readStatement 138 rfl) rfl (V_lg 0 rfl) rfl k) ?_
          refine A_p (fun T Q _ _ k => V_dup (pc2 := 249) (dk D_X13_readStatement 139 rfl) rfl rfl k) ?_
          refine A_sc (pc2 := 252) 10 (dk D_X13_readStatement 140 rfl) fl_13_331 (by decide) rfl (fun _ => rfl) rfl ?_
          refine A_p (fun T Q _ _ k => V_iconst (x := 1) (pc2 := 253) (dk D_X13_readStatement 141 rfl) (by decide) rfl k) ?_
          refine A_p (fun T Q _ _ k => V_iadd (pc2 := 254) (dk D_X13_readStatement 142 rfl) rfl k) ?_
          refine A_put (pc2 := 257) 10 (dk D_X13_readStatement 143 rfl) fl_13_331 (by decide) rfl rfl rfl rfl ?_
          have h := h _ rfl
          refine A_p (fun T Q _ _ k => V_aload_n (pc2 := 258) (dk D_X13_readStatement 144 rfl) rfl (V_lg 0 rfl) rfl k) ?_
          obtain ⟨e127, he128, hc129⟩ := h
          refine A_callT (st := []) (pc2 := 261) (fun T Q Qc L hc k => V_callVT (as := []) (st := []) (M' := MX13_mustNumber) (ci := 13) (pc2 := 261) (dk D_X13_readStatement 145 rfl) ml_13_386 mv_X13_mustNumber rfl rfl (by decide) rfl (Nat.le_of_ble_eq_true rfl) rfl (by decide) he128 L.2.1 hc k) hc129 (aTI.k fun y130 s131 h => ?_)
          refine A_p (fun T Q _ _ k => V_istore_n (pc2 := 262) (lv2 := [(0, _), (1, _), (2, _), (3, _)]) (dk D_X13_readStatement 146 rfl) rfl (by decide) rfl rfl k) ?_
          refine A_p (fun T Q _ _ k => V_aload_n (pc2 := 263) (dk D_X13_readStatement 147 rfl) rfl (V_lg 0 rfl) rfl k) ?_
          obtain ⟨e132, he133, hc134⟩ := h
          refine A_callT (st := []) (pc2 := 266) (fun T Q Qc L hc k => V_callST (as := [_]) (st := []) (M' := MX13_readE) (pc2 := 266) (dk D_X13_readStatement 148 rfl) ml_13_377 mv_X13_readE rfl rfl (Nat.le_of_ble_eq_true rfl) rfl (by decide) he133 hc k) hc134 (aTV.k fun  s135 h => ?_)
          refine A_p (fun T Q _ _ k => V_aload_n (pc2 := 267) (dk D_X13_readStatement 149 rfl) rfl (V_lg 0 rfl) rfl k) ?_
          refine A_p (fun T Q _ _ k => V_bipush (x := 59) (pc2 := 269) (dk D_X13_readStatement 150 rfl) (by decide) rfl k) ?_
          obtain ⟨e136, he137, hc138⟩ := h
          refine A_callT (st := []) (pc2 := 272) (fun T Q Qc L hc k => V_callVT (as := [_]) (st := []) (M' := MX13_mustSign) (ci := 13) (pc2 := 272) (dk D_X13_readStatement 151 rfl) ml_13_348 mv_X13_mustSign rfl rfl (by decide) rfl (Nat.le_of_ble_eq_true rfl) rfl (by decide) he137 L.2.1 hc k) hc138 (aTV.k fun  s139 h => ?_)
          refine A_p (fun T Q _ _ k => V_aload_n (pc2 := 273) (dk D_X13_readStatement 152 rfl) rfl (V_lg 0 rfl) rfl k) ?_
          refine A_p (fun T Q _ _ k => V_bipush (x := 25) (pc2 := 275) (dk D_X13_readStatement 153 rfl) (by decide) rfl k) ?_
          refine A_p (fun T Q _ _ k => V_iload_n (pc2 := 276) (dk D_X13_readStatement 154 rfl) rfl (V_lg 3 rfl) rfl k) ?_
          refine A_p (fun T Q _ _ k => V_bipush (x := 10) (pc2 := 278) (dk D_X13_readStatement 155 rfl) (by decide) rfl k) ?_
          refine A_p (fun T Q _ _ k => V_irem (pc2 := 279) (dk D_X13_readStatement 156 rfl) rfl (by decide) k) ?_
          refine A_p (fun T Q _ _ k => V_aload_n (pc2 := 280) (dk D_X13_readStatement 157 rfl) rfl (V_lg 0 rfl) rfl k) ?_
          refine A_sc (pc2 := 283) 35 (dk D_X13_readStatement 158 rfl) fl_13_389 (by decide) rfl (fun _ => rfl) rfl ?_
          refine A_p (fun T Q _ _ k => V_iconst (x := 1) (pc2 := 284) (dk D_X13_readStatement 159 rfl) (by decide) rfl k) ?_
          refine A_p (fun T Q _ _ k => V_isub (pc2 := 285) (dk D_X13_readStatement 160 rfl) rfl k) ?_
          obtain ⟨e140, he141, hc142⟩ := h
          refine A_call (st := []) (pc2 := 288) (fun T Q Qc L hc k => V_callV (as := [_, _, _]) (st := []) (M' := MX13_emit) (ci := 13) (pc2 := 288) (dk D_X13_readStatement 161 rfl) ml_13_373 mv_X13_emit rfl rfl (by decide) rfl (Nat.le_of_ble_eq_true rfl) rfl he141 L.2.1 hc k) hc142 (aRI.k fun y143 s144 h => ?_)
          refine A_p (fun T Q _ _ k => V_istore_n (pc2 := 289) (lv2 := [(0, _), (1, _), (2, _), (3, _)]) (dk D_X13_readStatement 162 rfl) rfl (by decide) rfl rfl k) ?_
          refine A_p (fun T Q _ _ k => V_goto (tgt := 526) (dk D_X13_readStatement 163 rfl) (by decide) k) ?_
          refine A_p (fun T Q _ _ k => V_pick [0, 1, 2] (lv2 := [(0, _), (1, _), (2, _)]) rfl k) ?_
          exact h
      · have h := h.2 q24
        refine A_p (fun T Q _ _ k => V_aload_n (pc2 := 175) (dk D_X13_readStatement 96 rfl) rfl (V_lg 0 rfl) rfl k) ?_
        refine A_p (fun T Q _ _ k => V_dup (pc2 := 176) (dk D_X13_readStatement 97 rfl) rfl rfl k) ?_
        refine A_sc (pc2 := 179) 10 (dk D_X13_readStatement 98 rfl) fl_13_331 (by decide) rfl (fun _ => rfl) rfl ?_
        refine A_p (fun T Q _ _ k => V_iconst (x := 1) (pc2 := 180) (dk D_X13_readStatement 99 rfl) (by decide) rfl k) ?_
        refine A_p (fun T Q _ _ k => V_iadd (pc2 := 181) (dk D_X13_readStatement 100 rfl) rfl k) ?_
        refine A_put (pc2 := 184) 10 (dk D_X13_readStatement 101 rfl) fl_13_331 (by decide) rfl rfl rfl rfl ?_
        have h := h _ rfl
        refine A_p (fun T Q _ _ k => V_aload_n (pc2 := 185) (dk D_X13_readStatement 102 rfl) rfl (V_lg 0 rfl) rfl k) ?_
        refine A_sc (pc2 := 188) 17 (dk D_X13_readStatement 103 rfl) fl_13_351 (by decide) rfl (fun _ => rfl) rfl ?_
        refine A_p (fun T Q _ _ k => V_istore_n (pc2 := 189) (lv2 := [(0, _), (1, _), (2, _), (3, _)]) (dk D_X13_readStatement 104 rfl) rfl (by decide) rfl rfl k) ?_
        refine A_p (fun T Q _ _ k => V_aload_n (pc2 := 190) (dk D_X13_readStatement 105 rfl) rfl (V_lg 0 rfl) rfl k) ?_
        obtain ⟨e146, he147, hc148⟩ := h
        refine A_callT (st := []) (pc2 := 193) (fun T Q Qc L hc k => V_callST (as := [_]) (st := []) (M' := MX13_readTest) (pc2 := 193) (dk D_X13_readStatement 106 rfl) ml_13_380 mv_X13_readTest rfl rfl (Nat.le_of_ble_eq_true rfl) rfl (by decide) he147 hc k) hc148 (aTV.k fun  s149 h => ?_)
        refine A_p (fun T Q _ _ k => V_aload_n (pc2 := 194) (dk D_X13_readStatement 107 rfl) rfl (V_lg 0 rfl) rfl k) ?_
        refine A_p (fun T Q _ _ k => V_bipush (x := 24) (pc2 := 196) (dk D_X13_readStatement 108 rfl) (by decide) rfl k) ?_
        refine A_p (fun T Q _ _ k => V_iconst (x := 0) (pc2 := 197) (dk D_X13_readStatement 109 rfl) (by decide) rfl k) ?_
        refine A_p (fun T Q _ _ k => V_iconst (x := 0) (pc2 := 198) (dk D_X13_readStatement 110 rfl) (by decide) rfl k) ?_
        obtain ⟨e150, he151, hc152⟩ := h
        refine A_call (st := []) (pc2 := 201) (fun T Q Qc L hc k => V_callV (as := [_, _, _]) (st := []) (M' := MX13_emit) (ci := 13) (pc2 := 201) (dk D_X13_readStatement 111 rfl) ml_13_373 mv_X13_emit rfl rfl (by decide) rfl (Nat.le_of_ble_eq_true rfl) rfl he151 L.2.1 hc k) hc152 (aRI.k fun y153 s154 h => ?_)
        refine A_p (fun T Q _ _ k => V_istore (pc2 := 203) (lv2 := [(0, _), (1, _), (2, _), (3, _), (4, _)]) (dk D_X13_readStatement 112 rfl) (by decide) rfl rfl k) ?_
        refine A_p (fun T Q _ _ k => V_aload_n (pc2 := 204) (dk D_X13_readStatement 113 rfl) rfl (V_lg 0 rfl) rfl k) ?_
        obtain ⟨e155, he156, hc157⟩ := h
        refine A_callT (st := []) (pc2 := 207) (fun T Q Qc L hc k => V_callST (as := [_]) (st := []) (M' := MX13_readBlock) (pc2 := 207) (dk D_X13_readStatement 114 rfl) ml_13_383 mv_X13_readBlock rfl rfl (Nat.le_of_ble_eq_true rfl) rfl (by decide) he156 hc k) hc157 (aTV.k fun  s158 h => ?_)
        refine A_p (fun T Q _ _ k => V_aload_n (pc2 := 208) (dk D_X13_readStatement 115 rfl) rfl (V_lg 0 rfl) rfl k) ?_
        refine A_p (fun T Q _ _ k => V_iconst (x := 0) (pc2 := 209) (dk D_X13_readStatement 116 rfl) (by decide) rfl k) ?_
        refine A_p (fun T Q _ _ k => V_iload_n (pc2 := 210) (dk D_X13_readStatement 117 rfl) rfl (V_lg 1 rfl) rfl k) ?_
        refine A_p (fun T Q _ _ k => V_iconst (x := 0) (pc2 := 211) (dk D_X13_readStatement 118 rfl) (by decide) rfl k) ?_
        obtain ⟨e159, he160, hc161⟩ := h
        refine A_call (st := []) (pc2 := 214) (fun T Q Qc L hc k => V_callV (as := [_, _, _]) (st := []) (M' := MX13_emit) (ci := 13) (pc2 := 214) (dk D_X13_readStatement 119 rfl) ml_13_373 mv_X13_emit rfl rfl (by decide) rfl (Nat.le_of_ble_eq_true rfl) rfl he160 L.2.1 hc k) hc161 (aRI.k fun y162 s163 h => ?_)
        refine A_p (fun T Q _ _ k => V_istore_n (pc2 := 215) (lv2 := [(0, _), (1, _), (2, _), (3, _), (4, _)]) (dk D_X13_readStatement 120 rfl) rfl (by decide) rfl rfl k) ?_
        refine A_p (fun T Q _ _ k => V_aload_n (pc2 := 216) (dk D_X13_readStatement 121 rfl) rfl (V_lg 0 rfl) rfl k) ?_
        refine A_p (fun T Q _ _ k => V_bipush (x := 23) (pc2 := 218) (dk D_X13_readStatement 122 rfl) (by decide) rfl k) ?_
        refine A_p (fun T Q _ _ k => V_iload_n (pc2 := 219) (dk D_X13_readStatement 123 rfl) rfl (V_lg 3 rfl) rfl k) ?_
        refine A_p (fun T Q _ _ k => V_iconst (x := 0) (pc2 := 220) (dk D_X13_readStatement 124 rfl) (by decide) rfl k) ?_
        obtain ⟨e164, he165, hc166⟩ := h
        refine A_call (st := []) (pc2 := 223) (fun T Q Qc L hc k => V_callV (as := [_, _, _]) (st := []) (M' := MX13_emit) (ci := 13) (pc2 := 223) (dk D_X13_readStatement 125 rfl) ml_13_373 mv_X13_emit rfl rfl (by decide) rfl (Nat.le_of_ble_eq_true rfl) rfl he165 L.2.1 hc k) hc166 (aRI.k fun y167 s168 h => ?_)
        refine A_p (fun T Q _ _ k => V_istore_n (pc2 := 224) (lv2 := [(0, _), (1, _), (2, _), (3, _), (4, _)]) (dk D_X13_readStatement 126 rfl) rfl (by decide) rfl rfl k) ?_
        refine A_p (fun T Q _ _ k => V_aload_n (pc2 := 225) (dk D_X13_readStatement 127 rfl) rfl (V_lg 0 rfl) rfl k) ?_
        refine A_ar (pc2 := 228) (a := 11) 14 (dk D_X13_readStatement 128 rfl) fl_13_95 (by decide) (by decide) rfl (fun _ => rfl) rfl ?_
        refine A_p (fun T Q _ _ k => V_iload (pc2 := 230) (dk D_X13_readStatement 129 rfl) (V_lg 4 rfl) rfl k) ?_
        refine A_p (fun T Q _ _ k => V_aload_n (pc2 := 231) (dk D_X13_readStatement 130 rfl) rfl (V_lg 0 rfl) rfl k) ?_
        refine A_sc (pc2 := 234) 17 (dk D_X13_readStatement 131 rfl) fl_13_351 (by decide) rfl (fun _ => rfl) rfl ?_
        obtain ⟨h169, h⟩ := h
        refine A_ist (pc2 := 235) 14 (dk D_X13_readStatement 132 rfl) rfl (by decide) rfl (by decide) rfl rfl h169 ?_
        have h := h _ rfl
        refine A_p (fun T Q _ _ k => V_goto (tgt := 526) (dk D_X13_readStatement 133 rfl) (by decide) k) ?_
        refine A_p (fun T Q _ _ k => V_pick [0, 1, 2] (lv2 := [(0, _), (1, _), (2, _)]) rfl k) ?_
        exact h
    · have h := h.2 q18
      refine A_p (fun T Q _ _ k => V_aload_n (pc2 := 69) (dk D_X13_readStatement 38 rfl) rfl (V_lg 0 rfl) rfl k) ?_
      refine A_p (fun T Q _ _ k => V_dup (pc2 := 70) (dk D_X13_readStatement 39 rfl) rfl rfl k) ?_
      refine A_sc (pc2 := 73) 10 (dk D_X13_readStatement 40 rfl) fl_13_331 (by decide) rfl (fun _ => rfl) rfl ?_
      refine A_p (fun T Q _ _ k => V_iconst (x := 1) (pc2 := 74) (dk D_X13_readStatement 41 rfl) (by decide) rfl k) ?_
      refine A_p (fun T Q _ _ k => V_iadd (pc2 := 75) (dk D_X13_readStatement 42 rfl) rfl k) ?_
      refine A_put (pc2 := 78) 10 (dk D_X13_readStatement 43 rfl) fl_13_331 (by decide) rfl rfl rfl rfl ?_
      have h := h _ rfl
      refine A_p (fun T Q _ _ k => V_aload_n (pc2 := 79) (dk D_X13_readStatement 44 rfl) rfl (V_lg 0 rfl) rfl k) ?_
      obtain ⟨e172, he173, hc174⟩ := h
      refine A_callT (st := []) (pc2 := 82) (fun T Q Qc L hc k => V_callST (as := [_]) (st := []) (M' := MX13_readTest) (pc2 := 82) (dk D_X13_readStatement 45 rfl) ml_13_380 mv_X13_readTest rfl rfl (Nat.le_of_ble_eq_true rfl) rfl (by decide) he173 hc k) hc174 (aTV.k fun  s175 h => ?_)
      refine A_p (fun T Q _ _ k => V_aload_n (pc2 := 83) (dk D_X13_readStatement 46 rfl) rfl (V_lg 0 rfl) rfl k) ?_
      refine A_p (fun T Q _ _ k => V_bipush (x := 24) (pc2 := 85) (dk D_X13_readStatement 47 rfl) (by decide) rfl k) ?_
      refine A_p (fun T Q _ _ k => V_iconst (x := 0) (pc2 := 86) (dk D_X13_readStatement 48 rfl) (by decide) rfl k) ?_
      refine A_p (fun T Q _ _ k => V_iconst (x := 0) (pc2 := 87) (dk D_X13_readStatement 49 rfl) (by decide) rfl k) ?_
      obtain ⟨e176, he177, hc178⟩ := h
      refine A_call (st := []) (pc2 := 90) (fun T Q Qc L hc k => V_callV (as := [_, _, _]) (st := []) (M' := MX13_emit) (ci := 13) (pc2 := 90) (dk D_X13_readStatement 50 rfl) ml_13_373 mv_X13_emit rfl rfl (by decide) rfl (Nat.le_of_ble_eq_true rfl) rfl he177 L.2.1 hc k) hc178 (aRI.k fun y179 s180 h => ?_)
      refine A_p (fun T Q _ _ k => V_istore_n (pc2 := 91) (lv2 := [(0, _), (1, _), (2, _), (3, _)]) (dk D_X13_readStatement 51 rfl) rfl (by decide) rfl rfl k) ?_
      refine A_p (fun T Q _ _ k => V_aload_n (pc2 := 92) (dk D_X13_readStatement 52 rfl) rfl (V_lg 0 rfl) rfl k) ?_
      obtain ⟨e181, he182, hc183⟩ := h
      refine A_callT (st := []) (pc2 := 95) (fun T Q Qc L hc k => V_callST (as := [_]) (st := []) (M' := MX13_readBlock) (pc2 := 95) (dk D_X13_readStatement 53 rfl) ml_13_383 mv_X13_readBlock rfl rfl (Nat.le_of_ble_eq_true rfl) rfl (by decide) he182 hc k) hc183 (aTV.k fun  s184 h => ?_)
      refine A_p (fun T Q _ _ k => V_aload_n (pc2 := 96) (dk D_X13_readStatement 54 rfl) rfl (V_lg 0 rfl) rfl k) ?_
      refine A_p (fun T Q _ _ k => V_ldcs 5 (pc2 := 98) (dk D_X13_readStatement 55 rfl) rfl rfl k) ?_
      obtain ⟨e185, he186, hc187⟩ := h
      refine A_call (st := []) (pc2 := 101) (fun T Q Qc L hc k => V_callV (as := [_]) (st := []) (M' := MX13_isWord) (ci := 13) (pc2 := 101) (dk D_X13_readStatement 56 rfl) ml_13_341 mv_X13_isWord rfl rfl (by decide) rfl (Nat.le_of_ble_eq_true rfl) rfl he186 L.2.1 hc k) hc187 (aRI.k fun y188 s189 h => ?_)
      refine A_if (pa := 152) (pb := 104) (fun T Q k1 k2 => V_ifeq (tgt := 152) (pc2 := 104) (dk D_X13_readStatement 57 rfl) (by decide) rfl (fun q => k1 q) (fun q => k2 q)) (fun q190 => ?_) (fun q190 => ?_)
      · have h := h.1 q190
        refine A_p (fun T Q _ _ k => V_aload_n (pc2 := 153) (dk D_X13_readStatement 85 rfl) rfl (V_lg 0 rfl) rfl k) ?_
        refine A_ar (pc2 := 156) (a := 11) 14 (dk D_X13_readStatement 86 rfl) fl_13_95 (by decide) (by decide) rfl (fun _ => rfl) rfl ?_
        refine A_p (fun T Q _ _ k => V_iload_n (pc2 := 157) (dk D_X13_readStatement 87 rfl) rfl (V_lg 3 rfl) rfl k) ?_
        refine A_p (fun T Q _ _ k => V_aload_n (pc2 := 158) (dk D_X13_readStatement 88 rfl) rfl (V_lg 0 rfl) rfl k) ?_
        refine A_sc (pc2 := 161) 17 (dk D_X13_readStatement 89 rfl) fl_13_351 (by decide) rfl (fun _ => rfl) rfl ?_
        obtain ⟨h191, h⟩ := h
        refine A_ist (pc2 := 162) 14 (dk D_X13_readStatement 90 rfl) rfl (by decide) rfl (by decide) rfl rfl h191 ?_
        have h := h _ rfl
        exact h
      · have h := h.2 q190
        refine A_p (fun T Q _ _ k => V_aload_n (pc2 := 105) (dk D_X13_readStatement 58 rfl) rfl (V_lg 0 rfl) rfl k) ?_
        refine A_p (fun T Q _ _ k => V_dup (pc2 := 106) (dk D_X13_readStatement 59 rfl) rfl rfl k) ?_
        refine A_sc (pc2 := 109) 10 (dk D_X13_readStatement 60 rfl) fl_13_331 (by decide) rfl (fun _ => rfl) rfl ?_
        refine A_p (fun T Q _ _ k => V_iconst (x := 1) (pc2 := 110) (dk D_X13_readStatement 61 rfl) (by decide) rfl k) ?_
        refine A_p (fun T Q _ _ k => V_iadd (pc2 := 111) (dk D_X13_readStatement 62 rfl) rfl k) ?_
        refine A_put (pc2 := 114) 10 (dk D_X13_readStatement 63 rfl) fl_13_331 (by decide) rfl rfl rfl rfl ?_
        have h := h _ rfl
        refine A_p (fun T Q _ _ k => V_aload_n (pc2 := 115) (dk D_X13_readStatement 64 rfl) rfl (V_lg 0 rfl) rfl k) ?_
        refine A_p (fun T Q _ _ k => V_bipush (x := 23) (pc2 := 117) (dk D_X13_readStatement 65 rfl) (by decide) rfl k) ?_
        refine A_p (fun T Q _ _ k => V_iconst (x := 0) (pc2 := 118) (dk D_X13_readStatement 66 rfl) (by decide) rfl k) ?_
        refine A_p (fun T Q _ _ k => V_iconst (x := 0) (pc2 := 119) (dk D_X13_readStatement 67 rfl) (by decide) rfl k) ?_
        obtain ⟨e194, he195, hc196⟩ := h
        refine A_call (st := []) (pc2 := 122) (fun T Q Qc L hc k => V_callV (as := [_, _, _]) (st := []) (M' := MX13_emit) (ci := 13) (pc2 := 122) (dk D_X13_readStatement 68 rfl) ml_13_373 mv_X13_emit rfl rfl (by decide) rfl (Nat.le_of_ble_eq_true rfl) rfl he195 L.2.1 hc k) hc196 (aRI.k fun y197 s198 h => ?_)
        refine A_p (fun T Q _ _ k => V_istore (pc2 := 124) (lv2 := [(0, _), (1, _), (2, _), (3, _), (4, _)]) (dk D_X13_readStatement 69 rfl) (by decide) rfl rfl k) ?_
        refine A_p (fun T Q _ _ k => V_aload_n (pc2 := 125) (dk D_X13_readStatement 70 rfl) rfl (V_lg 0 rfl) rfl k) ?_
        refine A_ar (pc2 := 128) (a := 11) 14 (dk D_X13_readStatement 71 rfl) fl_13_95 (by decide) (by decide) rfl (fun _ => rfl) rfl ?_
        refine A_p (fun T Q _ _ k => V_iload_n (pc2 := 129) (dk D_X13_readStatement 72 rfl) rfl (V_lg 3 rfl) rfl k) ?_
        refine A_p (fun T Q _ _ k => V_aload_n (pc2 := 130) (dk D_X13_readStatement 73 rfl) rfl (V_lg 0 rfl) rfl k) ?_
        refine A_sc (pc2 := 133) 17 (dk D_X13_readStatement 74 rfl) fl_13_351 (by decide) rfl (fun _ => rfl) rfl ?_
        obtain ⟨h199, h⟩ := h
        refine A_ist (pc2 := 134) 14 (dk D_X13_readStatement 75 rfl) rfl (by decide) rfl (by decide) rfl rfl h199 ?_
        have h := h _ rfl
        refine A_p (fun T Q _ _ k => V_aload_n (pc2 := 135) (dk D_X13_readStatement 76 rfl) rfl (V_lg 0 rfl) rfl k) ?_
        obtain ⟨e201, he202, hc203⟩ := h
        refine A_callT (st := []) (pc2 := 138) (fun T Q Qc L hc k => V_callST (as := [_]) (st := []) (M' := MX13_readBlock) (pc2 := 138) (dk D_X13_readStatement 77 rfl) ml_13_383 mv_X13_readBlock rfl rfl (Nat.le_of_ble_eq_true rfl) rfl (by decide) he202 hc k) hc203 (aTV.k fun  s204 h => ?_)
        refine A_p (fun T Q _ _ k => V_aload_n (pc2 := 139) (dk D_X13_readStatement 78 rfl) rfl (V_lg 0 rfl) rfl k) ?_
        refine A_ar (pc2 := 142) (a := 11) 14 (dk D_X13_readStatement 79 rfl) fl_13_95 (by decide) (by decide) rfl (fun _ => rfl) rfl ?_
        refine A_p (fun T Q _ _ k => V_iload (pc2 := 144) (dk D_X13_readStatement 80 rfl) (V_lg 4 rfl) rfl k) ?_
        refine A_p (fun T Q _ _ k => V_aload_n (pc2 := 145) (dk D_X13_readStatement 81 rfl) rfl (V_lg 0 rfl) rfl k) ?_
        refine A_sc (pc2 := 148) 17 (dk D_X13_readStatement 82 rfl) fl_13_351 (by decide) rfl (fun _ => rfl) rfl ?_
        obtain ⟨h205, h⟩ := h
        refine A_ist (pc2 := 149) 14 (dk D_X13_readStatement 83 rfl) rfl (by decide) rfl (by decide) rfl rfl h205 ?_
        have h := h _ rfl
        refine A_p (fun T Q _ _ k => V_goto (tgt := 162) (dk D_X13_readStatement 84 rfl) (by decide) k) ?_
        refine A_p (fun T Q _ _ k => V_pick [0, 1, 2, 3] (lv2 := [(0, _), (1, _), (2, _), (3, _)]) rfl k) ?_
        exact h
  · have h := h.2 q12
    refine A_p (fun T Q _ _ k => V_aload_n (pc2 := 28) (dk D_X13_readStatement 16 rfl) rfl (V_lg 0 rfl) rfl k) ?_
    refine A_p (fun T Q _ _ k => V_dup (pc2 := 29) (dk D_X13_readStatement 17 rfl) rfl rfl k) ?_
    refine A_sc (pc2 := 32) 10 (dk D_X13_readStatement 18 rfl) fl_13_331 (by decide) rfl (fun _ => rfl) rfl ?_
    refine A_p (fun T Q _ _ k => V_iconst (x := 1) (pc2 := 33) (dk D_X13_readStatement 19 rfl) (by decide) rfl k) ?_
    refine A_p (fun T Q _ _ k => V_iadd (pc2 := 34) (dk D_X13_readStatement 20 rfl) rfl k) ?_
    refine A_put (pc2 := 37) 10 (dk D_X13_readStatement 21 rfl) fl_13_331 (by decide) rfl rfl rfl rfl ?_
    have h := h _ rfl
    refine A_p (fun T Q _ _ k => V_aload_n (pc2 := 38) (dk D_X13_readStatement 22 rfl) rfl (V_lg 0 rfl) rfl k) ?_
    obtain ⟨e208, he209, hc210⟩ := h
    refine A_callT (st := []) (pc2 := 41) (fun T Q Qc L hc k => V_callST (as := [_]) (st := []) (M' := MX13_readE) (pc2 := 41) (dk D_X13_readStatement 23 rfl) ml_13_377 mv_X13_readE rfl rfl (Nat.le_of_ble_eq_true rfl) rfl (by decide) he209 hc k) hc210 (aTV.k fun  s211 h => ?_)
    refine A_p (fun T Q _ _ k => V_aload_n (pc2 := 42) (dk D_X13_readStatement 24 rfl) rfl (V_lg 0 rfl) rfl k) ?_
    refine A_p (fun T Q _ _ k => V_bipush (x := 59) (pc2 := 44) (dk D_X13_readStatement 25 rfl) (by decide) rfl k) ?_
    obtain ⟨e212, he213, hc214⟩ := h
    refine A_callT (st := []) (pc2 := 47) (fun T Q Qc L hc k => V_callVT (as := [_]) (st := []) (M' := MX13_mustSign) (ci := 13) (pc2 := 47) (dk D_X13_readStatement 26 rfl) ml_13_348 mv_X13_mustSign rfl rfl (by decide) rfl (Nat.le_of_ble_eq_true rfl) rfl (by decide) he213 L.2.1 hc k) hc214 (aTV.k fun  s215 h => ?_)
    refine A_p (fun T Q _ _ k => V_aload_n (pc2 := 48) (dk D_X13_readStatement 27 rfl) rfl (V_lg 0 rfl) rfl k) ?_
    refine A_p (fun T Q _ _ k => V_bipush (x := 21) (pc2 := 50) (dk D_X13_readStatement 28 rfl) (by decide) rfl k) ?_
    refine A_p (fun T Q _ _ k => V_iconst (x := 0) (pc2 := 51) (dk D_X13_readStatement 29 rfl) (by decide) rfl k) ?_
    refine A_p (fun T Q _ _ k => V_iconst (x := 0) (pc2 := 52) (dk D_X13_readStatement 30 rfl) (by decide) rfl k) ?_
    obtain ⟨e216, he217, hc218⟩ := h
    refine A_call (st := []) (pc2 := 55) (fun T Q Qc L hc k => V_callV (as := [_, _, _]) (st := []) (M' := MX13_emit) (ci := 13) (pc2 := 55) (dk D_X13_readStatement 31 rfl) ml_13_373 mv_X13_emit rfl rfl (by decide) rfl (Nat.le_of_ble_eq_true rfl) rfl he217 L.2.1 hc k) hc218 (aRI.k fun y219 s220 h => ?_)
    refine A_p (fun T Q _ _ k => V_istore_n (pc2 := 56) (lv2 := [(0, _), (1, _), (2, _)]) (dk D_X13_readStatement 32 rfl) rfl (by decide) rfl rfl k) ?_
    refine A_p (fun T Q _ _ k => V_goto (tgt := 526) (dk D_X13_readStatement 33 rfl) (by decide) k) ?_
    exact h
theorem a_readStatement_162 {X : Cx} {b d : Nat} {σ : Rm} {Q : Res → Rm → Prop} (x1 : Int32) (x2 : Int32) (x3 : Int32) (h : A X b d MX13_readStatement 526 [(0, vR b), (1, vI x1), (2, vI x2)] [] σ Q) : A X b d MX13_readStatement 162 [(0, vR b), (1, vI x1), (2, vI x2), (3, vI x3)] [] σ Q := by
  refine A_p (fun T Q _ _ k => V_goto (tgt := 526) (dk D_X13_readStatement 91 rfl) (by decide) k) ?_
  refine A_p (fun T Q _ _ k => V_pick [0, 1, 2] (lv2 := [(0, _), (1, _), (2, _)]) rfl k) ?_
  exact h
theorem a_readStatement_335 {X : Cx} {b d : Nat} {σ : Rm} {Q : Res → Rm → Prop} (x1 : Int32) (x2 : Int32) (h : ∃ e1 : Nat, e1 + 1 ≤ d ∧ AC X b e1 MX13_mustSign [vR b, vI 59] σ (aTV Q fun  s4 => ∃ e5 : Nat, e5 + 1 ≤ d ∧ AC X b e5 MX13_emit [vR b, vI 26, vI 0, vI 0] s4 (aRI fun y8 s9 => A X b d MX13_readStatement 526 [(0, vR b), (1, vI x1), (2, vI y8)] [] s9 Q))) : A X b d MX13_readStatement 335 [(0, vR b), (1, vI x1), (2, vI x2)] [] σ Q := by
  refine A_p (fun T Q _ _ k => V_aload_n (pc2 := 336) (dk D_X13_readStatement 187 rfl) rfl (V_lg 0 rfl) rfl k) ?_
  refine A_p (fun T Q _ _ k => V_bipush (x := 59) (pc2 := 338) (dk D_X13_readStatement 188 rfl) (by decide) rfl k) ?_
  obtain ⟨e1, he2, hc3⟩ := h
  refine A_callT (st := []) (pc2 := 341) (fun T Q Qc L hc k => V_callVT (as := [_]) (st := []) (M' := MX13_mustSign) (ci := 13) (pc2 := 341) (dk D_X13_readStatement 189 rfl) ml_13_348 mv_X13_mustSign rfl rfl (by decide) rfl (Nat.le_of_ble_eq_true rfl) rfl (by decide) he2 L.2.1 hc k) hc3 (aTV.k fun  s4 h => ?_)
  refine A_p (fun T Q _ _ k => V_aload_n (pc2 := 342) (dk D_X13_readStatement 190 rfl) rfl (V_lg 0 rfl) rfl k) ?_
  refine A_p (fun T Q _ _ k => V_bipush (x := 26) (pc2 := 344) (dk D_X13_readStatement 191 rfl) (by decide) rfl k) ?_
  refine A_p (fun T Q _ _ k => V_iconst (x := 0) (pc2 := 345) (dk D_X13_readStatement 192 rfl) (by decide) rfl k) ?_
  refine A_p (fun T Q _ _ k => V_iconst (x := 0) (pc2 := 346) (dk D_X13_readStatement 193 rfl) (by decide) rfl k) ?_
  obtain ⟨e5, he6, hc7⟩ := h
  refine A_call (st := []) (pc2 := 349) (fun T Q Qc L hc k => V_callV (as := [_, _, _]) (st := []) (M' := MX13_emit) (ci := 13) (pc2 := 349) (dk D_X13_readStatement 194 rfl) ml_13_373 mv_X13_emit rfl rfl (by decide) rfl (Nat.le_of_ble_eq_true rfl) rfl he6 L.2.1 hc k) hc7 (aRI.k fun y8 s9 h => ?_)
  refine A_p (fun T Q _ _ k => V_istore_n (pc2 := 350) (lv2 := [(0, _), (1, _), (2, _)]) (dk D_X13_readStatement 195 rfl) rfl (by decide) rfl rfl k) ?_
  refine A_p (fun T Q _ _ k => V_goto (tgt := 526) (dk D_X13_readStatement 196 rfl) (by decide) k) ?_
  exact h
theorem a_readStatement_507 {X : Cx} {b d : Nat} {σ : Rm} {Q : Res → Rm → Prop} (x1 : Int32) (x2 : Int32) (h : ∃ e1 : Nat, e1 + 1 ≤ d ∧ AC X b e1 MX13_readE [vR b] σ (aTV Q fun  s4 => ∃ e5 : Nat, e5 + 1 ≤ d ∧ AC X b e5 MX13_mustSign [vR b, vI 59] s4 (aTV Q fun  s8 => ∃ e9 : Nat, e9 + 1 ≤ d ∧ AC X b e9 MX13_emit [vR b, vI 22, vI 0, vI 0] s8 (aRI fun y12 s13 => A X b d MX13_readStatement 526 [(0, vR b), (1, vI x1), (2, vI y12)] [] s13 Q)))) : A X b d MX13_readStatement 507 [(0, vR b), (1, vI x1), (2, vI x2)] [] σ Q := by
  refine A_p (fun T Q _ _ k => V_aload_n (pc2 := 508) (dk D_X13_readStatement 279 rfl) rfl (V_lg 0 rfl) rfl k) ?_
  obtain ⟨e1, he2, hc3⟩ := h
  refine A_callT (st := []) (pc2 := 511) (fun T Q Qc L hc k => V_callST (as := [_]) (st := []) (M' := MX13_readE) (pc2 := 511) (dk D_X13_readStatement 280 rfl) ml_13_377 mv_X13_readE rfl rfl (Nat.le_of_ble_eq_true rfl) rfl (by decide) he2 hc k) hc3 (aTV.k fun  s4 h => ?_)
  refine A_p (fun T Q _ _ k => V_aload_n (pc2 := 512) (dk D_X13_readStatement 281 rfl) rfl (V_lg 0 rfl) rfl k) ?_
  refine A_p (fun T Q _ _ k => V_bipush (x := 59) (pc2 := 514) (dk D_X13_readStatement 282 rfl) (by decide) rfl k) ?_
  obtain ⟨e5, he6, hc7⟩ := h
  refine A_callT (st := []) (pc2 := 517) (fun T Q Qc L hc k => V_callVT (as := [_]) (st := []) (M' := MX13_mustSign) (ci := 13) (pc2 := 517) (dk D_X13_readStatement 283 rfl) ml_13_348 mv_X13_mustSign rfl rfl (by decide) rfl (Nat.le_of_ble_eq_true rfl) rfl (by decide) he6 L.2.1 hc k) hc7 (aTV.k fun  s8 h => ?_)
  refine A_p (fun T Q _ _ k => V_aload_n (pc2 := 518) (dk D_X13_readStatement 284 rfl) rfl (V_lg 0 rfl) rfl k) ?_
  refine A_p (fun T Q _ _ k => V_bipush (x := 22) (pc2 := 520) (dk D_X13_readStatement 285 rfl) (by decide) rfl k) ?_
  refine A_p (fun T Q _ _ k => V_iconst (x := 0) (pc2 := 521) (dk D_X13_readStatement 286 rfl) (by decide) rfl k) ?_
  refine A_p (fun T Q _ _ k => V_iconst (x := 0) (pc2 := 522) (dk D_X13_readStatement 287 rfl) (by decide) rfl k) ?_
  obtain ⟨e9, he10, hc11⟩ := h
  refine A_call (st := []) (pc2 := 525) (fun T Q Qc L hc k => V_callV (as := [_, _, _]) (st := []) (M' := MX13_emit) (ci := 13) (pc2 := 525) (dk D_X13_readStatement 288 rfl) ml_13_373 mv_X13_emit rfl rfl (by decide) rfl (Nat.le_of_ble_eq_true rfl) rfl he10 L.2.1 hc k) hc11 (aRI.k fun y12 s13 h => ?_)
  refine A_p (fun T Q _ _ k => V_istore_n (pc2 := 526) (lv2 := [(0, _), (1, _), (2, _)]) (dk D_X13_readStatement 289 rfl) rfl (by decide) rfl rfl k) ?_
  exact h
theorem a_readStatement_526 {X : Cx} {b d : Nat} {σ : Rm} {Q : Res → Rm → Prop} (x1 : Int32) (x2 : Int32) (h : Q (.inl none) σ) : A X b d MX13_readStatement 526 [(0, vR b), (1, vI x1), (2, vI x2)] [] σ Q := by
  exact A_ret (fun T Q _ k => V_return (dk D_X13_readStatement 290 rfl) rfl k) h
theorem a_readTest_0 {X : Cx} {b d : Nat} {σ : Rm} {Q : Res → Rm → Prop}  (h : ∃ e1 : Nat, e1 + 1 ≤ d ∧ AC X b e1 MX13_isSign [vR b, vI 40] σ (aRI fun y4 s5 => ((y4 = 0 → (vp_in (sI s5 10) 3002) ∧ ∃ e8 : Nat, e8 + 1 ≤ d ∧ AC X b e8 MX13_fail [vR b, vI (aI s5 6 ((sI s5 10) : Int32).toNatClampNeg)] s5 (aTV Q fun  s11 => A X b d MX13_readTest 22 [(0, vR b)] [] s11 Q)) ∧ (¬ y4 = 0 → A X b d MX13_readTest 22 [(0, vR b)] [] s5 Q)))) : A X b d MX13_readTest 0 [(0, vR b)] [] σ Q := by
  refine A_p (fun T Q _ _ k => V_aload_n (pc2 := 1) (dk D_X13_readTest 0 rfl) rfl (V_lg 0 rfl) rfl k) ?_
  refine A_p (fun T Q _ _ k => V_bipush (x := 40) (pc2 := 3) (dk D_X13_readTest 1 rfl) (by decide) rfl k) ?_
  obtain ⟨e1, he2, hc3⟩ := h
  refine A_call (st := []) (pc2 := 6) (fun T Q Qc L hc k => V_callV (as := [_]) (st := []) (M' := MX13_isSign) (ci := 13) (pc2 := 6) (dk D_X13_readTest 2 rfl) ml_13_334 mv_X13_isSign rfl rfl (by decide) rfl (Nat.le_of_ble_eq_true rfl) rfl he2 L.2.1 hc k) hc3 (aRI.k fun y4 s5 h => ?_)
  refine A_if (pa := 9) (pb := 22) (fun T Q k1 k2 => V_ifne (tgt := 22) (pc2 := 9) (dk D_X13_readTest 3 rfl) (by decide) rfl (fun q => k2 q) (fun q => k1 q)) (fun q6 => ?_) (fun q6 => ?_)
  · have h := h.1 q6
    refine A_p (fun T Q _ _ k => V_aload_n (pc2 := 10) (dk D_X13_readTest 4 rfl) rfl (V_lg 0 rfl) rfl k) ?_
    refine A_p (fun T Q _ _ k => V_aload_n (pc2 := 11) (dk D_X13_readTest 5 rfl) rfl (V_lg 0 rfl) rfl k) ?_
    refine A_ar (pc2 := 14) (a := 5) 6 (dk D_X13_readTest 6 rfl) fl_13_27 (by decide) (by decide) rfl (fun _ => rfl) rfl ?_
    refine A_p (fun T Q _ _ k => V_aload_n (pc2 := 15) (dk D_X13_readTest 7 rfl) rfl (V_lg 0 rfl) rfl k) ?_
    refine A_sc (pc2 := 18) 10 (dk D_X13_readTest 8 rfl) fl_13_331 (by decide) rfl (fun _ => rfl) rfl ?_
    obtain ⟨h7, h⟩ := h
    refine A_ild (pc2 := 19) 6 (dk D_X13_readTest 9 rfl) rfl (by decide) rfl (by decide) rfl rfl h7 ?_
    obtain ⟨e8, he9, hc10⟩ := h
    refine A_callT (st := []) (pc2 := 22) (fun T Q Qc L hc k => V_callVT (as := [_]) (st := []) (M' := MX13_fail) (ci := 13) (pc2 := 22) (dk D_X13_readTest 10 rfl) ml_13_337 mv_X13_fail rfl rfl (by decide) rfl (Nat.le_of_ble_eq_true rfl) rfl (by decide) he9 L.2.1 hc k) hc10 (aTV.k fun  s11 h => ?_)
    exact h
  · have h := h.2 q6
    exact h
theorem a_readTest_22 {X : Cx} {b d : Nat} {σ : Rm} {Q : Res → Rm → Prop}  (h : ∃ e1 : Nat, e1 + 1 ≤ d ∧ AC X b e1 MX13_opens [vR b] σ (aTV Q fun  s4 => ∃ e5 : Nat, e5 + 1 ≤ d ∧ AC X b e5 MX13_readE [vR b] s4 (aTV Q fun  s8 => ∃ e9 : Nat, e9 + 1 ≤ d ∧ AC X b e9 MX13_closes [vR b, vI 41] s8 (aTV Q fun  s12 => Q (.inl none) s12)))) : A X b d MX13_readTest 22 [(0, vR b)] [] σ Q := by
  refine A_p (fun T Q _ _ k => V_aload_n (pc2 := 23) (dk D_X13_readTest 11 rfl) rfl (V_lg 0 rfl) rfl k) ?_
  obtain ⟨e1, he2, hc3⟩ := h
  refine A_callT (st := []) (pc2 := 26) (fun T Q Qc L hc k => V_callVT (as := []) (st := []) (M' := MX13_opens) (ci := 13) (pc2 := 26) (dk D_X13_readTest 12 rfl) ml_13_363 mv_X13_opens rfl rfl (by decide) rfl (Nat.le_of_ble_eq_true rfl) rfl (by decide) he2 L.2.1 hc k) hc3 (aTV.k fun  s4 h => ?_)
  refine A_p (fun T Q _ _ k => V_aload_n (pc2 := 27) (dk D_X13_readTest 13 rfl) rfl (V_lg 0 rfl) rfl k) ?_
  obtain ⟨e5, he6, hc7⟩ := h
  refine A_callT (st := []) (pc2 := 30) (fun T Q Qc L hc k => V_callST (as := [_]) (st := []) (M' := MX13_readE) (pc2 := 30) (dk D_X13_readTest 14 rfl) ml_13_377 mv_X13_readE rfl rfl (Nat.le_of_ble_eq_true rfl) rfl (by decide) he6 hc k) hc7 (aTV.k fun  s8 h => ?_)
  refine A_p (fun T Q _ _ k => V_aload_n (pc2 := 31) (dk D_X13_readTest 15 rfl) rfl (V_lg 0 rfl) rfl k) ?_
  refine A_p (fun T Q _ _ k => V_bipush (x := 41) (pc2 := 33) (dk D_X13_readTest 16 rfl) (by decide) rfl k) ?_
  obtain ⟨e9, he10, hc11⟩ := h
  refine A_callT (st := []) (pc2 := 36) (fun T Q Qc L hc k => V_callVT (as := [_]) (st := []) (M' := MX13_closes) (ci := 13) (pc2 := 36) (dk D_X13_readTest 17 rfl) ml_13_370 mv_X13_closes rfl rfl (by decide) rfl (Nat.le_of_ble_eq_true rfl) rfl (by decide) he10 L.2.1 hc k) hc11 (aTV.k fun  s12 h => ?_)
  exact A_ret (fun T Q _ k => V_return (dk D_X13_readTest 18 rfl) rfl k) h
theorem a_readEach_0 {X : Cx} {b d : Nat} {σ : Rm} {Q : Res → Rm → Prop} (x1 : Int32) (h : ∀ s1 : Rm, s1 = wS σ 10 ((sI σ 10) + 1) → ∃ e2 : Nat, e2 + 1 ≤ d ∧ AC X b e2 MX13_mustName [vR b] s1 (aTI Q fun y5 s6 => ∃ e7 : Nat, e7 + 1 ≤ d ∧ AC X b e7 MX13_variable [vR b, vI y5] s6 (aRI fun y10 s11 => ∃ e12 : Nat, e12 + 1 ≤ d ∧ AC X b e12 MX13_mustWord [vR b, vR 26] s11 (aTV Q fun  s15 => ∃ e16 : Nat, e16 + 1 ≤ d ∧ AC X b e16 MX13_readE [vR b] s15 (aTV Q fun  s19 => ∀ s20 : Rm, s20 = wS s19 36 ((sI s19 36) + 1) → ∃ e21 : Nat, e21 + 1 ≤ d ∧ AC X b e21 MX13_emit [vR b, vI 31, vI (12 + (sI s19 36)), vI 0] s20 (aRI fun y24 s25 => ∃ e26 : Nat, e26 + 1 ≤ d ∧ AC X b e26 MX13_emit [vR b, vI 32, vI y10, vI (12 + (sI s19 36))] s25 (aRI fun y29 s30 => ∃ e31 : Nat, e31 + 1 ≤ d ∧ AC X b e31 MX13_readBlock [vR b] s30 (aTV Q fun  s34 => ∃ e35 : Nat, e35 + 1 ≤ d ∧ AC X b e35 MX13_emit [vR b, vI 0, vI x1, vI 0] s34 (aRI fun y38 s39 => ∃ e40 : Nat, e40 + 1 ≤ d ∧ AC X b e40 MX13_emit [vR b, vI 23, vI y29, vI 0] s39 (aRI fun y43 s44 => (vp_in y29 12000) ∧ ∀ s46 : Rm, s46 = wI s44 16 ((y29 : Int32).toNatClampNeg) (sI s44 17) → ∀ s47 : Rm, s47 = wS s46 36 ((sI s46 36) - 1) → Q (.inl none) s47)))))))))) : A X b d MX13_readEach 0 [(0, vR b), (1, vI x1)] [] σ Q := by
  refine A_p (fun T Q _ _ k => V_aload_n (pc2 := 1) (dk D_X13_readEach 0 rfl) rfl (V_lg 0 rfl) rfl k) ?_
  refine A_p (fun T Q _ _ k => V_dup (pc2 := 2) (dk D_X13_readEach 1 rfl) rfl rfl k) ?_
  refine A_sc (pc2 := 5) 10 (dk D_X13_readEach 2 rfl) fl_13_331 (by decide) rfl (fun _ => rfl) rfl ?_
  refine A_p (fun T Q _ _ k => V_iconst (x := 1) (pc2 := 6) (dk D_X13_readEach 3 rfl) (by decide) rfl k) ?_
  refine A_p (fun T Q _ _ k => V_iadd (pc2 := 7) (dk D_X13_readEach 4 rfl) rfl k) ?_
  refine A_put (pc2 := 10) 10 (dk D_X13_readEach 5 rfl) fl_13_331 (by decide) rfl rfl rfl rfl ?_
  have h := h _ rfl
  refine A_p (fun T Q _ _ k => V_aload_n (pc2 := 11) (dk D_X13_readEach 6 rfl) rfl (V_lg 0 rfl) rfl k) ?_
  refine A_p (fun T Q _ _ k => V_aload_n (pc2 := 12) (dk D_X13_readEach 7 rfl) rfl (V_lg 0 rfl) rfl k) ?_
  obtain ⟨e2, he3, hc4⟩ := h
  refine A_callT (st := [_]) (pc2 := 15) (fun T Q Qc L hc k => V_callVT (as := []) (st := [_]) (M' := MX13_mustName) (ci := 13) (pc2 := 15) (dk D_X13_readEach 8 rfl) ml_13_399 mv_X13_mustName rfl rfl (by decide) rfl (Nat.le_of_ble_eq_true rfl) rfl (by decide) he3 L.2.1 hc k) hc4 (aTI.k fun y5 s6 h => ?_)
  obtain ⟨e7, he8, hc9⟩ := h
  refine A_call (st := []) (pc2 := 18) (fun T Q Qc L hc k => V_callV (as := [_]) (st := []) (M' := MX13_variable) (ci := 13) (pc2 := 18) (dk D_X13_readEach 9 rfl) ml_13_402 mv_X13_variable rfl rfl (by decide) rfl (Nat.le_of_ble_eq_true rfl) rfl he8 L.2.1 hc k) hc9 (aRI.k fun y10 s11 h => ?_)
  refine A_p (fun T Q _ _ k => V_istore_n (pc2 := 19) (lv2 := [(0, _), (1, _), (2, _)]) (dk D_X13_readEach 10 rfl) rfl (by decide) rfl rfl k) ?_
  refine A_p (fun T Q _ _ k => V_aload_n (pc2 := 20) (dk D_X13_readEach 11 rfl) rfl (V_lg 0 rfl) rfl k) ?_
  refine A_p (fun T Q _ _ k => V_ldcs 24 (pc2 := 22) (dk D_X13_readEach 12 rfl) rfl rfl k) ?_
  obtain ⟨e12, he13, hc14⟩ := h
  refine A_callT (st := []) (pc2 := 25) (fun T Q Qc L hc k => V_callVT (as := [_]) (st := []) (M' := MX13_mustWord) (ci := 13) (pc2 := 25) (dk D_X13_readEach 13 rfl) ml_13_406 mv_X13_mustWord rfl rfl (by decide) rfl (Nat.le_of_ble_eq_true rfl) rfl (by decide) he13 L.2.1 hc k) hc14 (aTV.k fun  s15 h => ?_)
  refine A_p (fun T Q _ _ k => V_aload_n (pc2 := 26) (dk D_X13_readEach 14 rfl) rfl (V_lg 0 rfl) rfl k) ?_
  obtain ⟨e16, he17, hc18⟩ := h
  refine A_callT (st := []) (pc2 := 29) (fun T Q Qc L hc k => V_callST (as := [_]) (st := []) (M' := MX13_readE) (pc2 := 29) (dk D_X13_readEach 15 rfl) ml_13_377 mv_X13_readE rfl rfl (Nat.le_of_ble_eq_true rfl) rfl (by decide) he17 hc k) hc18 (aTV.k fun  s19 h => ?_)
  refine A_p (fun T Q _ _ k => V_bipush (x := 12) (pc2 := 31) (dk D_X13_readEach 16 rfl) (by decide) rfl k) ?_
  refine A_p (fun T Q _ _ k => V_aload_n (pc2 := 32) (dk D_X13_readEach 17 rfl) rfl (V_lg 0 rfl) rfl k) ?_
  refine A_sc (pc2 := 35) 36 (dk D_X13_readEach 18 rfl) fl_13_410 (by decide) rfl (fun _ => rfl) rfl ?_
  refine A_p (fun T Q _ _ k => V_iadd (pc2 := 36) (dk D_X13_readEach 19 rfl) rfl k) ?_
  refine A_p (fun T Q _ _ k => V_istore_n (pc2 := 37) (lv2 := [(0, _), (1, _), (2, _), (3, _)]) (dk D_X13_readEach 20 rfl) rfl (by decide) rfl rfl k) ?_
  refine A_p (fun T Q _ _ k => V_aload_n (pc2 := 38) (dk D_X13_readEach 21 rfl) rfl (V_lg 0 rfl) rfl k) ?_
  refine A_p (fun T Q _ _ k => V_dup (pc2 := 39) (dk D_X13_readEach 22 rfl) rfl rfl k) ?_
  refine A_sc (pc2 := 42) 36 (dk D_X13_readEach 23 rfl) fl_13_410 (by decide) rfl (fun _ => rfl) rfl ?_
  refine A_p (fun T Q _ _ k => V_iconst (x := 1) (pc2 := 43) (dk D_X13_readEach 24 rfl) (by decide) rfl k) ?_
  refine A_p (fun T Q _ _ k => V_iadd (pc2 := 44) (dk D_X13_readEach 25 rfl) rfl k) ?_
  refine A_put (pc2 := 47) 36 (dk D_X13_readEach 26 rfl) fl_13_410 (by decide) rfl rfl rfl rfl ?_
  have h := h _ rfl
  refine A_p (fun T Q _ _ k => V_aload_n (pc2 := 48) (dk D_X13_readEach 27 rfl) rfl (V_lg 0 rfl) rfl k) ?_
  refine A_p (fun T Q _ _ k => V_bipush (x := 31) (pc2 := 50) (dk D_X13_readEach 28 rfl) (by decide) rfl k) ?_
  refine A_p (fun T Q _ _ k => V_iload_n (pc2 := 51) (dk D_X13_readEach 29 rfl) rfl (V_lg 3 rfl) rfl k) ?_
  refine A_p (fun T Q _ _ k => V_iconst (x := 0) (pc2 := 52) (dk D_X13_readEach 30 rfl) (by decide) rfl k) ?_
  obtain ⟨e21, he22, hc23⟩ := h
  refine A_call (st := []) (pc2 := 55) (fun T Q Qc L hc k => V_callV (as := [_, _, _]) (st := []) (M' := MX13_emit) (ci := 13) (pc2 := 55) (dk D_X13_readEach 31 rfl) ml_13_373 mv_X13_emit rfl rfl (by decide) rfl (Nat.le_of_ble_eq_true rfl) rfl he22 L.2.1 hc k) hc23 (aRI.k fun y24 s25 h => ?_)
  refine A_p (fun T Q _ _ k => V_istore (pc2 := 57) (lv2 := [(0, _), (1, _), (2, _), (3, _), (4, _)]) (dk D_X13_readEach 32 rfl) (by decide) rfl rfl k) ?_
  refine A_p (fun T Q _ _ k => V_aload_n (pc2 := 58) (dk D_X13_readEach 33 rfl) rfl (V_lg 0 rfl) rfl k) ?_
  refine A_p (fun T Q _ _ k => V_bipush (x := 32) (pc2 := 60) (dk D_X13_readEach 34 rfl) (by decide) rfl k) ?_
  refine A_p (fun T Q _ _ k => V_iload_n (pc2 := 61) (dk D_X13_readEach 35 rfl) rfl (V_lg 2 rfl) rfl k) ?_
  refine A_p (fun T Q _ _ k => V_iload_n (pc2 := 62) (dk D_X13_readEach 36 rfl) rfl (V_lg 3 rfl) rfl k) ?_
  obtain ⟨e26, he27, hc28⟩ := h
  refine A_call (st := []) (pc2 := 65) (fun T Q Qc L hc k => V_callV (as := [_, _, _]) (st := []) (M' := MX13_emit) (ci := 13) (pc2 := 65) (dk D_X13_readEach 37 rfl) ml_13_373 mv_X13_emit rfl rfl (by decide) rfl (Nat.le_of_ble_eq_true rfl) rfl he27 L.2.1 hc k) hc28 (aRI.k fun y29 s30 h => ?_)
  refine A_p (fun T Q _ _ k => V_istore (pc2 := 67) (lv2 := [(0, _), (1, _), (2, _), (3, _), (4, _), (5, _)]) (dk D_X13_readEach 38 rfl) (by decide) rfl rfl k) ?_
  refine A_p (fun T Q _ _ k => V_aload_n (pc2 := 68) (dk D_X13_readEach 39 rfl) rfl (V_lg 0 rfl) rfl k) ?_
  obtain ⟨e31, he32, hc33⟩ := h
  refine A_callT (st := []) (pc2 := 71) (fun T Q Qc L hc k => V_callST (as := [_]) (st := []) (M' := MX13_readBlock) (pc2 := 71) (dk D_X13_readEach 40 rfl) ml_13_383 mv_X13_readBlock rfl rfl (Nat.le_of_ble_eq_true rfl) rfl (by decide) he32 hc k) hc33 (aTV.k fun  s34 h => ?_)
  refine A_p (fun T Q _ _ k => V_aload_n (pc2 := 72) (dk D_X13_readEach 41 rfl) rfl (V_lg 0 rfl) rfl k) ?_
  refine A_p (fun T Q _ _ k => V_iconst (x := 0) (pc2 := 73) (dk D_X13_readEach 42 rfl) (by decide) rfl k) ?_
  refine A_p (fun T Q _ _ k => V_iload_n (pc2 := 74) (dk D_X13_readEach 43 rfl) rfl (V_lg 1 rfl) rfl k) ?_
  refine A_p (fun T Q _ _ k => V_iconst (x := 0) (pc2 := 75) (dk D_X13_readEach 44 rfl) (by decide) rfl k) ?_
  obtain ⟨e35, he36, hc37⟩ := h
  refine A_call (st := []) (pc2 := 78) (fun T Q Qc L hc k => V_callV (as := [_, _, _]) (st := []) (M' := MX13_emit) (ci := 13) (pc2 := 78) (dk D_X13_readEach 45 rfl) ml_13_373 mv_X13_emit rfl rfl (by decide) rfl (Nat.le_of_ble_eq_true rfl) rfl he36 L.2.1 hc k) hc37 (aRI.k fun y38 s39 h => ?_)
  refine A_p (fun T Q _ _ k => V_istore (pc2 := 80) (lv2 := [(0, _), (1, _), (2, _), (3, _), (4, _), (5, _)]) (dk D_X13_readEach 46 rfl) (by decide) rfl rfl k) ?_
  refine A_p (fun T Q _ _ k => V_aload_n (pc2 := 81) (dk D_X13_readEach 47 rfl) rfl (V_lg 0 rfl) rfl k) ?_
  refine A_p (fun T Q _ _ k => V_bipush (x := 23) (pc2 := 83) (dk D_X13_readEach 48 rfl) (by decide) rfl k) ?_
  refine A_p (fun T Q _ _ k => V_iload (pc2 := 85) (dk D_X13_readEach 49 rfl) (V_lg 5 rfl) rfl k) ?_
  refine A_p (fun T Q _ _ k => V_iconst (x := 0) (pc2 := 86) (dk D_X13_readEach 50 rfl) (by decide) rfl k) ?_
  obtain ⟨e40, he41, hc42⟩ := h
  refine A_call (st := []) (pc2 := 89) (fun T Q Qc L hc k => V_callV (as := [_, _, _]) (st := []) (M' := MX13_emit) (ci := 13) (pc2 := 89) (dk D_X13_readEach 51 rfl) ml_13_373 mv_X13_emit rfl rfl (by decide) rfl (Nat.le_of_ble_eq_true rfl) rfl he41 L.2.1 hc k) hc42 (aRI.k fun y43 s44 h => ?_)
  refine A_p (fun T Q _ _ k => V_istore (pc2 := 91) (lv2 := [(0, _), (1, _), (2, _), (3, _), (4, _), (5, _)]) (dk D_X13_readEach 52 rfl) (by decide) rfl rfl k) ?_
  refine A_p (fun T Q _ _ k => V_aload_n (pc2 := 92) (dk D_X13_readEach 53 rfl) rfl (V_lg 0 rfl) rfl k) ?_
  refine A_ar (pc2 := 95) (a := 13) 16 (dk D_X13_readEach 54 rfl) fl_13_101 (by decide) (by decide) rfl (fun _ => rfl) rfl ?_
  refine A_p (fun T Q _ _ k => V_iload (pc2 := 97) (dk D_X13_readEach 55 rfl) (V_lg 5 rfl) rfl k) ?_
  refine A_p (fun T Q _ _ k => V_aload_n (pc2 := 98) (dk D_X13_readEach 56 rfl) rfl (V_lg 0 rfl) rfl k) ?_
  refine A_sc (pc2 := 101) 17 (dk D_X13_readEach 57 rfl) fl_13_351 (by decide) rfl (fun _ => rfl) rfl ?_
  obtain ⟨h45, h⟩ := h
  refine A_ist (pc2 := 102) 16 (dk D_X13_readEach 58 rfl) rfl (by decide) rfl (by decide) rfl rfl h45 ?_
  have h := h _ rfl
  refine A_p (fun T Q _ _ k => V_aload_n (pc2 := 103) (dk D_X13_readEach 59 rfl) rfl (V_lg 0 rfl) rfl k) ?_
  refine A_p (fun T Q _ _ k => V_dup (pc2 := 104) (dk D_X13_readEach 60 rfl) rfl rfl k) ?_
  refine A_sc (pc2 := 107) 36 (dk D_X13_readEach 61 rfl) fl_13_410 (by decide) rfl (fun _ => rfl) rfl ?_
  refine A_p (fun T Q _ _ k => V_iconst (x := 1) (pc2 := 108) (dk D_X13_readEach 62 rfl) (by decide) rfl k) ?_
  refine A_p (fun T Q _ _ k => V_isub (pc2 := 109) (dk D_X13_readEach 63 rfl) rfl k) ?_
  refine A_put (pc2 := 112) 36 (dk D_X13_readEach 64 rfl) fl_13_410 (by decide) rfl rfl rfl rfl ?_
  have h := h _ rfl
  exact A_ret (fun T Q _ k => V_return (dk D_X13_readEach 65 rfl) rfl k) h
