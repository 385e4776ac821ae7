theorem a_in_0 {X : Cx} {b d : Nat} {σ : Rm} {Q : Res → Rm → Prop} (x0 : Int32) (x1 : Int32) (x2 : Int32) (h : ((x0 < x1 → A X b d MX13_in 14 [(0, vI x0), (1, vI x1), (2, vI x2)] [] σ Q) ∧ (¬ x0 < x1 → ((x2 < x0 → A X b d MX13_in 14 [(0, vI x0), (1, vI x1), (2, vI x2)] [] σ Q) ∧ (¬ x2 < x0 → A X b d MX13_in 15 [(0, vI x0), (1, vI x1), (2, vI x2)] [vI 1] σ Q))))) : A X b d MX13_in 0 [(0, vI x0), (1, vI x1), (2, vI x2)] [] σ Q := by
  refine A_p (fun T Q _ _ k => V_iload_n (pc2 := 1) (dk D_X13_in 0 rfl) rfl (V_lg 0 rfl) rfl k) ?_
  refine A_p (fun T Q _ _ k => V_iload_n (pc2 := 2) (dk D_X13_in 1 rfl) rfl (V_lg 1 rfl) rfl k) ?_
  refine A_if (pa := 14) (pb := 5) (fun T Q k1 k2 => V_cmplt (tgt := 14) (pc2 := 5) (dk D_X13_in 2 rfl) (by decide) rfl (fun q => k1 q) (fun q => k2 q)) (fun q1 => ?_) (fun q1 => ?_)
  · have h := h.1 q1
    exact h
  · have h := h.2 q1
    refine A_p (fun T Q _ _ k => V_iload_n (pc2 := 6) (dk D_X13_in 3 rfl) rfl (V_lg 0 rfl) rfl k) ?_
    refine A_p (fun T Q _ _ k => V_iload_n (pc2 := 7) (dk D_X13_in 4 rfl) rfl (V_lg 2 rfl) rfl k) ?_
    refine A_if (pa := 14) (pb := 10) (fun T Q k1 k2 => V_cmpgt (tgt := 14) (pc2 := 10) (dk D_X13_in 5 rfl) (by decide) rfl (fun q => k1 q) (fun q => k2 q)) (fun q2 => ?_) (fun q2 => ?_)
    · have h := h.1 q2
      exact h
    · have h := h.2 q2
      refine A_p (fun T Q _ _ k => V_iconst (x := 1) (pc2 := 11) (dk D_X13_in 6 rfl) (by decide) rfl k) ?_
      refine A_p (fun T Q _ _ k => V_goto (tgt := 15) (dk D_X13_in 7 rfl) (by decide) k) ?_
      exact h
theorem a_in_14 {X : Cx} {b d : Nat} {σ : Rm} {Q : Res → Rm → Prop} (x0 : Int32) (x1 : Int32) (x2 : Int32) (h : A X b d MX13_in 15 [(0, vI x0), (1, vI x1), (2, vI x2)] [vI 0] σ Q) : A X b d MX13_in 14 [(0, vI x0), (1, vI x1), (2, vI x2)] [] σ Q := by
  refine A_p (fun T Q _ _ k => V_iconst (x := 0) (pc2 := 15) (dk D_X13_in 8 rfl) (by decide) rfl k) ?_
  exact h
theorem a_in_15 {X : Cx} {b d : Nat} {σ : Rm} {Q : Res → Rm → Prop} (x0 : Int32) (x1 : Int32) (x2 : Int32) (t0 : Int32) (h : (t0 = 0 ∨ t0 = 1) ∧ Q (.inl (some (vI t0))) σ) : A X b d MX13_in 15 [(0, vI x0), (1, vI x1), (2, vI x2)] [vI t0] σ Q := by
  obtain ⟨h1, h⟩ := h
  exact A_ret (fun T Q _ k => V_zreturn (dk D_X13_in 9 rfl) rfl h1 k) h
theorem a_feed_0 {X : Cx} {b d : Nat} {σ : Rm} {Q : Res → Rm → Prop} (l1 : Int64) (x3 : Int32) (h : ∃ e1 : Nat, e1 + 1 ≤ d ∧ AC X b e1 MX13_in [vI x3, vI 1, vI 8] σ (aRI fun y4 s5 => ((y4 = 0 → Q (.inl (some (vI (-1)))) s5) ∧ (¬ y4 = 0 → ((((sI s5 2) + x3) ≤ 3000 → A X b d MX13_feed 30 [(0, vR b), (1, vL l1), (3, vI x3), (4, vI 0)] [] s5 Q) ∧ (¬ ((sI s5 2) + x3) ≤ 3000 → Q (.inl (some (vI (-3)))) s5)))))) : A X b d MX13_feed 0 [(0, vR b), (1, vL l1), (3, vI x3)] [] σ Q := by
  refine A_p (fun T Q _ _ k => V_iload_n (pc2 := 1) (dk D_X13_feed 0 rfl) rfl (V_lg 2 rfl) rfl k) ?_
  refine A_p (fun T Q _ _ k => V_iconst (x := 1) (pc2 := 2) (dk D_X13_feed 1 rfl) (by decide) rfl k) ?_
  refine A_p (fun T Q _ _ k => V_bipush (x := 8) (pc2 := 4) (dk D_X13_feed 2 rfl) (by decide) rfl k) ?_
  obtain ⟨e1, he2, hc3⟩ := h
  refine A_call (st := []) (pc2 := 7) (fun T Q Qc L hc k => V_callS (as := [_, _, _]) (st := []) (M' := MX13_in) (pc2 := 7) (dk D_X13_feed 3 rfl) ml_13_292 mv_X13_in rfl rfl (Nat.le_of_ble_eq_true rfl) rfl he2 hc k) hc3 (aRI.k fun y4 s5 h => ?_)
  refine A_if (pa := 10) (pb := 12) (fun T Q k1 k2 => V_ifne (tgt := 12) (pc2 := 10) (dk D_X13_feed 4 rfl) (by decide) rfl (fun q => k2 q) (fun q => k1 q)) (fun q6 => ?_) (fun q6 => ?_)
  · have h := h.1 q6
    refine A_p (fun T Q _ _ k => V_iconst (x := (-1)) (pc2 := 11) (dk D_X13_feed 5 rfl) (by decide) rfl k) ?_
    exact A_ret (fun T Q _ k => V_ireturn (dk D_X13_feed 6 rfl) rfl k) h
  · have h := h.2 q6
    refine A_p (fun T Q _ _ k => V_aload_n (pc2 := 13) (dk D_X13_feed 7 rfl) rfl (V_lg 0 rfl) rfl k) ?_
    refine A_sc (pc2 := 16) 2 (dk D_X13_feed 8 rfl) fl_13_296 (by decide) rfl (fun _ => rfl) rfl ?_
    refine A_p (fun T Q _ _ k => V_iload_n (pc2 := 17) (dk D_X13_feed 9 rfl) rfl (V_lg 2 rfl) rfl k) ?_
    refine A_p (fun T Q _ _ k => V_iadd (pc2 := 18) (dk D_X13_feed 10 rfl) rfl k) ?_
    refine A_p (fun T Q _ _ k => V_sipush (x := 3000) (pc2 := 21) (dk D_X13_feed 11 rfl) (by decide) rfl k) ?_
    refine A_if (pa := 27) (pb := 24) (fun T Q k1 k2 => V_cmple (tgt := 27) (pc2 := 24) (dk D_X13_feed 12 rfl) (by decide) rfl (fun q => k1 q) (fun q => k2 q)) (fun q7 => ?_) (fun q7 => ?_)
    · have h := h.1 q7
      refine A_p (fun T Q _ _ k => V_iconst (x := 0) (pc2 := 28) (dk D_X13_feed 15 rfl) (by decide) rfl k) ?_
      refine A_p (fun T Q _ _ k => V_istore (pc2 := 30) (lv2 := [(0, _), (1, _), (3, _), (4, _)]) (dk D_X13_feed 16 rfl) (by decide) rfl rfl k) ?_
      exact h
    · have h := h.2 q7
      refine A_p (fun T Q _ _ k => V_bipush (x := (-3)) (pc2 := 26) (dk D_X13_feed 13 rfl) (by decide) rfl k) ?_
      exact A_ret (fun T Q _ k => V_ireturn (dk D_X13_feed 14 rfl) rfl k) h
theorem a_feed_30 {X : Cx} {b d : Nat} {σ : Rm} {Q : Res → Rm → Prop} (l1 : Int64) (x3 : Int32) (x4 : Int32) (h : ((x3 ≤ x4 → ∀ s2 : Rm, s2 = wS σ 2 ((sI σ 2) + x3) → Q (.inl (some (vI (sI s2 2)))) s2) ∧ (¬ x3 ≤ x4 → (vp_in ((sI σ 2) + x4) 3000) ∧ ∀ s4 : Rm, s4 = wI σ 1 ((((sI σ 2) + x4) : Int32).toNatClampNeg) ((((((l1 >>> (((8 * x4) : Int32).toInt64 &&& 63)) : Int64).toInt32) : Int32).toInt8.toInt32) : Int32).toInt8.toInt32 → A X b d MX13_feed 30 [(0, vR b), (1, vL l1), (3, vI x3), (4, vI (x4 + 1))] [] s4 Q))) : A X b d MX13_feed 30 [(0, vR b), (1, vL l1), (3, vI x3), (4, vI x4)] [] σ Q := by
  refine A_p (fun T Q _ _ k => V_iload (pc2 := 32) (dk D_X13_feed 17 rfl) (V_lg 3 rfl) rfl k) ?_
  refine A_p (fun T Q _ _ k => V_iload_n (pc2 := 33) (dk D_X13_feed 18 rfl) rfl (V_lg 2 rfl) rfl k) ?_
  refine A_if (pa := 63) (pb := 36) (fun T Q k1 k2 => V_cmpge (tgt := 63) (pc2 := 36) (dk D_X13_feed 19 rfl) (by decide) rfl (fun q => k1 q) (fun q => k2 q)) (fun q1 => ?_) (fun q1 => ?_)
  · have h := h.1 q1
    refine A_p (fun T Q _ _ k => V_aload_n (pc2 := 64) (dk D_X13_feed 36 rfl) rfl (V_lg 0 rfl) rfl k) ?_
    refine A_p (fun T Q _ _ k => V_dup (pc2 := 65) (dk D_X13_feed 37 rfl) rfl rfl k) ?_
    refine A_sc (pc2 := 68) 2 (dk D_X13_feed 38 rfl) fl_13_296 (by decide) rfl (fun _ => rfl) rfl ?_
    refine A_p (fun T Q _ _ k => V_iload_n (pc2 := 69) (dk D_X13_feed 39 rfl) rfl (V_lg 2 rfl) rfl k) ?_
    refine A_p (fun T Q _ _ k => V_iadd (pc2 := 70) (dk D_X13_feed 40 rfl) rfl k) ?_
    refine A_put (pc2 := 73) 2 (dk D_X13_feed 41 rfl) fl_13_296 (by decide) rfl rfl rfl rfl ?_
    have h := h _ rfl
    refine A_p (fun T Q _ _ k => V_aload_n (pc2 := 74) (dk D_X13_feed 42 rfl) rfl (V_lg 0 rfl) rfl k) ?_
    refine A_sc (pc2 := 77) 2 (dk D_X13_feed 43 rfl) fl_13_296 (by decide) rfl (fun _ => rfl) rfl ?_
    exact A_ret (fun T Q _ k => V_ireturn (dk D_X13_feed 44 rfl) rfl k) h
  · have h := h.2 q1
    refine A_p (fun T Q _ _ k => V_aload_n (pc2 := 37) (dk D_X13_feed 20 rfl) rfl (V_lg 0 rfl) rfl k) ?_
    refine A_ar (pc2 := 40) (a := 2) 1 (dk D_X13_feed 21 rfl) fl_13_16 (by decide) (by decide) rfl (fun _ => rfl) rfl ?_
    refine A_p (fun T Q _ _ k => V_aload_n (pc2 := 41) (dk D_X13_feed 22 rfl) rfl (V_lg 0 rfl) rfl k) ?_
    refine A_sc (pc2 := 44) 2 (dk D_X13_feed 23 rfl) fl_13_296 (by decide) rfl (fun _ => rfl) rfl ?_
    refine A_p (fun T Q _ _ k => V_iload (pc2 := 46) (dk D_X13_feed 24 rfl) (V_lg 3 rfl) rfl k) ?_
    refine A_p (fun T Q _ _ k => V_iadd (pc2 := 47) (dk D_X13_feed 25 rfl) rfl k) ?_
    refine A_p (fun T Q _ _ k => V_lload_n (pc2 := 48) (dk D_X13_feed 26 rfl) rfl (V_lg 1 rfl) rfl k) ?_
    refine A_p (fun T Q _ _ k => V_bipush (x := 8) (pc2 := 50) (dk D_X13_feed 27 rfl) (by decide) rfl k) ?_
    refine A_p (fun T Q _ _ k => V_iload (pc2 := 52) (dk D_X13_feed 28 rfl) (V_lg 3 rfl) rfl k) ?_
    refine A_p (fun T Q _ _ k => V_imul (pc2 := 53) (dk D_X13_feed 29 rfl) rfl k) ?_
    refine A_p (fun T Q _ _ k => V_lshr (pc2 := 54) (dk D_X13_feed 30 rfl) rfl k) ?_
    refine A_p (fun T Q _ _ k => V_l2i (pc2 := 55) (dk D_X13_feed 31 rfl) rfl k) ?_
    refine A_p (fun T Q _ _ k => V_i2b (pc2 := 56) (dk D_X13_feed 32 rfl) rfl k) ?_
    obtain ⟨h3, h⟩ := h
    refine A_bst (pc2 := 57) 1 (dk D_X13_feed 33 rfl) rfl (by decide) rfl (by decide) rfl rfl h3 ?_
    have h := h _ rfl
    refine A_p (fun T Q _ _ k => V_iinc (y := _ + 1) (pc2 := 60) (lv2 := [(0, _), (1, _), (3, _), (4, _)]) (dk D_X13_feed 34 rfl) (V_lg 3 rfl) rfl (by decide) rfl rfl k) ?_
    refine A_p (fun T Q _ _ k => V_goto (tgt := 30) (dk D_X13_feed 35 rfl) (by decide) k) ?_
    exact h
theorem a_drop_0 {X : Cx} {b d : Nat} {σ : Rm} {Q : Res → Rm → Prop}  (h : ∀ s1 : Rm, s1 = wS σ 2 0 → Q (.inl (some (vI (sI σ 2)))) s1) : A X b d MX13_drop 0 [(0, vR b)] [] σ Q := by
  refine A_p (fun T Q _ _ k => V_aload_n (pc2 := 1) (dk D_X13_drop 0 rfl) rfl (V_lg 0 rfl) rfl k) ?_
  refine A_sc (pc2 := 4) 2 (dk D_X13_drop 1 rfl) fl_13_296 (by decide) rfl (fun _ => rfl) rfl ?_
  refine A_p (fun T Q _ _ k => V_istore_n (pc2 := 5) (lv2 := [(0, _), (1, _)]) (dk D_X13_drop 2 rfl) rfl (by decide) rfl rfl k) ?_
  refine A_p (fun T Q _ _ k => V_aload_n (pc2 := 6) (dk D_X13_drop 3 rfl) rfl (V_lg 0 rfl) rfl k) ?_
  refine A_p (fun T Q _ _ k => V_iconst (x := 0) (pc2 := 7) (dk D_X13_drop 4 rfl) (by decide) rfl k) ?_
  refine A_put (pc2 := 10) 2 (dk D_X13_drop 5 rfl) fl_13_296 (by decide) rfl rfl rfl rfl ?_
  have h := h _ rfl
  refine A_p (fun T Q _ _ k => V_iload_n (pc2 := 11) (dk D_X13_drop 6 rfl) rfl (V_lg 1 rfl) rfl k) ?_
  exact A_ret (fun T Q _ k => V_ireturn (dk D_X13_drop 7 rfl) rfl k) h
theorem a_cut_0 {X : Cx} {b d : Nat} {σ : Rm} {Q : Res → Rm → Prop}  (h : A X b d MX13_cut 6 [(0, vR b), (1, vI 0), (2, vI 0), (3, vI 1)] [] σ Q) : A X b d MX13_cut 0 [(0, vR b)] [] σ Q := by
  refine A_p (fun T Q _ _ k => V_iconst (x := 0) (pc2 := 1) (dk D_X13_cut 0 rfl) (by decide) rfl k) ?_
  refine A_p (fun T Q _ _ k => V_istore_n (pc2 := 2) (lv2 := [(0, _), (1, _)]) (dk D_X13_cut 1 rfl) rfl (by decide) rfl rfl k) ?_
  refine A_p (fun T Q _ _ k => V_iconst (x := 0) (pc2 := 3) (dk D_X13_cut 2 rfl) (by decide) rfl k) ?_
  refine A_p (fun T Q _ _ k => V_istore_n (pc2 := 4) (lv2 := [(0, _), (1, _), (2, _)]) (dk D_X13_cut 3 rfl) rfl (by decide) rfl rfl k) ?_
  refine A_p (fun T Q _ _ k => V_iconst (x := 1) (pc2 := 5) (dk D_X13_cut 4 rfl) (by decide) rfl k) ?_
  refine A_p (fun T Q _ _ k => V_istore_n (pc2 := 6) (lv2 := [(0, _), (1, _), (2, _), (3, _)]) (dk D_X13_cut 5 rfl) rfl (by decide) rfl rfl k) ?_
  exact h
theorem a_cut_6 {X : Cx} {b d : Nat} {σ : Rm} {Q : Res → Rm → Prop} (x1 : Int32) (x2 : Int32) (x3 : Int32) (h : ((x3 = 0 → Q (.inl none) σ) ∧ (¬ x3 = 0 → A X b d MX13_cut 10 [(0, vR b), (1, vI x1), (2, vI x2), (3, vI x3)] [] σ Q))) : A X b d MX13_cut 6 [(0, vR b), (1, vI x1), (2, vI x2), (3, vI x3)] [] σ Q := by
  refine A_p (fun T Q _ _ k => V_iload_n (pc2 := 7) (dk D_X13_cut 6 rfl) rfl (V_lg 3 rfl) rfl k) ?_
  refine A_if (pa := 496) (pb := 10) (fun T Q k1 k2 => V_ifeq (tgt := 496) (pc2 := 10) (dk D_X13_cut 7 rfl) (by decide) rfl (fun q => k1 q) (fun q => k2 q)) (fun q1 => ?_) (fun q1 => ?_)
  · have h := h.1 q1
    exact A_ret (fun T Q _ k => V_return (dk D_X13_cut 263 rfl) rfl k) h
  · have h := h.2 q1
    exact h
theorem a_cut_10 {X : Cx} {b d : Nat} {σ : Rm} {Q : Res → Rm → Prop} (x1 : Int32) (x2 : Int32) (x3 : Int32) (h : (((sI σ 4) ≤ x2 → A X b d MX13_cut 46 [(0, vR b), (1, vI x1), (2, vI x2), (3, vI x3)] [] σ Q) ∧ (¬ (sI σ 4) ≤ x2 → (vp_in x2 3000) ∧ (((aI σ 3 (x2 : Int32).toNatClampNeg) = 32 → A X b d MX13_cut 40 [(0, vR b), (1, vI x1), (2, vI x2), (3, vI x3)] [] σ Q) ∧ (¬ (aI σ 3 (x2 : Int32).toNatClampNeg) = 32 → (vp_in x2 3000) ∧ (((aI σ 3 (x2 : Int32).toNatClampNeg) = 10 → A X b d MX13_cut 40 [(0, vR b), (1, vI x1), (2, vI x2), (3, vI x3)] [] σ Q) ∧ (¬ (aI σ 3 (x2 : Int32).toNatClampNeg) = 10 → A X b d MX13_cut 46 [(0, vR b), (1, vI x1), (2, vI x2), (3, vI x3)] [] σ Q))))))) : A X b d MX13_cut 10 [(0, vR b), (1, vI x1), (2, vI x2), (3, vI x3)] [] σ Q := by
  refine A_p (fun T Q _ _ k => V_iload_n (pc2 := 11) (dk D_X13_cut 8 rfl) rfl (V_lg 2 rfl) rfl k) ?_
  refine A_p (fun T Q _ _ k => V_aload_n (pc2 := 12) (dk D_X13_cut 9 rfl) rfl (V_lg 0 rfl) rfl k) ?_
  refine A_sc (pc2 := 15) 4 (dk D_X13_cut 10 rfl) fl_13_314 (by decide) rfl (fun _ => rfl) rfl ?_
  refine A_if (pa := 46) (pb := 18) (fun T Q k1 k2 => V_cmpge (tgt := 46) (pc2 := 18) (dk D_X13_cut 11 rfl) (by decide) rfl (fun q => k1 q) (fun q => k2 q)) (fun q1 => ?_) (fun q1 => ?_)
  · have h := h.1 q1
    exact h
  · have h := h.2 q1
    refine A_p (fun T Q _ _ k => V_aload_n (pc2 := 19) (dk D_X13_cut 12 rfl) rfl (V_lg 0 rfl) rfl k) ?_
    refine A_ar (pc2 := 22) (a := 3) 3 (dk D_X13_cut 13 rfl) fl_13_20 (by decide) (by decide) rfl (fun _ => rfl) rfl ?_
    refine A_p (fun T Q _ _ k => V_iload_n (pc2 := 23) (dk D_X13_cut 14 rfl) rfl (V_lg 2 rfl) rfl k) ?_
    obtain ⟨h2, h⟩ := h
    refine A_bld (pc2 := 24) 3 (dk D_X13_cut 15 rfl) rfl (by decide) rfl (by decide) rfl rfl h2 ?_
    refine A_p (fun T Q _ _ k => V_bipush (x := 32) (pc2 := 26) (dk D_X13_cut 16 rfl) (by decide) rfl k) ?_
    refine A_if (pa := 40) (pb := 29) (fun T Q k1 k2 => V_cmpeq (tgt := 40) (pc2 := 29) (dk D_X13_cut 17 rfl) (by decide) rfl (fun q => k1 q) (fun q => k2 q)) (fun q3 => ?_) (fun q3 => ?_)
    · have h := h.1 q3
      exact h
    · have h := h.2 q3
      refine A_p (fun T Q _ _ k => V_aload_n (pc2 := 30) (dk D_X13_cut 18 rfl) rfl (V_lg 0 rfl) rfl k) ?_
      refine A_ar (pc2 := 33) (a := 3) 3 (dk D_X13_cut 19 rfl) fl_13_20 (by decide) (by decide) rfl (fun _ => rfl) rfl ?_
      refine A_p (fun T Q _ _ k => V_iload_n (pc2 := 34) (dk D_X13_cut 20 rfl) rfl (V_lg 2 rfl) rfl k) ?_
      obtain ⟨h4, h⟩ := h
      refine A_bld (pc2 := 35) 3 (dk D_X13_cut 21 rfl) rfl (by decide) rfl (by decide) rfl rfl h4 ?_
      refine A_p (fun T Q _ _ k => V_bipush (x := 10) (pc2 := 37) (dk D_X13_cut 22 rfl) (by decide) rfl k) ?_
      refine A_if (pa := 40) (pb := 46) (fun T Q k1 k2 => V_cmpne (tgt := 46) (pc2 := 40) (dk D_X13_cut 23 rfl) (by decide) rfl (fun q => k2 q) (fun q => k1 q)) (fun q5 => ?_) (fun q5 => ?_)
      · have h := h.1 q5
        exact h
      · have h := h.2 q5
        exact h
theorem a_cut_46 {X : Cx} {b d : Nat} {σ : Rm} {Q : Res → Rm → Prop} (x1 : Int32) (x2 : Int32) (x3 : Int32) (h : (vp_in x1 3002) ∧ ∀ s2 : Rm, s2 = wI σ 6 ((x1 : Int32).toNatClampNeg) x2 → (((sI s2 4) ≤ x2 → A X b d MX13_cut 71 [(0, vR b), (1, vI x1), (2, vI x2), (3, vI x3)] [vI 0] s2 Q) ∧ (¬ (sI s2 4) ≤ x2 → (vp_in x2 3000) ∧ A X b d MX13_cut 71 [(0, vR b), (1, vI x1), (2, vI x2), (3, vI x3)] [vI (aI s2 3 (x2 : Int32).toNatClampNeg)] s2 Q))) : A X b d MX13_cut 46 [(0, vR b), (1, vI x1), (2, vI x2), (3, vI x3)] [] σ Q := by
  refine A_p (fun T Q _ _ k => V_aload_n (pc2 := 47) (dk D_X13_cut 26 rfl) rfl (V_lg 0 rfl) rfl k) ?_
  refine A_ar (pc2 := 50) (a := 5) 6 (dk D_X13_cut 27 rfl) fl_13_27 (by decide) (by decide) rfl (fun _ => rfl) rfl ?_
  refine A_p (fun T Q _ _ k => V_iload_n (pc2 := 51) (dk D_X13_cut 28 rfl) rfl (V_lg 1 rfl) rfl k) ?_
  refine A_p (fun T Q _ _ k => V_iload_n (pc2 := 52) (dk D_X13_cut 29 rfl) rfl (V_lg 2 rfl) rfl k) ?_
  obtain ⟨h1, h⟩ := h
  refine A_ist (pc2 := 53) 6 (dk D_X13_cut 30 rfl) rfl (by decide) rfl (by decide) rfl rfl h1 ?_
  have h := h _ rfl
  refine A_p (fun T Q _ _ k => V_iload_n (pc2 := 54) (dk D_X13_cut 31 rfl) rfl (V_lg 2 rfl) rfl k) ?_
  refine A_p (fun T Q _ _ k => V_aload_n (pc2 := 55) (dk D_X13_cut 32 rfl) rfl (V_lg 0 rfl) rfl k) ?_
  refine A_sc (pc2 := 58) 4 (dk D_X13_cut 33 rfl) fl_13_314 (by decide) rfl (fun _ => rfl) rfl ?_
  refine A_if (pa := 70) (pb := 61) (fun T Q k1 k2 => V_cmpge (tgt := 70) (pc2 := 61) (dk D_X13_cut 34 rfl) (by decide) rfl (fun q => k1 q) (fun q => k2 q)) (fun q3 => ?_) (fun q3 => ?_)
  · have h := h.1 q3
    refine A_p (fun T Q _ _ k => V_iconst (x := 0) (pc2 := 71) (dk D_X13_cut 40 rfl) (by decide) rfl k) ?_
    exact h
  · have h := h.2 q3
    refine A_p (fun T Q _ _ k => V_aload_n (pc2 := 62) (dk D_X13_cut 35 rfl) rfl (V_lg 0 rfl) rfl k) ?_
    refine A_ar (pc2 := 65) (a := 3) 3 (dk D_X13_cut 36 rfl) fl_13_20 (by decide) (by decide) rfl (fun _ => rfl) rfl ?_
    refine A_p (fun T Q _ _ k => V_iload_n (pc2 := 66) (dk D_X13_cut 37 rfl) rfl (V_lg 2 rfl) rfl k) ?_
    obtain ⟨h4, h⟩ := h
    refine A_bld (pc2 := 67) 3 (dk D_X13_cut 38 rfl) rfl (by decide) rfl (by decide) rfl rfl h4 ?_
    refine A_p (fun T Q _ _ k => V_goto (tgt := 71) (dk D_X13_cut 39 rfl) (by decide) k) ?_
    exact h
theorem a_cut_71 {X : Cx} {b d : Nat} {σ : Rm} {Q : Res → Rm → Prop} (x1 : Int32) (x2 : Int32) (x3 : Int32) (t0 : Int32) (h : ((x2 = (sI σ 4) → (vp_in x1 3002) ∧ ∀ s3 : Rm, s3 = wI σ 5 ((x1 : Int32).toNatClampNeg) 6 → A X b d MX13_cut 483 [(0, vR b), (1, vI x1), (2, vI x2), (3, vI 0), (4, vI t0)] [] s3 Q) ∧ (¬ x2 = (sI σ 4) → ∃ e4 : Nat, e4 + 1 ≤ d ∧ AC X b e4 MX13_isLetter [vI t0] σ (aRI fun y7 s8 => ((y7 = 0 → ∃ e10 : Nat, e10 + 1 ≤ d ∧ AC X b e10 MX13_isFigure [vI t0] s8 (aRI fun y13 s14 => ((y13 = 0 → ((t0 = 61 → (((sI s14 4) ≤ (x2 + 1) → A X b d MX13_cut 347 [(0, vR b), (1, vI x1), (2, vI x2), (3, vI x3), (4, vI t0)] [] s14 Q) ∧ (¬ (sI s14 4) ≤ (x2 + 1) → (vp_in (x2 + 1) 3000) ∧ (((aI s14 3 ((x2 + 1) : Int32).toNatClampNeg) = 61 → (vp_in x1 3002) ∧ ∀ s21 : Rm, s21 = wI s14 5 ((x1 : Int32).toNatClampNeg) 5 → A X b d MX13_cut 483 [(0, vR b), (1, vI x1), (2, vI (x2 + 2)), (3, vI x3), (4, vI t0)] [] s21 Q) ∧ (¬ (aI s14 3 ((x2 + 1) : Int32).toNatClampNeg) = 61 → A X b d MX13_cut 347 [(0, vR b), (1, vI x1), (2, vI x2), (3, vI x3), (4, vI t0)] [] s14 Q))))) ∧ (¬ t0 = 61 → A X b d MX13_cut 347 [(0, vR b), (1, vI x1), (2, vI x2), (3, vI x3), (4, vI t0)] [] s14 Q))) ∧ (¬ y13 = 0 → A X b d MX13_cut 225 [(0, vR b), (1, vI x1), (2, vI x2), (3, vI x3), (4, vI t0), (5, vI 0)] [] s14 Q)))) ∧ (¬ y7 = 0 → A X b d MX13_cut 105 [(0, vR b), (1, vI x1), (2, vI x2), (3, vI x3), (4, vI t0), (5, vL 0)] [] s8 Q)))))) : A X b d MX13_cut 71 [(0, vR b), (1, vI x1), (2, vI x2), (3, vI x3)] [vI t0] σ Q := by
  refine A_p (fun T Q _ _ k => V_istore (pc2 := 73) (lv2 := [(0, _), (1, _), (2, _), (3, _), (4, _)]) (dk D_X13_cut 41 rfl) (by decide) rfl rfl k) ?_
  refine A_p (fun T Q _ _ k => V_iload_n (pc2 := 74) (dk D_X13_cut 42 rfl) rfl (V_lg 2 rfl) rfl k) ?_
  refine A_p (fun T Q _ _ k => V_aload_n (pc2 := 75) (dk D_X13_cut 43 rfl) rfl (V_lg 0 rfl) rfl k) ?_
  refine A_sc (pc2 := 78) 4 (dk D_X13_cut 44 rfl) fl_13_314 (by decide) rfl (fun _ => rfl) rfl ?_
  refine A_if (pa := 81) (pb := 94) (fun T Q k1 k2 => V_cmpne (tgt := 94) (pc2 := 81) (dk D_X13_cut 45 rfl) (by decide) rfl (fun q => k2 q) (fun q => k1 q)) (fun q1 => ?_) (fun q1 => ?_)
  · have h := h.1 q1
    refine A_p (fun T Q _ _ k => V_aload_n (pc2 := 82) (dk D_X13_cut 46 rfl) rfl (V_lg 0 rfl) rfl k) ?_
    refine A_ar (pc2 := 85) (a := 4) 5 (dk D_X13_cut 47 rfl) fl_13_23 (by decide) (by decide) rfl (fun _ => rfl) rfl ?_
    refine A_p (fun T Q _ _ k => V_iload_n (pc2 := 86) (dk D_X13_cut 48 rfl) rfl (V_lg 1 rfl) rfl k) ?_
    refine A_p (fun T Q _ _ k => V_bipush (x := 6) (pc2 := 88) (dk D_X13_cut 49 rfl) (by decide) rfl k) ?_
    obtain ⟨h2, h⟩ := h
    refine A_ist (pc2 := 89) 5 (dk D_X13_cut 50 rfl) rfl (by decide) rfl (by decide) rfl rfl h2 ?_
    have h := h _ rfl
    refine A_p (fun T Q _ _ k => V_iconst (x := 0) (pc2 := 90) (dk D_X13_cut 51 rfl) (by decide) rfl k) ?_
    refine A_p (fun T Q _ _ k => V_istore_n (pc2 := 91) (lv2 := [(0, _), (1, _), (2, _), (3, _), (4, _)]) (dk D_X13_cut 52 rfl) rfl (by decide) rfl rfl k) ?_
    refine A_p (fun T Q _ _ k => V_goto (tgt := 483) (dk D_X13_cut 53 rfl) (by decide) k) ?_
    exact h
  · have h := h.2 q1
    refine A_p (fun T Q _ _ k => V_iload (pc2 := 96) (dk D_X13_cut 54 rfl) (V_lg 4 rfl) rfl k) ?_
    obtain ⟨e4, he5, hc6⟩ := h
    refine A_call (st := []) (pc2 := 99) (fun T Q Qc L hc k => V_callS (as := [_]) (st := []) (M' := MX13_isLetter) (pc2 := 99) (dk D_X13_cut 55 rfl) ml_13_317 mv_X13_isLetter rfl rfl (Nat.le_of_ble_eq_true rfl) rfl he5 hc k) hc6 (aRI.k fun y7 s8 h => ?_)
    refine A_if (pa := 214) (pb := 102) (fun T Q k1 k2 => V_ifeq (tgt := 214) (pc2 := 102) (dk D_X13_cut 56 rfl) (by decide) rfl (fun q => k1 q) (fun q => k2 q)) (fun q9 => ?_) (fun q9 => ?_)
    · have h := h.1 q9
      refine A_p (fun T Q _ _ k => V_iload (pc2 := 216) (dk D_X13_cut 120 rfl) (V_lg 4 rfl) rfl k) ?_
      obtain ⟨e10, he11, hc12⟩ := h
      refine A_call (st := []) (pc2 := 219) (fun T Q Qc L hc k => V_callS (as := [_]) (st := []) (M' := MX13_isFigure) (pc2 := 219) (dk D_X13_cut 121 rfl) ml_13_325 mv_X13_isFigure rfl rfl (Nat.le_of_ble_eq_true rfl) rfl he11 hc k) hc12 (aRI.k fun y13 s14 h => ?_)
      refine A_if (pa := 304) (pb := 222) (fun T Q k1 k2 => V_ifeq (tgt := 304) (pc2 := 222) (dk D_X13_cut 122 rfl) (by decide) rfl (fun q => k1 q) (fun q => k2 q)) (fun q15 => ?_) (fun q15 => ?_)
      · have h := h.1 q15
        refine A_p (fun T Q _ _ k => V_iload (pc2 := 306) (dk D_X13_cut 169 rfl) (V_lg 4 rfl) rfl k) ?_
        refine A_p (fun T Q _ _ k => V_bipush (x := 61) (pc2 := 308) (dk D_X13_cut 170 rfl) (by decide) rfl k) ?_
        refine A_if (pa := 311) (pb := 347) (fun T Q k1 k2 => V_cmpne (tgt := 347) (pc2 := 311) (dk D_X13_cut 171 rfl) (by decide) rfl (fun q => k2 q) (fun q => k1 q)) (fun q16 => ?_) (fun q16 => ?_)
        · have h := h.1 q16
          refine A_p (fun T Q _ _ k => V_iload_n (pc2 := 312) (dk D_X13_cut 172 rfl) rfl (V_lg 2 rfl) rfl k) ?_
          refine A_p (fun T Q _ _ k => V_iconst (x := 1) (pc2 := 313) (dk D_X13_cut 173 rfl) (by decide) rfl k) ?_
          refine A_p (fun T Q _ _ k => V_iadd (pc2 := 314) (dk D_X13_cut 174 rfl) rfl k) ?_
          refine A_p (fun T Q _ _ k => V_aload_n (pc2 := 315) (dk D_X13_cut 175 rfl) rfl (V_lg 0 rfl) rfl k) ?_
          refine A_sc (pc2 := 318) 4 (dk D_X13_cut 176 rfl) fl_13_314 (by decide) rfl (fun _ => rfl) rfl ?_
          refine A_if (pa := 347) (pb := 321) (fun T Q k1 k2 => V_cmpge (tgt := 347) (pc2 := 321) (dk D_X13_cut 177 rfl) (by decide) rfl (fun q => k1 q) (fun q => k2 q)) (fun q17 => ?_) (fun q17 => ?_)
          · have h := h.1 q17
            exact h
          · have h := h.2 q17
            refine A_p (fun T Q _ _ k => V_aload_n (pc2 := 322) (dk D_X13_cut 178 rfl) rfl (V_lg 0 rfl) rfl k) ?_
            refine A_ar (pc2 := 325) (a := 3) 3 (dk D_X13_cut 179 rfl) fl_13_20 (by decide) (by decide) rfl (fun _ => rfl) rfl ?_
            refine A_p (fun T Q _ _ k => V_iload_n (pc2 := 326) (dk D_X13_cut 180 rfl) rfl (V_lg 2 rfl) rfl k) ?_
            refine A_p (fun T Q _ _ k => V_iconst (x := 1) (pc2 := 327) (dk D_X13_cut 181 rfl) (by decide) rfl k) ?_
            refine A_p (fun T Q _ _ k => V_iadd (pc2 := 328) (dk D_X13_cut 182 rfl) rfl k) ?_
            obtain ⟨h18, h⟩ := h
            refine A_bld (pc2 := 329) 3 (dk D_X13_cut 183 rfl) rfl (by decide) rfl (by decide) rfl rfl h18 ?_
            refine A_p (fun T Q _ _ k => V_bipush (x := 61) (pc2 := 331) (dk D_X13_cut 184 rfl) (by decide) rfl k) ?_
            refine A_if (pa := 334) (pb := 347) (fun T Q k1 k2 => V_cmpne (tgt := 347) (pc2 := 334) (dk D_X13_cut 185 rfl) (by decide) rfl (fun q => k2 q) (fun q => k1 q)) (fun q19 => ?_) (fun q19 => ?_)
            · have h := h.1 q19
              refine A_p (fun T Q _ _ k => V_aload_n (pc2 := 335) (dk D_X13_cut 186 rfl) rfl (V_lg 0 rfl) rfl k) ?_
              refine A_ar (pc2 := 338) (a := 4) 5 (dk D_X13_cut 187 rfl) fl_13_23 (by decide) (by decide) rfl (fun _ => rfl) rfl ?_
              refine A_p (fun T Q _ _ k => V_iload_n (pc2 := 339) (dk D_X13_cut 188 rfl) rfl (V_lg 1 rfl) rfl k) ?_
              refine A_p (fun T Q _ _ k => V_iconst (x := 5) (pc2 := 340) (dk D_X13_cut 189 rfl) (by decide) rfl k) ?_
              obtain ⟨h20, h⟩ := h
              refine A_ist (pc2 := 341) 5 (dk D_X13_cut 190 rfl) rfl (by decide) rfl (by decide) rfl rfl h20 ?_
              have h := h _ rfl
              refine A_p (fun T Q _ _ k => V_iinc (y := _ + 2) (pc2 := 344) (lv2 := [(0, _), (1, _), (2, _), (3, _), (4, _)]) (dk D_X13_cut 191 rfl) (V_lg 2 rfl) rfl (by decide) rfl rfl k) ?_
              refine A_p (fun T Q _ _ k => V_goto (tgt := 483) (dk D_X13_cut 192 rfl) (by decide) k) ?_
              exact h
            · have h := h.2 q19
              exact h
        · have h := h.2 q16
          exact h
      · have h := h.2 q15
        refine A_p (fun T Q _ _ k => V_iconst (x := 0) (pc2 := 223) (dk D_X13_cut 123 rfl) (by decide) rfl k) ?_
        refine A_p (fun T Q _ _ k => V_istore (pc2 := 225) (lv2 := [(0, _), (1, _), (2, _), (3, _), (4, _), (5, _)]) (dk D_X13_cut 124 rfl) (by decide) rfl rfl k) ?_
        exact h
    · have h := h.2 q9
      refine A_p (fun T Q _ _ k => V_lconst (x := 0) (pc2 := 103) (dk D_X13_cut 57 rfl) (by decide) rfl k) ?_
      refine A_p (fun T Q _ _ k => V_lstore (pc2 := 105) (lv2 := [(0, _), (1, _), (2, _), (3, _), (4, _), (5, _)]) (dk D_X13_cut 58 rfl) (by decide) rfl rfl k) ?_
      exact h
theorem a_cut_483 {X : Cx} {b d : Nat} {σ : Rm} {Q : Res → Rm → Prop} (x1 : Int32) (x2 : Int32) (x3 : Int32) (x4 : Int32) (h : (vp_in x1 3002) ∧ ∀ s2 : Rm, s2 = wI σ 7 ((x1 : Int32).toNatClampNeg) x2 → A X b d MX13_cut 6 [(0, vR b), (1, vI (x1 + 1)), (2, vI x2), (3, vI x3)] [] s2 Q) : A X b d MX13_cut 483 [(0, vR b), (1, vI x1), (2, vI x2), (3, vI x3), (4, vI x4)] [] σ Q := by
  refine A_p (fun T Q _ _ k => V_aload_n (pc2 := 484) (dk D_X13_cut 256 rfl) rfl (V_lg 0 rfl) rfl k) ?_
  refine A_ar (pc2 := 487) (a := 6) 7 (dk D_X13_cut 257 rfl) fl_13_30 (by decide) (by decide) rfl (fun _ => rfl) rfl ?_
  refine A_p (fun T Q _ _ k => V_iload_n (pc2 := 488) (dk D_X13_cut 258 rfl) rfl (V_lg 1 rfl) rfl k) ?_
  refine A_p (fun T Q _ _ k => V_iload_n (pc2 := 489) (dk D_X13_cut 259 rfl) rfl (V_lg 2 rfl) rfl k) ?_
  obtain ⟨h1, h⟩ := h
  refine A_ist (pc2 := 490) 7 (dk D_X13_cut 260 rfl) rfl (by decide) rfl (by decide) rfl rfl h1 ?_
  have h := h _ rfl
  refine A_p (fun T Q _ _ k => V_iinc (y := _ + 1) (pc2 := 493) (lv2 := [(0, _), (1, _), (2, _), (3, _), (4, _)]) (dk D_X13_cut 261 rfl) (V_lg 1 rfl) rfl (by decide) rfl rfl k) ?_
  refine A_p (fun T Q _ _ k => V_goto (tgt := 6) (dk D_X13_cut 262 rfl) (by decide) k) ?_
  refine A_p (fun T Q _ _ k => V_pick [0, 1, 2, 3] (lv2 := [(0, _), (1, _), (2, _), (3, _)]) rfl k) ?_
  exact h
theorem a_fail_0 {X : Cx} {b d : Nat} {σ : Rm} {Q : Res → Rm → Prop} (x1 : Int32) (h : ∀ s1 : Rm, s1 = wI σ 0 6 x1 → Q (.inr (b + 1)) s1) : A X b d MX13_fail 0 [(0, vR b), (1, vI x1)] [] σ Q := by
  refine A_p (fun T Q _ _ k => V_aload_n (pc2 := 1) (dk D_X13_fail 0 rfl) rfl (V_lg 0 rfl) rfl k) ?_
  refine A_ar (pc2 := 4) (a := 1) 0 (dk D_X13_fail 1 rfl) fl_13_10 (by decide) (by decide) rfl (fun _ => rfl) rfl ?_
  refine A_p (fun T Q _ _ k => V_iload_n (pc2 := 5) (dk D_X13_fail 2 rfl) rfl (V_lg 1 rfl) rfl k) ?_
  refine A_putN (pc2 := 8) (dk D_X13_fail 3 rfl) rfl rfl ?_
  have h := h _ rfl
  refine A_p (fun T Q _ _ k => V_aload_n (pc2 := 9) (dk D_X13_fail 4 rfl) rfl (V_lg 0 rfl) rfl k) ?_
  refine A_ar (pc2 := 12) (a := 1) 0 (dk D_X13_fail 5 rfl) fl_13_10 (by decide) (by decide) rfl (fun _ => rfl) rfl ?_
  exact A_ret (fun T Q L k => V_athrow (dk D_X13_fail 6 rfl) (by decide) (by have := L.1; omega) k) h
theorem a_isWord_0 {X : Cx} {b d : Nat} {σ : Rm} {Q : Res → Rm → Prop} (r1 : Nat) (h : (vp_in (sI σ 10) 3002) ∧ (((aI σ 5 ((sI σ 10) : Int32).toNatClampNeg) = 4 → (vp_in (sI σ 10) 3002) ∧ ∃ e4 : Nat, e4 + 1 ≤ d ∧ AC X b e4 MX13_keyOf [vR b, vR r1] σ (aRJ fun w7 s8 => (((lg_cmp (aL σ 9 ((sI σ 10) : Int32).toNatClampNeg) w7) = 0 → A X b d MX13_isWord 36 [(0, vR b), (1, vR r1)] [vI 1] s8 Q) ∧ (¬ (lg_cmp (aL σ 9 ((sI σ 10) : Int32).toNatClampNeg) w7) = 0 → A X b d MX13_isWord 35 [(0, vR b), (1, vR r1)] [] s8 Q)))) ∧ (¬ (aI σ 5 ((sI σ 10) : Int32).toNatClampNeg) = 4 → A X b d MX13_isWord 35 [(0, vR b), (1, vR r1)] [] σ Q))) : A X b d MX13_isWord 0 [(0, vR b), (1, vR r1)] [] σ Q := by
  refine A_p (fun T Q _ _ k => V_aload_n (pc2 := 1) (dk D_X13_isWord 0 rfl) rfl (V_lg 0 rfl) rfl k) ?_
  refine A_ar (pc2 := 4) (a := 4) 5 (dk D_X13_isWord 1 rfl) fl_13_23 (by decide) (by decide) rfl (fun _ => rfl) rfl ?_
  refine A_p (fun T Q _ _ k => V_aload_n (pc2 := 5) (dk D_X13_isWord 2 rfl) rfl (V_lg 0 rfl) rfl k) ?_
  refine A_sc (pc2 := 8) 10 (dk D_X13_isWord 3 rfl) fl_13_331 (by decide) rfl (fun _ => rfl) rfl ?_
  obtain ⟨h1, h⟩ := h
  refine A_ild (pc2 := 9) 5 (dk D_X13_isWord 4 rfl) rfl (by decide) rfl (by decide) rfl rfl h1 ?_
  refine A_p (fun T Q _ _ k => V_iconst (x := 4) (pc2 := 10) (dk D_X13_isWord 5 rfl) (by decide) rfl k) ?_
  refine A_if (pa := 13) (pb := 35) (fun T Q k1 k2 => V_cmpne (tgt := 35) (pc2 := 13) (dk D_X13_isWord 6 rfl) (by decide) rfl (fun q => k2 q) (fun q => k1 q)) (fun q2 => ?_) (fun q2 => ?_)
  · have h := h.1 q2
    refine A_p (fun T Q _ _ k => V_aload_n (pc2 := 14) (dk D_X13_isWord 7 rfl) rfl (V_lg 0 rfl) rfl k) ?_
    refine A_ar (pc2 := 17) (a := 8) 9 (dk D_X13_isWord 8 rfl) fl_13_36 (by decide) (by decide) rfl (fun _ => rfl) rfl ?_
    refine A_p (fun T Q _ _ k => V_aload_n (pc2 := 18) (dk D_X13_isWord 9 rfl) rfl (V_lg 0 rfl) rfl k) ?_
    refine A_sc (pc2 := 21) 10 (dk D_X13_isWord 10 rfl) fl_13_331 (by decide) rfl (fun _ => rfl) rfl ?_
    obtain ⟨h3, h⟩ := h
    refine A_lld (pc2 := 22) 9 (dk D_X13_isWord 11 rfl) rfl (by decide) rfl (by decide) rfl rfl h3 ?_
    refine A_p (fun T Q _ _ k => V_aload_n (pc2 := 23) (dk D_X13_isWord 12 rfl) rfl (V_lg 0 rfl) rfl k) ?_
    refine A_p (fun T Q _ _ k => V_aload_n (pc2 := 24) (dk D_X13_isWord 13 rfl) rfl (V_lg 1 rfl) rfl k) ?_
    obtain ⟨e4, he5, hc6⟩ := h
    refine A_call (st := [_]) (pc2 := 27) (fun T Q Qc L hc k => V_callV (as := [_]) (st := [_]) (M' := MX13_keyOf) (ci := 13) (pc2 := 27) (dk D_X13_isWord 14 rfl) ml_13_310 mv_X13_keyOf rfl rfl (by decide) rfl (Nat.le_of_ble_eq_true rfl) rfl he5 L.2.1 hc k) hc6 (aRJ.k fun w7 s8 h => ?_)
    refine A_p (fun T Q _ _ k => V_lcmp (pc2 := 28) (dk D_X13_isWord 15 rfl) rfl k) ?_
    refine A_if (pa := 31) (pb := 35) (fun T Q k1 k2 => V_ifne (tgt := 35) (pc2 := 31) (dk D_X13_isWord 16 rfl) (by decide) rfl (fun q => k2 q) (fun q => k1 q)) (fun q9 => ?_) (fun q9 => ?_)
    · have h := h.1 q9
      refine A_p (fun T Q _ _ k => V_iconst (x := 1) (pc2 := 32) (dk D_X13_isWord 17 rfl) (by decide) rfl k) ?_
      refine A_p (fun T Q _ _ k => V_goto (tgt := 36) (dk D_X13_isWord 18 rfl) (by decide) k) ?_
      exact h
    · have h := h.2 q9
      exact h
  · have h := h.2 q2
    exact h
theorem a_isWord_35 {X : Cx} {b d : Nat} {σ : Rm} {Q : Res → Rm → Prop} (r1 : Nat) (h : A X b d MX13_isWord 36 [(0, vR b), (1, vR r1)] [vI 0] σ Q) : A X b d MX13_isWord 35 [(0, vR b), (1, vR r1)] [] σ Q := by
  refine A_p (fun T Q _ _ k => V_iconst (x := 0) (pc2 := 36) (dk D_X13_isWord 19 rfl) (by decide) rfl k) ?_
  exact h
theorem a_isWord_36 {X : Cx} {b d : Nat} {σ : Rm} {Q : Res → Rm → Prop} (r1 : Nat) (t0 : Int32) (h : (t0 = 0 ∨ t0 = 1) ∧ Q (.inl (some (vI t0))) σ) : A X b d MX13_isWord 36 [(0, vR b), (1, vR r1)] [vI t0] σ Q := by
  obtain ⟨h1, h⟩ := h
  exact A_ret (fun T Q _ k => V_zreturn (dk D_X13_isWord 20 rfl) rfl h1 k) h
