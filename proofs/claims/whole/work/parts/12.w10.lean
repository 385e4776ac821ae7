def L_X10_init : List (Nat × Instr × Nat) := [(0, .aload_n 0, 1), (1, .invokespecial 3, 3), (4, .aload_n 0, 1), (5, .getstatic 9, 3), (8, .putfield 15, 3), (11, .return_, 1)]
theorem D_X10_init : dOk cX10_init L_X10_init = true := by decide +kernel
theorem w_X10_init_0 {X : Cx} {d : Nat} {S : Mem} {Q : Res → Mem → Prop} (r0 : Nat) (h : (1 ≤ d) ∧ (r0 ≠ 0) ∧ (isK S r0 10) ∧ ∀ S4 : Mem, S4 = uR S r0 12 27 → Q (.inl none) S4) : V X d MX10_init 0 [(0, vR r0)] [] S Q := by
  refine V_aload_n (pc2 := 1) (dk D_X10_init 0 rfl) rfl (V_lg 0 rfl) rfl ?_
  obtain ⟨h1, h⟩ := h
  obtain ⟨h2, h⟩ := h
  refine V_obj (pc2 := 4) (dk D_X10_init 1 rfl) ml_10_3 oi_i oi_c rfl (Nat.le_of_ble_eq_true rfl) h1 h2 ?_
  refine V_aload_n (pc2 := 5) (dk D_X10_init 2 rfl) rfl (V_lg 0 rfl) rfl ?_
  refine V_nocells (pc2 := 8) (dk D_X10_init 3 rfl) fl_10_9 rfl ?_
  obtain ⟨h3, h⟩ := h
  refine V_putR kc10 (pc2 := 11) 12 (dk D_X10_init 4 rfl) fl_10_15 (by decide) (Or.inl rfl) (Or.inr ⟨_, rfl⟩) rfl h3 ?_
  have h := h _ rfl
  exact V_return (dk D_X10_init 5 rfl) rfl h
def L_X10_reset : List (Nat × Instr × Nat) := [(0, .aload_n 0, 1), (1, .iload_n 1, 1), (2, .putfield 18, 3), (5, .aload_n 0, 1), (6, .iload_n 2, 1), (7, .putfield 22, 3), (10, .aload_n 0, 1), (11, .iload_n 3, 1), (12, .putfield 25, 3), (15, .aload_n 0, 1), (16, .iload 4, 2), (18, .putfield 28, 3), (21, .aload_n 0, 1), (22, .iconst 0, 1), (23, .putfield 31, 3), (26, .aload_n 0, 1), (27, .bipush (-9), 2), (29, .putfield 34, 3), (32, .aload_n 0, 1), (33, .iconst 0, 1), (34, .putfield 37, 3), (37, .aload_n 0, 1), (38, .iconst 0, 1), (39, .putfield 40, 3), (42, .aload_n 0, 1), (43, .iconst 0, 1), (44, .putfield 43, 3), (47, .aload_n 0, 1), (48, .iconst 0, 1), (49, .putfield 46, 3), (52, .return_, 1)]
theorem D_X10_reset : dOk cX10_reset L_X10_reset = true := by decide +kernel
theorem w_X10_reset_0 {X : Cx} {d : Nat} {S : Mem} {Q : Res → Mem → Prop} (r0 : Nat) (x1 : Int32) (x2 : Int32) (x3 : Int32) (x4 : Int32) (h : (isK S r0 10) ∧ ∀ S2 : Mem, S2 = uI S r0 0 x1 → ∀ S3 : Mem, S3 = uI S2 r0 2 x2 → ∀ S4 : Mem, S4 = uI S3 r0 3 x3 → ∀ S5 : Mem, S5 = uI S4 r0 4 x4 → ∀ S6 : Mem, S6 = uI S5 r0 1 0 → ∀ S7 : Mem, S7 = uI S6 r0 5 (-9) → ∀ S8 : Mem, S8 = uI S7 r0 6 0 → ∀ S9 : Mem, S9 = uI S8 r0 7 0 → ∀ S10 : Mem, S10 = uI S9 r0 8 0 → ∀ S11 : Mem, S11 = uI S10 r0 11 0 → Q (.inl none) S11) : V X d MX10_reset 0 [(0, vR r0), (1, vI x1), (2, vI x2), (3, vI x3), (4, vI x4)] [] S Q := by
  refine V_aload_n (pc2 := 1) (dk D_X10_reset 0 rfl) rfl (V_lg 0 rfl) rfl ?_
  refine V_iload_n (pc2 := 2) (dk D_X10_reset 1 rfl) rfl (V_lg 1 rfl) rfl ?_
  obtain ⟨h1, h⟩ := h
  refine V_putI kc10 (pc2 := 5) 0 (dk D_X10_reset 2 rfl) fl_10_18 (by decide) (Or.inl rfl) rfl rfl h1 ?_
  have h := h _ rfl
  refine V_aload_n (pc2 := 6) (dk D_X10_reset 3 rfl) rfl (V_lg 0 rfl) rfl ?_
  refine V_iload_n (pc2 := 7) (dk D_X10_reset 4 rfl) rfl (V_lg 2 rfl) rfl ?_
  refine V_putI kc10 (pc2 := 10) 2 (dk D_X10_reset 5 rfl) fl_10_22 (by decide) (Or.inl rfl) rfl rfl h1 ?_
  have h := h _ rfl
  refine V_aload_n (pc2 := 11) (dk D_X10_reset 6 rfl) rfl (V_lg 0 rfl) rfl ?_
  refine V_iload_n (pc2 := 12) (dk D_X10_reset 7 rfl) rfl (V_lg 3 rfl) rfl ?_
  refine V_putI kc10 (pc2 := 15) 3 (dk D_X10_reset 8 rfl) fl_10_25 (by decide) (Or.inl rfl) rfl rfl h1 ?_
  have h := h _ rfl
  refine V_aload_n (pc2 := 16) (dk D_X10_reset 9 rfl) rfl (V_lg 0 rfl) rfl ?_
  refine V_iload (pc2 := 18) (dk D_X10_reset 10 rfl) (V_lg 4 rfl) rfl ?_
  refine V_putI kc10 (pc2 := 21) 4 (dk D_X10_reset 11 rfl) fl_10_28 (by decide) (Or.inl rfl) rfl rfl h1 ?_
  have h := h _ rfl
  refine V_aload_n (pc2 := 22) (dk D_X10_reset 12 rfl) rfl (V_lg 0 rfl) rfl ?_
  refine V_iconst (x := 0) (pc2 := 23) (dk D_X10_reset 13 rfl) (by decide) rfl ?_
  refine V_putI kc10 (pc2 := 26) 1 (dk D_X10_reset 14 rfl) fl_10_31 (by decide) (Or.inl rfl) rfl rfl h1 ?_
  have h := h _ rfl
  refine V_aload_n (pc2 := 27) (dk D_X10_reset 15 rfl) rfl (V_lg 0 rfl) rfl ?_
  refine V_bipush (x := (-9)) (pc2 := 29) (dk D_X10_reset 16 rfl) (by decide) rfl ?_
  refine V_putI kc10 (pc2 := 32) 5 (dk D_X10_reset 17 rfl) fl_10_34 (by decide) (Or.inl rfl) rfl rfl h1 ?_
  have h := h _ rfl
  refine V_aload_n (pc2 := 33) (dk D_X10_reset 18 rfl) rfl (V_lg 0 rfl) rfl ?_
  refine V_iconst (x := 0) (pc2 := 34) (dk D_X10_reset 19 rfl) (by decide) rfl ?_
  refine V_putI kc10 (pc2 := 37) 6 (dk D_X10_reset 20 rfl) fl_10_37 (by decide) (Or.inl rfl) rfl rfl h1 ?_
  have h := h _ rfl
  refine V_aload_n (pc2 := 38) (dk D_X10_reset 21 rfl) rfl (V_lg 0 rfl) rfl ?_
  refine V_iconst (x := 0) (pc2 := 39) (dk D_X10_reset 22 rfl) (by decide) rfl ?_
  refine V_putI kc10 (pc2 := 42) 7 (dk D_X10_reset 23 rfl) fl_10_40 (by decide) (Or.inl rfl) rfl rfl h1 ?_
  have h := h _ rfl
  refine V_aload_n (pc2 := 43) (dk D_X10_reset 24 rfl) rfl (V_lg 0 rfl) rfl ?_
  refine V_iconst (x := 0) (pc2 := 44) (dk D_X10_reset 25 rfl) (by decide) rfl ?_
  refine V_putI kc10 (pc2 := 47) 8 (dk D_X10_reset 26 rfl) fl_10_43 (by decide) (Or.inl rfl) rfl rfl h1 ?_
  have h := h _ rfl
  refine V_aload_n (pc2 := 48) (dk D_X10_reset 27 rfl) rfl (V_lg 0 rfl) rfl ?_
  refine V_iconst (x := 0) (pc2 := 49) (dk D_X10_reset 28 rfl) (by decide) rfl ?_
  refine V_putZ kc10 (pc2 := 52) 11 (dk D_X10_reset 29 rfl) fl_10_46 (by decide) (Or.inl rfl) rfl rfl h1 (Or.inl rfl) ?_
  have h := h _ rfl
  exact V_return (dk D_X10_reset 30 rfl) rfl h
def L_X10_isOver : List (Nat × Instr × Nat) := [(0, .aload_n 0, 1), (1, .getfield 31, 3), (4, .iconst 4, 1), (5, .if_icmp .lt 7, 3), (8, .iconst 1, 1), (9, .goto 4, 3), (12, .iconst 0, 1), (13, .ireturn, 1)]
theorem D_X10_isOver : dOk cX10_isOver L_X10_isOver = true := by decide +kernel
theorem w_X10_isOver_0 {X : Cx} {d : Nat} {S : Mem} {Q : Res → Mem → Prop} (r0 : Nat) (h : (isK S r0 10) ∧ (((gI S r0 1) < 4 → V X d MX10_isOver 13 [(0, vR r0)] [vI 0] S Q) ∧ (¬ (gI S r0 1) < 4 → V X d MX10_isOver 13 [(0, vR r0)] [vI 1] S Q))) : V X d MX10_isOver 0 [(0, vR r0)] [] S Q := by
  refine V_aload_n (pc2 := 1) (dk D_X10_isOver 0 rfl) rfl (V_lg 0 rfl) rfl ?_
  obtain ⟨h1, h⟩ := h
  refine V_getI kc10 (pc2 := 4) 1 (dk D_X10_isOver 1 rfl) fl_10_31 (by decide) (fun _ => rfl) rfl h1 ?_
  refine V_iconst (x := 4) (pc2 := 5) (dk D_X10_isOver 2 rfl) (by decide) rfl ?_
  refine V_cmplt (tgt := 12) (pc2 := 8) (dk D_X10_isOver 3 rfl) (by decide) rfl (fun q2 => ?_) (fun q2 => ?_)
  · have h := h.1 q2
    refine V_iconst (x := 0) (pc2 := 13) (dk D_X10_isOver 6 rfl) (by decide) rfl ?_
    exact h
  · have h := h.2 q2
    refine V_iconst (x := 1) (pc2 := 9) (dk D_X10_isOver 4 rfl) (by decide) rfl ?_
    refine V_goto (tgt := 13) (dk D_X10_isOver 5 rfl) (by decide) ?_
    exact h
theorem w_X10_isOver_13 {X : Cx} {d : Nat} {S : Mem} {Q : Res → Mem → Prop} (r0 : Nat) (t0 : Int32) (h : (t0 = 0 ∨ t0 = 1) ∧ Q (.inl (some (vI t0))) S) : V X d MX10_isOver 13 [(0, vR r0)] [vI t0] S Q := by
  obtain ⟨h1, h⟩ := h
  exact V_zreturn (dk D_X10_isOver 7 rfl) rfl h1 h
def L_X10_isReady : List (Nat × Instr × Nat) := [(0, .aload_n 0, 1), (1, .getfield 31, 3), (4, .ifCond .eq 11, 3), (7, .aload_n 0, 1), (8, .getfield 31, 3), (11, .iconst 1, 1), (12, .if_icmp .ne 7, 3), (15, .iconst 1, 1), (16, .goto 4, 3), (19, .iconst 0, 1), (20, .ireturn, 1)]
theorem D_X10_isReady : dOk cX10_isReady L_X10_isReady = true := by decide +kernel
theorem w_X10_isReady_0 {X : Cx} {d : Nat} {S : Mem} {Q : Res → Mem → Prop} (r0 : Nat) (h : (isK S r0 10) ∧ (((gI S r0 1) = 0 → V X d MX10_isReady 15 [(0, vR r0)] [] S Q) ∧ (¬ (gI S r0 1) = 0 → ((¬ (gI S r0 1) = 1 → V X d MX10_isReady 20 [(0, vR r0)] [vI 0] S Q) ∧ ((gI S r0 1) = 1 → V X d MX10_isReady 15 [(0, vR r0)] [] S Q))))) : V X d MX10_isReady 0 [(0, vR r0)] [] S Q := by
  refine V_aload_n (pc2 := 1) (dk D_X10_isReady 0 rfl) rfl (V_lg 0 rfl) rfl ?_
  obtain ⟨h1, h⟩ := h
  refine V_getI kc10 (pc2 := 4) 1 (dk D_X10_isReady 1 rfl) fl_10_31 (by decide) (fun _ => rfl) rfl h1 ?_
  refine V_ifeq (tgt := 15) (pc2 := 7) (dk D_X10_isReady 2 rfl) (by decide) rfl (fun q2 => ?_) (fun q2 => ?_)
  · have h := h.1 q2
    exact h
  · have h := h.2 q2
    refine V_aload_n (pc2 := 8) (dk D_X10_isReady 3 rfl) rfl (V_lg 0 rfl) rfl ?_
    refine V_getI kc10 (pc2 := 11) 1 (dk D_X10_isReady 4 rfl) fl_10_31 (by decide) (fun _ => rfl) rfl h1 ?_
    refine V_iconst (x := 1) (pc2 := 12) (dk D_X10_isReady 5 rfl) (by decide) rfl ?_
    refine V_cmpne (tgt := 19) (pc2 := 15) (dk D_X10_isReady 6 rfl) (by decide) rfl (fun q3 => ?_) (fun q3 => ?_)
    · have h := h.1 q3
      refine V_iconst (x := 0) (pc2 := 20) (dk D_X10_isReady 9 rfl) (by decide) rfl ?_
      exact h
    · have h := h.2 q3
      exact h
theorem w_X10_isReady_15 {X : Cx} {d : Nat} {S : Mem} {Q : Res → Mem → Prop} (r0 : Nat) (h : V X d MX10_isReady 20 [(0, vR r0)] [vI 1] S Q) : V X d MX10_isReady 15 [(0, vR r0)] [] S Q := by
  refine V_iconst (x := 1) (pc2 := 16) (dk D_X10_isReady 7 rfl) (by decide) rfl ?_
  refine V_goto (tgt := 20) (dk D_X10_isReady 8 rfl) (by decide) ?_
  exact h
theorem w_X10_isReady_20 {X : Cx} {d : Nat} {S : Mem} {Q : Res → Mem → Prop} (r0 : Nat) (t0 : Int32) (h : (t0 = 0 ∨ t0 = 1) ∧ Q (.inl (some (vI t0))) S) : V X d MX10_isReady 20 [(0, vR r0)] [vI t0] S Q := by
  obtain ⟨h1, h⟩ := h
  exact V_zreturn (dk D_X10_isReady 10 rfl) rfl h1 h
def L_X10_isLost : List (Nat × Instr × Nat) := [(0, .aload_n 0, 1), (1, .getfield 50, 3), (4, .ifCond .ne 14, 3), (7, .aload_n 0, 1), (8, .invokevirtual 53, 3), (11, .ifCond .ne 7, 3), (14, .iconst 1, 1), (15, .goto 4, 3), (18, .iconst 0, 1), (19, .ireturn, 1)]
theorem D_X10_isLost : dOk cX10_isLost L_X10_isLost = true := by decide +kernel
theorem w_X10_isLost_0 {X : Cx} {d : Nat} {S : Mem} {Q : Res → Mem → Prop} (r0 : Nat) (h : (isK S r0 10) ∧ ((¬ (gI S r0 10) = 0 → V X d MX10_isLost 18 [(0, vR r0)] [] S Q) ∧ ((gI S r0 10) = 0 → ∃ e3 : Nat, e3 + 1 ≤ d ∧ C X e3 MX10_isOver [vR r0] S (RI fun y6 S7 => ((¬ y6 = 0 → V X d MX10_isLost 18 [(0, vR r0)] [] S7 Q) ∧ (y6 = 0 → V X d MX10_isLost 19 [(0, vR r0)] [vI 1] S7 Q)))))) : V X d MX10_isLost 0 [(0, vR r0)] [] S Q := by
  refine V_aload_n (pc2 := 1) (dk D_X10_isLost 0 rfl) rfl (V_lg 0 rfl) rfl ?_
  obtain ⟨h1, h⟩ := h
  refine V_getI kc10 (pc2 := 4) 10 (dk D_X10_isLost 1 rfl) fl_10_50 (by decide) (fun _ => rfl) rfl h1 ?_
  refine V_ifne (tgt := 18) (pc2 := 7) (dk D_X10_isLost 2 rfl) (by decide) rfl (fun q2 => ?_) (fun q2 => ?_)
  · have h := h.1 q2
    exact h
  · have h := h.2 q2
    refine V_aload_n (pc2 := 8) (dk D_X10_isLost 3 rfl) rfl (V_lg 0 rfl) rfl ?_
    obtain ⟨e3, he4, hc5⟩ := h
    refine V_callV (as := []) (st := []) (M' := MX10_isOver) (ci := 10) (pc2 := 11) (dk D_X10_isLost 4 rfl) ml_10_53 mv_X10_isOver rfl rfl (by decide) rfl (Nat.le_of_ble_eq_true rfl) rfl he4 h1 hc5 (RI.k fun y6 S7 h => ?_)
    refine V_ifne (tgt := 18) (pc2 := 14) (dk D_X10_isLost 5 rfl) (by decide) rfl (fun q8 => ?_) (fun q8 => ?_)
    · have h := h.1 q8
      exact h
    · have h := h.2 q8
      refine V_iconst (x := 1) (pc2 := 15) (dk D_X10_isLost 6 rfl) (by decide) rfl ?_
      refine V_goto (tgt := 19) (dk D_X10_isLost 7 rfl) (by decide) ?_
      exact h
theorem w_X10_isLost_18 {X : Cx} {d : Nat} {S : Mem} {Q : Res → Mem → Prop} (r0 : Nat) (h : V X d MX10_isLost 19 [(0, vR r0)] [vI 0] S Q) : V X d MX10_isLost 18 [(0, vR r0)] [] S Q := by
  refine V_iconst (x := 0) (pc2 := 19) (dk D_X10_isLost 8 rfl) (by decide) rfl ?_
  exact h
theorem w_X10_isLost_19 {X : Cx} {d : Nat} {S : Mem} {Q : Res → Mem → Prop} (r0 : Nat) (t0 : Int32) (h : (t0 = 0 ∨ t0 = 1) ∧ Q (.inl (some (vI t0))) S) : V X d MX10_isLost 19 [(0, vR r0)] [vI t0] S Q := by
  obtain ⟨h1, h⟩ := h
  exact V_zreturn (dk D_X10_isLost 9 rfl) rfl h1 h
def L_X10_begin : List (Nat × Instr × Nat) := [(0, .aload_n 0, 1), (1, .aload_n 1, 1), (2, .ifnonnull 10, 3), (5, .bipush 40, 2), (7, .newarray .int, 2), (9, .goto 4, 3), (12, .aload_n 1, 1), (13, .putfield 15, 3), (16, .aload_n 0, 1), (17, .iconst 0, 1), (18, .aload_n 0, 1), (19, .getfield 25, 3), (22, .invokevirtual 57, 3), (25, .aload_n 0, 1), (26, .iconst 1, 1), (27, .putfield 61, 3), (30, .aload_n 0, 1), (31, .iconst 0, 1), (32, .putfield 64, 3), (35, .aload_n 0, 1), (36, .bipush (-9), 2), (38, .putfield 67, 3), (41, .aload_n 0, 1), (42, .bipush (-9), 2), (44, .putfield 70, 3), (47, .return_, 1)]
theorem D_X10_begin : dOk cX10_begin L_X10_begin = true := by decide +kernel
theorem w_X10_begin_0 {X : Cx} {d : Nat} {S : Mem} {Q : Res → Mem → Prop} (r0 : Nat) (r1 : Nat) (h : ((¬ r1 = 0 → V X d MX10_begin 13 [(0, vR r0), (1, vR r1)] [vR r1, vR r0] S Q) ∧ (r1 = 0 → ∀ S3 : Mem, S3 = nw S 21 40 40 → V X d MX10_begin 13 [(0, vR r0), (1, vR r1)] [vR (tp S), vR r0] S3 Q))) : V X d MX10_begin 0 [(0, vR r0), (1, vR r1)] [] S Q := by
  refine V_aload_n (pc2 := 1) (dk D_X10_begin 0 rfl) rfl (V_lg 0 rfl) rfl ?_
  refine V_aload_n (pc2 := 2) (dk D_X10_begin 1 rfl) rfl (V_lg 1 rfl) rfl ?_
  refine V_ifnonnull (tgt := 12) (pc2 := 5) (dk D_X10_begin 2 rfl) (by decide) rfl (fun q1 => ?_) (fun q1 => ?_)
  · have h := h.1 q1
    refine V_aload_n (pc2 := 13) (dk D_X10_begin 6 rfl) rfl (V_lg 1 rfl) rfl ?_
    exact h
  · have h := h.2 q1
    refine V_bipush (x := 40) (pc2 := 7) (dk D_X10_begin 3 rfl) (by decide) rfl ?_
    have hd2 : decode MX10_begin.2.1 7 = .ok (.newarray .int, 2) := dk D_X10_begin 4 rfl
    refine V_newa21 (n := 40) (pc2 := 9) hd2 ac_21 rfl (litI 40) (Nat.le_of_ble_eq_true rfl) ?_
    have h := h _ rfl
    refine V_goto (tgt := 13) (dk D_X10_begin 5 rfl) (by decide) ?_
    exact h
theorem w_X10_begin_13 {X : Cx} {d : Nat} {S : Mem} {Q : Res → Mem → Prop} (r0 : Nat) (r1 : Nat) (t0 : Nat) (t1 : Nat) (h : (isK S t0 10) ∧ ∀ S2 : Mem, S2 = uR S t0 12 t1 → (isK S r0 10) ∧ ∃ e4 : Nat, e4 + 1 ≤ d ∧ C X e4 MX10_put [vR r0, vI 0, vI (gI S r0 3)] S2 (RV fun  S7 => (isK S7 r0 10) ∧ ∀ S9 : Mem, S9 = uI S7 r0 13 1 → ∀ S10 : Mem, S10 = uI S9 r0 14 0 → ∀ S11 : Mem, S11 = uI S10 r0 15 (-9) → ∀ S12 : Mem, S12 = uI S11 r0 9 (-9) → Q (.inl none) S12)) : V X d MX10_begin 13 [(0, vR r0), (1, vR r1)] [vR t1, vR t0] S Q := by
  obtain ⟨h1, h⟩ := h
  refine V_putR kc10 (pc2 := 16) 12 (dk D_X10_begin 7 rfl) fl_10_15 (by decide) (Or.inl rfl) (Or.inr ⟨_, rfl⟩) rfl h1 ?_
  have h := h _ rfl
  refine V_aload_n (pc2 := 17) (dk D_X10_begin 8 rfl) rfl (V_lg 0 rfl) rfl ?_
  refine V_iconst (x := 0) (pc2 := 18) (dk D_X10_begin 9 rfl) (by decide) rfl ?_
  refine V_aload_n (pc2 := 19) (dk D_X10_begin 10 rfl) rfl (V_lg 0 rfl) rfl ?_
  obtain ⟨h3, h⟩ := h
  refine V_getI kc10 (pc2 := 22) 3 (dk D_X10_begin 11 rfl) fl_10_25 (by decide) (fun _ => rfl) rfl h3 ?_
  obtain ⟨e4, he5, hc6⟩ := h
  refine V_callV (as := [_, _]) (st := []) (M' := MX10_put) (ci := 10) (pc2 := 25) (dk D_X10_begin 12 rfl) ml_10_57 mv_X10_put rfl rfl (by decide) rfl (Nat.le_of_ble_eq_true rfl) rfl he5 h3 hc6 (RV.k fun  S7 h => ?_)
  refine V_aload_n (pc2 := 26) (dk D_X10_begin 13 rfl) rfl (V_lg 0 rfl) rfl ?_
  refine V_iconst (x := 1) (pc2 := 27) (dk D_X10_begin 14 rfl) (by decide) rfl ?_
  obtain ⟨h8, h⟩ := h
  refine V_putI kc10 (pc2 := 30) 13 (dk D_X10_begin 15 rfl) fl_10_61 (by decide) (Or.inl rfl) rfl rfl h8 ?_
  have h := h _ rfl
  refine V_aload_n (pc2 := 31) (dk D_X10_begin 16 rfl) rfl (V_lg 0 rfl) rfl ?_
  refine V_iconst (x := 0) (pc2 := 32) (dk D_X10_begin 17 rfl) (by decide) rfl ?_
  refine V_putI kc10 (pc2 := 35) 14 (dk D_X10_begin 18 rfl) fl_10_64 (by decide) (Or.inl rfl) rfl rfl h8 ?_
  have h := h _ rfl
  refine V_aload_n (pc2 := 36) (dk D_X10_begin 19 rfl) rfl (V_lg 0 rfl) rfl ?_
  refine V_bipush (x := (-9)) (pc2 := 38) (dk D_X10_begin 20 rfl) (by decide) rfl ?_
  refine V_putI kc10 (pc2 := 41) 15 (dk D_X10_begin 21 rfl) fl_10_67 (by decide) (Or.inl rfl) rfl rfl h8 ?_
  have h := h _ rfl
  refine V_aload_n (pc2 := 42) (dk D_X10_begin 22 rfl) rfl (V_lg 0 rfl) rfl ?_
  refine V_bipush (x := (-9)) (pc2 := 44) (dk D_X10_begin 23 rfl) (by decide) rfl ?_
  refine V_putI kc10 (pc2 := 47) 9 (dk D_X10_begin 24 rfl) fl_10_70 (by decide) (Or.inl rfl) rfl rfl h8 ?_
  have h := h _ rfl
  exact V_return (dk D_X10_begin 25 rfl) rfl h
def L_X10_end : List (Nat × Instr × Nat) := [(0, .aload_n 0, 1), (1, .getfield 15, 3), (4, .arraylength, 1), (5, .ifCond .ne 7, 3), (8, .aconst_null, 1), (9, .goto 7, 3), (12, .aload_n 0, 1), (13, .getfield 15, 3), (16, .astore_n 2, 1), (17, .aload_n 0, 1), (18, .iload_n 1, 1), (19, .putfield 31, 3), (22, .aload_n 0, 1), (23, .iconst 0, 1), (24, .putfield 43, 3), (27, .aload_n 0, 1), (28, .getstatic 9, 3), (31, .putfield 15, 3), (34, .aload_n 2, 1), (35, .areturn, 1)]
theorem D_X10_end : dOk cX10_end L_X10_end = true := by decide +kernel
theorem w_X10_end_0 {X : Cx} {d : Nat} {S : Mem} {Q : Res → Mem → Prop} (r0 : Nat) (x1 : Int32) (h : (isK S r0 10) ∧ (isK S (gR S r0 12) 21) ∧ ((¬ (nI (gN S (gR S r0 12))) = 0 → V X d MX10_end 16 [(0, vR r0), (1, vI x1)] [vR (gR S r0 12)] S Q) ∧ ((nI (gN S (gR S r0 12))) = 0 → V X d MX10_end 16 [(0, vR r0), (1, vI x1)] [vR 0] S Q))) : V X d MX10_end 0 [(0, vR r0), (1, vI x1)] [] S Q := by
  refine V_aload_n (pc2 := 1) (dk D_X10_end 0 rfl) rfl (V_lg 0 rfl) rfl ?_
  obtain ⟨h1, h⟩ := h
  refine V_getR kc10 (pc2 := 4) 12 (dk D_X10_end 1 rfl) fl_10_15 (by decide) (fun _ => rfl) rfl h1 ?_
  obtain ⟨h2, h⟩ := h
  refine V_alenI (pc2 := 5) (dk D_X10_end 2 rfl) rfl h2 ?_
  refine V_ifne (tgt := 12) (pc2 := 8) (dk D_X10_end 3 rfl) (by decide) rfl (fun q3 => ?_) (fun q3 => ?_)
  · have h := h.1 q3
    refine V_aload_n (pc2 := 13) (dk D_X10_end 6 rfl) rfl (V_lg 0 rfl) rfl ?_
    refine V_getR kc10 (pc2 := 16) 12 (dk D_X10_end 7 rfl) fl_10_15 (by decide) (fun _ => rfl) rfl h1 ?_
    exact h
  · have h := h.2 q3
    refine V_null (pc2 := 9) (dk D_X10_end 4 rfl) rfl ?_
    refine V_goto (tgt := 16) (dk D_X10_end 5 rfl) (by decide) ?_
    exact h
theorem w_X10_end_16 {X : Cx} {d : Nat} {S : Mem} {Q : Res → Mem → Prop} (r0 : Nat) (x1 : Int32) (t0 : Nat) (h : (isK S r0 10) ∧ ∀ S2 : Mem, S2 = uI S r0 1 x1 → ∀ S3 : Mem, S3 = uI S2 r0 8 0 → ∀ S4 : Mem, S4 = uR S3 r0 12 27 → Q (.inl (some (vR t0))) S4) : V X d MX10_end 16 [(0, vR r0), (1, vI x1)] [vR t0] S Q := by
  refine V_astore_n (pc2 := 17) (lv2 := [(0, _), (1, _), (2, _)]) (dk D_X10_end 8 rfl) rfl (by decide) rfl rfl ?_
  refine V_aload_n (pc2 := 18) (dk D_X10_end 9 rfl) rfl (V_lg 0 rfl) rfl ?_
  refine V_iload_n (pc2 := 19) (dk D_X10_end 10 rfl) rfl (V_lg 1 rfl) rfl ?_
  obtain ⟨h1, h⟩ := h
  refine V_putI kc10 (pc2 := 22) 1 (dk D_X10_end 11 rfl) fl_10_31 (by decide) (Or.inl rfl) rfl rfl h1 ?_
  have h := h _ rfl
  refine V_aload_n (pc2 := 23) (dk D_X10_end 12 rfl) rfl (V_lg 0 rfl) rfl ?_
  refine V_iconst (x := 0) (pc2 := 24) (dk D_X10_end 13 rfl) (by decide) rfl ?_
  refine V_putI kc10 (pc2 := 27) 8 (dk D_X10_end 14 rfl) fl_10_43 (by decide) (Or.inl rfl) rfl rfl h1 ?_
  have h := h _ rfl
  refine V_aload_n (pc2 := 28) (dk D_X10_end 15 rfl) rfl (V_lg 0 rfl) rfl ?_
  refine V_nocells (pc2 := 31) (dk D_X10_end 16 rfl) fl_10_9 rfl ?_
  refine V_putR kc10 (pc2 := 34) 12 (dk D_X10_end 17 rfl) fl_10_15 (by decide) (Or.inl rfl) (Or.inr ⟨_, rfl⟩) rfl h1 ?_
  have h := h _ rfl
  refine V_aload_n (pc2 := 35) (dk D_X10_end 18 rfl) rfl (V_lg 2 rfl) rfl ?_
  exact V_areturn (dk D_X10_end 19 rfl) rfl (Or.inr ⟨_, rfl⟩) h
def L_X10_push : List (Nat × Instr × Nat) := [(0, .aload_n 0, 1), (1, .getfield 61, 3), (4, .aload_n 0, 1), (5, .getfield 15, 3), (8, .arraylength, 1), (9, .if_icmp .lt 22, 3), (12, .aload_n 0, 1), (13, .aload_n 0, 1), (14, .getfield 15, 3), (17, .iconst 2, 1), (18, .aload_n 0, 1), (19, .getfield 61, 3), (22, .imul, 1), (23, .iconst 1, 1), (24, .iadd, 1), (25, .invokestatic 73, 3), (28, .putfield 15, 3), (31, .aload_n 0, 1), (32, .getfield 61, 3), (35, .ifCond .lt 23, 3), (38, .aload_n 0, 1), (39, .getfield 15, 3), (42, .aload_n 0, 1), (43, .getfield 61, 3), (46, .iload_n 1, 1), (47, .iastore, 1), (48, .aload_n 0, 1), (49, .dup, 1), (50, .getfield 61, 3), (53, .iconst 1, 1), (54, .iadd, 1), (55, .putfield 61, 3), (58, .return_, 1)]
theorem D_X10_push : dOk cX10_push L_X10_push = true := by decide +kernel
theorem w_X10_push_0 {X : Cx} {d : Nat} {S : Mem} {Q : Res → Mem → Prop} (r0 : Nat) (x1 : Int32) (h : (isK S r0 10) ∧ (isK S (gR S r0 12) 21) ∧ (((gI S r0 13) < (nI (gN S (gR S r0 12))) → V X d MX10_push 31 [(0, vR r0), (1, vI x1)] [] S Q) ∧ (¬ (gI S r0 13) < (nI (gN S (gR S r0 12))) → ∃ e4 : Nat, e4 + 1 ≤ d ∧ C X e4 MJ7_copyOf_59c91 [vR (gR S r0 12), vI ((2 * (gI S r0 13)) + 1)] S (RR fun p7 S8 => (isK S8 r0 10) ∧ ∀ S10 : Mem, S10 = uR S8 r0 12 p7 → V X d MX10_push 31 [(0, vR r0), (1, vI x1)] [] S10 Q)))) : V X d MX10_push 0 [(0, vR r0), (1, vI x1)] [] S Q := by
  refine V_aload_n (pc2 := 1) (dk D_X10_push 0 rfl) rfl (V_lg 0 rfl) rfl ?_
  obtain ⟨h1, h⟩ := h
  refine V_getI kc10 (pc2 := 4) 13 (dk D_X10_push 1 rfl) fl_10_61 (by decide) (fun _ => rfl) rfl h1 ?_
  refine V_aload_n (pc2 := 5) (dk D_X10_push 2 rfl) rfl (V_lg 0 rfl) rfl ?_
  refine V_getR kc10 (pc2 := 8) 12 (dk D_X10_push 3 rfl) fl_10_15 (by decide) (fun _ => rfl) rfl h1 ?_
  obtain ⟨h2, h⟩ := h
  refine V_alenI (pc2 := 9) (dk D_X10_push 4 rfl) rfl h2 ?_
  refine V_cmplt (tgt := 31) (pc2 := 12) (dk D_X10_push 5 rfl) (by decide) rfl (fun q3 => ?_) (fun q3 => ?_)
  · have h := h.1 q3
    exact h
  · have h := h.2 q3
    refine V_aload_n (pc2 := 13) (dk D_X10_push 6 rfl) rfl (V_lg 0 rfl) rfl ?_
    refine V_aload_n (pc2 := 14) (dk D_X10_push 7 rfl) rfl (V_lg 0 rfl) rfl ?_
    refine V_getR kc10 (pc2 := 17) 12 (dk D_X10_push 8 rfl) fl_10_15 (by decide) (fun _ => rfl) rfl h1 ?_
    refine V_iconst (x := 2) (pc2 := 18) (dk D_X10_push 9 rfl) (by decide) rfl ?_
    refine V_aload_n (pc2 := 19) (dk D_X10_push 10 rfl) rfl (V_lg 0 rfl) rfl ?_
    refine V_getI kc10 (pc2 := 22) 13 (dk D_X10_push 11 rfl) fl_10_61 (by decide) (fun _ => rfl) rfl h1 ?_
    refine V_imul (pc2 := 23) (dk D_X10_push 12 rfl) rfl ?_
    refine V_iconst (x := 1) (pc2 := 24) (dk D_X10_push 13 rfl) (by decide) rfl ?_
    refine V_iadd (pc2 := 25) (dk D_X10_push 14 rfl) rfl ?_
    obtain ⟨e4, he5, hc6⟩ := h
    refine V_callS (as := [_, _]) (st := [_]) (M' := MJ7_copyOf_59c91) (pc2 := 28) (dk D_X10_push 15 rfl) ml_10_73 mv_J7_copyOf_59c91 rfl rfl (Nat.le_of_ble_eq_true rfl) rfl he5 hc6 (RR.k fun p7 S8 h => ?_)
    obtain ⟨h9, h⟩ := h
    refine V_putR kc10 (pc2 := 31) 12 (dk D_X10_push 16 rfl) fl_10_15 (by decide) (Or.inl rfl) (Or.inr ⟨_, rfl⟩) rfl h9 ?_
    have h := h _ rfl
    exact h
theorem w_X10_push_31 {X : Cx} {d : Nat} {S : Mem} {Q : Res → Mem → Prop} (r0 : Nat) (x1 : Int32) (h : (isK S r0 10) ∧ (((gI S r0 13) < 0 → V X d MX10_push 58 [(0, vR r0), (1, vI x1)] [] S Q) ∧ (¬ (gI S r0 13) < 0 → (isK S (gR S r0 12) 21) ∧ (vp_in (gI S r0 13) (gN S (gR S r0 12))) ∧ ∀ S5 : Mem, S5 = uI S (gR S r0 12) (((gI S r0 13) : Int32).toNatClampNeg) x1 → ∀ S6 : Mem, S6 = uI S5 r0 13 ((gI S5 r0 13) + 1) → V X d MX10_push 58 [(0, vR r0), (1, vI x1)] [] S6 Q))) : V X d MX10_push 31 [(0, vR r0), (1, vI x1)] [] S Q := by
  refine V_aload_n (pc2 := 32) (dk D_X10_push 17 rfl) rfl (V_lg 0 rfl) rfl ?_
  obtain ⟨h1, h⟩ := h
  refine V_getI kc10 (pc2 := 35) 13 (dk D_X10_push 18 rfl) fl_10_61 (by decide) (fun _ => rfl) rfl h1 ?_
  refine V_iflt (tgt := 58) (pc2 := 38) (dk D_X10_push 19 rfl) (by decide) rfl (fun q2 => ?_) (fun q2 => ?_)
  · have h := h.1 q2
    exact h
  · have h := h.2 q2
    refine V_aload_n (pc2 := 39) (dk D_X10_push 20 rfl) rfl (V_lg 0 rfl) rfl ?_
    refine V_getR kc10 (pc2 := 42) 12 (dk D_X10_push 21 rfl) fl_10_15 (by decide) (fun _ => rfl) rfl h1 ?_
    refine V_aload_n (pc2 := 43) (dk D_X10_push 22 rfl) rfl (V_lg 0 rfl) rfl ?_
    refine V_getI kc10 (pc2 := 46) 13 (dk D_X10_push 23 rfl) fl_10_61 (by decide) (fun _ => rfl) rfl h1 ?_
    refine V_iload_n (pc2 := 47) (dk D_X10_push 24 rfl) rfl (V_lg 1 rfl) rfl ?_
    obtain ⟨h3, h⟩ := h
    obtain ⟨h4, h⟩ := h
    refine V_iast (pc2 := 48) (dk D_X10_push 25 rfl) rfl h3 h4 ?_
    have h := h _ rfl
    refine V_aload_n (pc2 := 49) (dk D_X10_push 26 rfl) rfl (V_lg 0 rfl) rfl ?_
    refine V_dup (pc2 := 50) (dk D_X10_push 27 rfl) rfl rfl ?_
    refine V_getI kc10 (pc2 := 53) 13 (dk D_X10_push 28 rfl) fl_10_61 (by decide) (fun _ => rfl) rfl h1 ?_
    refine V_iconst (x := 1) (pc2 := 54) (dk D_X10_push 29 rfl) (by decide) rfl ?_
    refine V_iadd (pc2 := 55) (dk D_X10_push 30 rfl) rfl ?_
    refine V_putI kc10 (pc2 := 58) 13 (dk D_X10_push 31 rfl) fl_10_61 (by decide) (Or.inl rfl) rfl rfl h1 ?_
    have h := h _ rfl
    exact h
theorem w_X10_push_58 {X : Cx} {d : Nat} {S : Mem} {Q : Res → Mem → Prop} (r0 : Nat) (x1 : Int32) (h : Q (.inl none) S) : V X d MX10_push 58 [(0, vR r0), (1, vI x1)] [] S Q := by
  exact V_return (dk D_X10_push 32 rfl) rfl h
def L_X10_pop : List (Nat × Instr × Nat) := [(0, .aload_n 0, 1), (1, .getfield 61, 3), (4, .ifCond .le 15, 3), (7, .aload_n 0, 1), (8, .getfield 61, 3), (11, .aload_n 0, 1), (12, .getfield 15, 3), (15, .arraylength, 1), (16, .if_icmp .le 5, 3), (19, .iconst 0, 1), (20, .ireturn, 1), (21, .aload_n 0, 1), (22, .dup, 1), (23, .getfield 61, 3), (26, .iconst 1, 1), (27, .isub, 1), (28, .putfield 61, 3), (31, .aload_n 0, 1), (32, .getfield 15, 3), (35, .aload_n 0, 1), (36, .getfield 61, 3), (39, .iaload, 1), (40, .ireturn, 1)]
theorem D_X10_pop : dOk cX10_pop L_X10_pop = true := by decide +kernel
theorem w_X10_pop_0 {X : Cx} {d : Nat} {S : Mem} {Q : Res → Mem → Prop} (r0 : Nat) (h : (isK S r0 10) ∧ (((gI S r0 13) ≤ 0 → V X d MX10_pop 19 [(0, vR r0)] [] S Q) ∧ (¬ (gI S r0 13) ≤ 0 → (isK S (gR S r0 12) 21) ∧ (((gI S r0 13) ≤ (nI (gN S (gR S r0 12))) → ∀ S5 : Mem, S5 = uI S r0 13 ((gI S r0 13) - 1) → (vp_in (gI S5 r0 13) (gN S (gR S r0 12))) ∧ Q (.inl (some (vI (gI S5 (gR S r0 12) ((gI S5 r0 13) : Int32).toNatClampNeg)))) S5) ∧ (¬ (gI S r0 13) ≤ (nI (gN S (gR S r0 12))) → V X d MX10_pop 19 [(0, vR r0)] [] S Q))))) : V X d MX10_pop 0 [(0, vR r0)] [] S Q := by
  refine V_aload_n (pc2 := 1) (dk D_X10_pop 0 rfl) rfl (V_lg 0 rfl) rfl ?_
  obtain ⟨h1, h⟩ := h
  refine V_getI kc10 (pc2 := 4) 13 (dk D_X10_pop 1 rfl) fl_10_61 (by decide) (fun _ => rfl) rfl h1 ?_
  refine V_ifle (tgt := 19) (pc2 := 7) (dk D_X10_pop 2 rfl) (by decide) rfl (fun q2 => ?_) (fun q2 => ?_)
  · have h := h.1 q2
    exact h
  · have h := h.2 q2
    refine V_aload_n (pc2 := 8) (dk D_X10_pop 3 rfl) rfl (V_lg 0 rfl) rfl ?_
    refine V_getI kc10 (pc2 := 11) 13 (dk D_X10_pop 4 rfl) fl_10_61 (by decide) (fun _ => rfl) rfl h1 ?_
    refine V_aload_n (pc2 := 12) (dk D_X10_pop 5 rfl) rfl (V_lg 0 rfl) rfl ?_
    refine V_getR kc10 (pc2 := 15) 12 (dk D_X10_pop 6 rfl) fl_10_15 (by decide) (fun _ => rfl) rfl h1 ?_
    obtain ⟨h3, h⟩ := h
    refine V_alenI (pc2 := 16) (dk D_X10_pop 7 rfl) rfl h3 ?_
    refine V_cmple (tgt := 21) (pc2 := 19) (dk D_X10_pop 8 rfl) (by decide) rfl (fun q4 => ?_) (fun q4 => ?_)
    · have h := h.1 q4
      refine V_aload_n (pc2 := 22) (dk D_X10_pop 11 rfl) rfl (V_lg 0 rfl) rfl ?_
      refine V_dup (pc2 := 23) (dk D_X10_pop 12 rfl) rfl rfl ?_
      refine V_getI kc10 (pc2 := 26) 13 (dk D_X10_pop 13 rfl) fl_10_61 (by decide) (fun _ => rfl) rfl h1 ?_
      refine V_iconst (x := 1) (pc2 := 27) (dk D_X10_pop 14 rfl) (by decide) rfl ?_
      refine V_isub (pc2 := 28) (dk D_X10_pop 15 rfl) rfl ?_
      refine V_putI kc10 (pc2 := 31) 13 (dk D_X10_pop 16 rfl) fl_10_61 (by decide) (Or.inl rfl) rfl rfl h1 ?_
      have h := h _ rfl
      refine V_aload_n (pc2 := 32) (dk D_X10_pop 17 rfl) rfl (V_lg 0 rfl) rfl ?_
      refine V_getR kc10 (pc2 := 35) 12 (dk D_X10_pop 18 rfl) fl_10_15 (by decide) (fun _ => rfl) rfl h1 ?_
      refine V_aload_n (pc2 := 36) (dk D_X10_pop 19 rfl) rfl (V_lg 0 rfl) rfl ?_
      refine V_getI kc10 (pc2 := 39) 13 (dk D_X10_pop 20 rfl) fl_10_61 (by decide) (fun _ => rfl) rfl h1 ?_
      obtain ⟨h6, h⟩ := h
      refine V_iald (pc2 := 40) (dk D_X10_pop 21 rfl) rfl h3 h6 ?_
      exact V_ireturn (dk D_X10_pop 22 rfl) rfl h
    · have h := h.2 q4
      exact h
theorem w_X10_pop_19 {X : Cx} {d : Nat} {S : Mem} {Q : Res → Mem → Prop} (r0 : Nat) (h : Q (.inl (some (vI 0))) S) : V X d MX10_pop 19 [(0, vR r0)] [] S Q := by
  refine V_iconst (x := 0) (pc2 := 20) (dk D_X10_pop 9 rfl) (by decide) rfl ?_
  exact V_ireturn (dk D_X10_pop 10 rfl) rfl h
def L_X10_peek : List (Nat × Instr × Nat) := [(0, .aload_n 0, 1), (1, .aload_n 0, 1), (2, .getfield 61, 3), (5, .iconst 1, 1), (6, .isub, 1), (7, .invokevirtual 79, 3), (10, .ireturn, 1)]
theorem D_X10_peek : dOk cX10_peek L_X10_peek = true := by decide +kernel
theorem w_X10_peek_0 {X : Cx} {d : Nat} {S : Mem} {Q : Res → Mem → Prop} (r0 : Nat) (h : (isK S r0 10) ∧ ∃ e2 : Nat, e2 + 1 ≤ d ∧ C X e2 MX10_cell [vR r0, vI ((gI S r0 13) - 1)] S (RI fun y5 S6 => Q (.inl (some (vI y5))) S6)) : V X d MX10_peek 0 [(0, vR r0)] [] S Q := by
  refine V_aload_n (pc2 := 1) (dk D_X10_peek 0 rfl) rfl (V_lg 0 rfl) rfl ?_
  refine V_aload_n (pc2 := 2) (dk D_X10_peek 1 rfl) rfl (V_lg 0 rfl) rfl ?_
  obtain ⟨h1, h⟩ := h
  refine V_getI kc10 (pc2 := 5) 13 (dk D_X10_peek 2 rfl) fl_10_61 (by decide) (fun _ => rfl) rfl h1 ?_
  refine V_iconst (x := 1) (pc2 := 6) (dk D_X10_peek 3 rfl) (by decide) rfl ?_
  refine V_isub (pc2 := 7) (dk D_X10_peek 4 rfl) rfl ?_
  obtain ⟨e2, he3, hc4⟩ := h
  refine V_callV (as := [_]) (st := []) (M' := MX10_cell) (ci := 10) (pc2 := 10) (dk D_X10_peek 5 rfl) ml_10_79 mv_X10_cell rfl rfl (by decide) rfl (Nat.le_of_ble_eq_true rfl) rfl he3 h1 hc4 (RI.k fun y5 S6 h => ?_)
  exact V_ireturn (dk D_X10_peek 6 rfl) rfl h
def L_X10_cell : List (Nat × Instr × Nat) := [(0, .iload_n 1, 1), (1, .ifCond .lt 12, 3), (4, .iload_n 1, 1), (5, .aload_n 0, 1), (6, .getfield 15, 3), (9, .arraylength, 1), (10, .if_icmp .lt 7, 3), (13, .iconst 0, 1), (14, .goto 9, 3), (17, .aload_n 0, 1), (18, .getfield 15, 3), (21, .iload_n 1, 1), (22, .iaload, 1), (23, .ireturn, 1)]
theorem D_X10_cell : dOk cX10_cell L_X10_cell = true := by decide +kernel
theorem w_X10_cell_0 {X : Cx} {d : Nat} {S : Mem} {Q : Res → Mem → Prop} (r0 : Nat) (x1 : Int32) (h : ((x1 < 0 → V X d MX10_cell 13 [(0, vR r0), (1, vI x1)] [] S Q) ∧ (¬ x1 < 0 → (isK S r0 10) ∧ (isK S (gR S r0 12) 21) ∧ ((x1 < (nI (gN S (gR S r0 12))) → (vp_in x1 (gN S (gR S r0 12))) ∧ V X d MX10_cell 23 [(0, vR r0), (1, vI x1)] [vI (gI S (gR S r0 12) (x1 : Int32).toNatClampNeg)] S Q) ∧ (¬ x1 < (nI (gN S (gR S r0 12))) → V X d MX10_cell 13 [(0, vR r0), (1, vI x1)] [] S Q))))) : V X d MX10_cell 0 [(0, vR r0), (1, vI x1)] [] S Q := by
  refine V_iload_n (pc2 := 1) (dk D_X10_cell 0 rfl) rfl (V_lg 1 rfl) rfl ?_
  refine V_iflt (tgt := 13) (pc2 := 4) (dk D_X10_cell 1 rfl) (by decide) rfl (fun q1 => ?_) (fun q1 => ?_)
  · have h := h.1 q1
    exact h
  · have h := h.2 q1
    refine V_iload_n (pc2 := 5) (dk D_X10_cell 2 rfl) rfl (V_lg 1 rfl) rfl ?_
    refine V_aload_n (pc2 := 6) (dk D_X10_cell 3 rfl) rfl (V_lg 0 rfl) rfl ?_
    obtain ⟨h2, h⟩ := h
    refine V_getR kc10 (pc2 := 9) 12 (dk D_X10_cell 4 rfl) fl_10_15 (by decide) (fun _ => rfl) rfl h2 ?_
    obtain ⟨h3, h⟩ := h
    refine V_alenI (pc2 := 10) (dk D_X10_cell 5 rfl) rfl h3 ?_
    refine V_cmplt (tgt := 17) (pc2 := 13) (dk D_X10_cell 6 rfl) (by decide) rfl (fun q4 => ?_) (fun q4 => ?_)
    · have h := h.1 q4
      refine V_aload_n (pc2 := 18) (dk D_X10_cell 9 rfl) rfl (V_lg 0 rfl) rfl ?_
      refine V_getR kc10 (pc2 := 21) 12 (dk D_X10_cell 10 rfl) fl_10_15 (by decide) (fun _ => rfl) rfl h2 ?_
      refine V_iload_n (pc2 := 22) (dk D_X10_cell 11 rfl) rfl (V_lg 1 rfl) rfl ?_
      obtain ⟨h5, h⟩ := h
      refine V_iald (pc2 := 23) (dk D_X10_cell 12 rfl) rfl h3 h5 ?_
      exact h
    · have h := h.2 q4
      exact h
theorem w_X10_cell_13 {X : Cx} {d : Nat} {S : Mem} {Q : Res → Mem → Prop} (r0 : Nat) (x1 : Int32) (h : V X d MX10_cell 23 [(0, vR r0), (1, vI x1)] [vI 0] S Q) : V X d MX10_cell 13 [(0, vR r0), (1, vI x1)] [] S Q := by
  refine V_iconst (x := 0) (pc2 := 14) (dk D_X10_cell 7 rfl) (by decide) rfl ?_
  refine V_goto (tgt := 23) (dk D_X10_cell 8 rfl) (by decide) ?_
  exact h
theorem w_X10_cell_23 {X : Cx} {d : Nat} {S : Mem} {Q : Res → Mem → Prop} (r0 : Nat) (x1 : Int32) (t0 : Int32) (h : Q (.inl (some (vI t0))) S) : V X d MX10_cell 23 [(0, vR r0), (1, vI x1)] [vI t0] S Q := by
  exact V_ireturn (dk D_X10_cell 13 rfl) rfl h
def L_X10_put : List (Nat × Instr × Nat) := [(0, .iload_n 1, 1), (1, .ifCond .lt 19, 3), (4, .iload_n 1, 1), (5, .aload_n 0, 1), (6, .getfield 15, 3), (9, .arraylength, 1), (10, .if_icmp .ge 10, 3), (13, .aload_n 0, 1), (14, .getfield 15, 3), (17, .iload_n 1, 1), (18, .iload_n 2, 1), (19, .iastore, 1), (20, .return_, 1)]
theorem D_X10_put : dOk cX10_put L_X10_put = true := by decide +kernel
theorem w_X10_put_0 {X : Cx} {d : Nat} {S : Mem} {Q : Res → Mem → Prop} (r0 : Nat) (x1 : Int32) (x2 : Int32) (h : ((x1 < 0 → V X d MX10_put 20 [(0, vR r0), (1, vI x1), (2, vI x2)] [] S Q) ∧ (¬ x1 < 0 → (isK S r0 10) ∧ (isK S (gR S r0 12) 21) ∧ (((nI (gN S (gR S r0 12))) ≤ x1 → V X d MX10_put 20 [(0, vR r0), (1, vI x1), (2, vI x2)] [] S Q) ∧ (¬ (nI (gN S (gR S r0 12))) ≤ x1 → (vp_in x1 (gN S (gR S r0 12))) ∧ ∀ S6 : Mem, S6 = uI S (gR S r0 12) ((x1 : Int32).toNatClampNeg) x2 → V X d MX10_put 20 [(0, vR r0), (1, vI x1), (2, vI x2)] [] S6 Q))))) : V X d MX10_put 0 [(0, vR r0), (1, vI x1), (2, vI x2)] [] S Q := by
  refine V_iload_n (pc2 := 1) (dk D_X10_put 0 rfl) rfl (V_lg 1 rfl) rfl ?_
  refine V_iflt (tgt := 20) (pc2 := 4) (dk D_X10_put 1 rfl) (by decide) rfl (fun q1 => ?_) (fun q1 => ?_)
  · have h := h.1 q1
    exact h
  · have h := h.2 q1
    refine V_iload_n (pc2 := 5) (dk D_X10_put 2 rfl) rfl (V_lg 1 rfl) rfl ?_
    refine V_aload_n (pc2 := 6) (dk D_X10_put 3 rfl) rfl (V_lg 0 rfl) rfl ?_
    obtain ⟨h2, h⟩ := h
    refine V_getR kc10 (pc2 := 9) 12 (dk D_X10_put 4 rfl) fl_10_15 (by decide) (fun _ => rfl) rfl h2 ?_
    obtain ⟨h3, h⟩ := h
    refine V_alenI (pc2 := 10) (dk D_X10_put 5 rfl) rfl h3 ?_
    refine V_cmpge (tgt := 20) (pc2 := 13) (dk D_X10_put 6 rfl) (by decide) rfl (fun q4 => ?_) (fun q4 => ?_)
    · have h := h.1 q4
      exact h
    · have h := h.2 q4
      refine V_aload_n (pc2 := 14) (dk D_X10_put 7 rfl) rfl (V_lg 0 rfl) rfl ?_
      refine V_getR kc10 (pc2 := 17) 12 (dk D_X10_put 8 rfl) fl_10_15 (by decide) (fun _ => rfl) rfl h2 ?_
      refine V_iload_n (pc2 := 18) (dk D_X10_put 9 rfl) rfl (V_lg 1 rfl) rfl ?_
      refine V_iload_n (pc2 := 19) (dk D_X10_put 10 rfl) rfl (V_lg 2 rfl) rfl ?_
      obtain ⟨h5, h⟩ := h
      refine V_iast (pc2 := 20) (dk D_X10_put 11 rfl) rfl h3 h5 ?_
      have h := h _ rfl
      exact h
theorem w_X10_put_20 {X : Cx} {d : Nat} {S : Mem} {Q : Res → Mem → Prop} (r0 : Nat) (x1 : Int32) (x2 : Int32) (h : Q (.inl none) S) : V X d MX10_put 20 [(0, vR r0), (1, vI x1), (2, vI x2)] [] S Q := by
  exact V_return (dk D_X10_put 12 rfl) rfl h
def L_X10_canCall : List (Nat × Instr × Nat) := [(0, .aload_n 0, 1), (1, .getfield 43, 3), (4, .bipush 60, 2), (6, .if_icmp .ge 7, 3), (9, .iconst 1, 1), (10, .goto 4, 3), (13, .iconst 0, 1), (14, .ireturn, 1)]
theorem D_X10_canCall : dOk cX10_canCall L_X10_canCall = true := by decide +kernel
theorem w_X10_canCall_0 {X : Cx} {d : Nat} {S : Mem} {Q : Res → Mem → Prop} (r0 : Nat) (h : (isK S r0 10) ∧ ((60 ≤ (gI S r0 8) → V X d MX10_canCall 14 [(0, vR r0)] [vI 0] S Q) ∧ (¬ 60 ≤ (gI S r0 8) → V X d MX10_canCall 14 [(0, vR r0)] [vI 1] S Q))) : V X d MX10_canCall 0 [(0, vR r0)] [] S Q := by
  refine V_aload_n (pc2 := 1) (dk D_X10_canCall 0 rfl) rfl (V_lg 0 rfl) rfl ?_
  obtain ⟨h1, h⟩ := h
  refine V_getI kc10 (pc2 := 4) 8 (dk D_X10_canCall 1 rfl) fl_10_43 (by decide) (fun _ => rfl) rfl h1 ?_
  refine V_bipush (x := 60) (pc2 := 6) (dk D_X10_canCall 2 rfl) (by decide) rfl ?_
  refine V_cmpge (tgt := 13) (pc2 := 9) (dk D_X10_canCall 3 rfl) (by decide) rfl (fun q2 => ?_) (fun q2 => ?_)
  · have h := h.1 q2
    refine V_iconst (x := 0) (pc2 := 14) (dk D_X10_canCall 6 rfl) (by decide) rfl ?_
    exact h
  · have h := h.2 q2
    refine V_iconst (x := 1) (pc2 := 10) (dk D_X10_canCall 4 rfl) (by decide) rfl ?_
    refine V_goto (tgt := 14) (dk D_X10_canCall 5 rfl) (by decide) ?_
    exact h
theorem w_X10_canCall_14 {X : Cx} {d : Nat} {S : Mem} {Q : Res → Mem → Prop} (r0 : Nat) (t0 : Int32) (h : (t0 = 0 ∨ t0 = 1) ∧ Q (.inl (some (vI t0))) S) : V X d MX10_canCall 14 [(0, vR r0)] [vI t0] S Q := by
  obtain ⟨h1, h⟩ := h
  exact V_zreturn (dk D_X10_canCall 7 rfl) rfl h1 h
def L_X10_enter : List (Nat × Instr × Nat) := [(0, .iconst 0, 1), (1, .aload_n 0, 1), (2, .getfield 61, 3), (5, .aload_n 1, 1), (6, .getfield 83, 3), (9, .isub, 1), (10, .invokestatic 88, 3), (13, .istore_n 2, 1), (14, .iload_n 2, 1), (15, .iconst 4, 1), (16, .iadd, 1), (17, .aload_n 1, 1), (18, .getfield 94, 3), (21, .iadd, 1), (22, .istore_n 3, 1), (23, .iload_n 3, 1), (24, .aload_n 0, 1), (25, .getfield 15, 3), (28, .arraylength, 1), (29, .if_icmp .le 17, 3), (32, .aload_n 0, 1), (33, .aload_n 0, 1), (34, .getfield 15, 3), (37, .iconst 2, 1), (38, .iload_n 3, 1), (39, .imul, 1), (40, .invokestatic 73, 3), (43, .putfield 15, 3), (46, .aload_n 1, 1), (47, .getfield 94, 3), (50, .iconst 1, 1), (51, .isub, 1), (52, .istore 4, 2), (54, .iload 4, 2), (56, .ifCond .lt 40, 3), (59, .aload_n 0, 1), (60, .iload_n 2, 1), (61, .iconst 4, 1), (62, .iadd, 1), (63, .iload 4, 2), (65, .iadd, 1), (66, .iload 4, 2), (68, .aload_n 1, 1), (69, .getfield 83, 3), (72, .if_icmp .ge 14, 3), (75, .aload_n 0, 1), (76, .iload_n 2, 1), (77, .iload 4, 2), (79, .iadd, 1), (80, .invokevirtual 79, 3), (83, .goto 4, 3), (86, .iconst 0, 1), (87, .invokevirtual 57, 3), (90, .iinc 4 (-1), 3), (93, .goto (-39), 3), (96, .aload_n 0, 1), (97, .iload_n 2, 1), (98, .aload_n 1, 1), (99, .getfield 94, 3), (102, .invokevirtual 57, 3), (105, .aload_n 0, 1), (106, .iload_n 2, 1), (107, .iconst 1, 1), (108, .iadd, 1), (109, .aload_n 0, 1), (110, .getfield 70, 3), (113, .invokevirtual 57, 3), (116, .aload_n 0, 1), (117, .iload_n 2, 1), (118, .iconst 2, 1), (119, .iadd, 1), (120, .aload_n 0, 1), (121, .getfield 64, 3), (124, .invokevirtual 57, 3), (127, .aload_n 0, 1), (128, .iload_n 2, 1), (129, .iconst 3, 1), (130, .iadd, 1), (131, .bipush (-9), 2), (133, .invokevirtual 57, 3), (136, .aload_n 0, 1), (137, .iload_n 2, 1), (138, .putfield 64, 3), (141, .aload_n 0, 1), (142, .iload_n 3, 1), (143, .putfield 61, 3), (146, .aload_n 0, 1), (147, .aload_n 1, 1), (148, .getfield 97, 3), (151, .putfield 70, 3), (154, .aload_n 0, 1), (155, .dup, 1), (156, .getfield 43, 3), (159, .iconst 1, 1), (160, .iadd, 1), (161, .putfield 43, 3), (164, .return_, 1)]
theorem D_X10_enter : dOk cX10_enter L_X10_enter = true := by decide +kernel
theorem w_X10_enter_0 {X : Cx} {d : Nat} {S : Mem} {Q : Res → Mem → Prop} (r0 : Nat) (r1 : Nat) (h : (isK S r0 10) ∧ (isK S r1 0) ∧ (1 ≤ d) ∧ (isK S (gR S r0 12) 21) ∧ (((((if 0 < ((gI S r0 13) - (gI S r1 4)) then ((gI S r0 13) - (gI S r1 4)) else 0) + 4) + (gI S r1 5)) ≤ (nI (gN S (gR S r0 12))) → V X d MX10_enter 46 [(0, vR r0), (1, vR r1), (2, vI (if 0 < ((gI S r0 13) - (gI S r1 4)) then ((gI S r0 13) - (gI S r1 4)) else 0)), (3, vI (((if 0 < ((gI S r0 13) - (gI S r1 4)) then ((gI S r0 13) - (gI S r1 4)) else 0) + 4) + (gI S r1 5)))] [] S Q) ∧ (¬ (((if 0 < ((gI S r0 13) - (gI S r1 4)) then ((gI S r0 13) - (gI S r1 4)) else 0) + 4) + (gI S r1 5)) ≤ (nI (gN S (gR S r0 12))) → ∃ e6 : Nat, e6 + 1 ≤ d ∧ C X e6 MJ7_copyOf_59c91 [vR (gR S r0 12), vI (2 * (((if 0 < ((gI S r0 13) - (gI S r1 4)) then ((gI S r0 13) - (gI S r1 4)) else 0) + 4) + (gI S r1 5)))] S (RR fun p9 S10 => (isK S10 r0 10) ∧ ∀ S12 : Mem, S12 = uR S10 r0 12 p9 → V X d MX10_enter 46 [(0, vR r0), (1, vR r1), (2, vI (if 0 < ((gI S r0 13) - (gI S r1 4)) then ((gI S r0 13) - (gI S r1 4)) else 0)), (3, vI (((if 0 < ((gI S r0 13) - (gI S r1 4)) then ((gI S r0 13) - (gI S r1 4)) else 0) + 4) + (gI S r1 5)))] [] S12 Q)))) : V X d MX10_enter 0 [(0, vR r0), (1, vR r1)] [] S Q := by
  refine V_iconst (x := 0) (pc2 := 1) (dk D_X10_enter 0 rfl) (by decide) rfl ?_
  refine V_aload_n (pc2 := 2) (dk D_X10_enter 1 rfl) rfl (V_lg 0 rfl) rfl ?_
  obtain ⟨h1, h⟩ := h
  refine V_getI kc10 (pc2 := 5) 13 (dk D_X10_enter 2 rfl) fl_10_61 (by decide) (fun _ => rfl) rfl h1 ?_
  refine V_aload_n (pc2 := 6) (dk D_X10_enter 3 rfl) rfl (V_lg 1 rfl) rfl ?_
  obtain ⟨h2, h⟩ := h
  refine V_getI kc0 (pc2 := 9) 4 (dk D_X10_enter 4 rfl) fl_10_83 (by decide) (fun _ => rfl) rfl h2 ?_
  refine V_isub (pc2 := 10) (dk D_X10_enter 5 rfl) rfl ?_
  obtain ⟨h3, h⟩ := h
  refine V_max (pc2 := 13) (dk D_X10_enter 6 rfl) ml_10_88 mx_s mx_i mx_c rfl (Nat.le_of_ble_eq_true rfl) h3 ?_
  refine V_istore_n (pc2 := 14) (lv2 := [(0, _), (1, _), (2, _)]) (dk D_X10_enter 7 rfl) rfl (by decide) rfl rfl ?_
  refine V_iload_n (pc2 := 15) (dk D_X10_enter 8 rfl) rfl (V_lg 2 rfl) rfl ?_
  refine V_iconst (x := 4) (pc2 := 16) (dk D_X10_enter 9 rfl) (by decide) rfl ?_
  refine V_iadd (pc2 := 17) (dk D_X10_enter 10 rfl) rfl ?_
  refine V_aload_n (pc2 := 18) (dk D_X10_enter 11 rfl) rfl (V_lg 1 rfl) rfl ?_
  refine V_getI kc0 (pc2 := 21) 5 (dk D_X10_enter 12 rfl) fl_10_94 (by decide) (fun _ => rfl) rfl h2 ?_
  refine V_iadd (pc2 := 22) (dk D_X10_enter 13 rfl) rfl ?_
  refine V_istore_n (pc2 := 23) (lv2 := [(0, _), (1, _), (2, _), (3, _)]) (dk D_X10_enter 14 rfl) rfl (by decide) rfl rfl ?_
  refine V_iload_n (pc2 := 24) (dk D_X10_enter 15 rfl) rfl (V_lg 3 rfl) rfl ?_
  refine V_aload_n (pc2 := 25) (dk D_X10_enter 16 rfl) rfl (V_lg 0 rfl) rfl ?_
  refine V_getR kc10 (pc2 := 28) 12 (dk D_X10_enter 17 rfl) fl_10_15 (by decide) (fun _ => rfl) rfl h1 ?_
  obtain ⟨h4, h⟩ := h
  refine V_alenI (pc2 := 29) (dk D_X10_enter 18 rfl) rfl h4 ?_
  refine V_cmple (tgt := 46) (pc2 := 32) (dk D_X10_enter 19 rfl) (by decide) rfl (fun q5 => ?_) (fun q5 => ?_)
  · have h := h.1 q5
    exact h
  · have h := h.2 q5
    refine V_aload_n (pc2 := 33) (dk D_X10_enter 20 rfl) rfl (V_lg 0 rfl) rfl ?_
    refine V_aload_n (pc2 := 34) (dk D_X10_enter 21 rfl) rfl (V_lg 0 rfl) rfl ?_
    refine V_getR kc10 (pc2 := 37) 12 (dk D_X10_enter 22 rfl) fl_10_15 (by decide) (fun _ => rfl) rfl h1 ?_
    refine V_iconst (x := 2) (pc2 := 38) (dk D_X10_enter 23 rfl) (by decide) rfl ?_
    refine V_iload_n (pc2 := 39) (dk D_X10_enter 24 rfl) rfl (V_lg 3 rfl) rfl ?_
    refine V_imul (pc2 := 40) (dk D_X10_enter 25 rfl) rfl ?_
    obtain ⟨e6, he7, hc8⟩ := h
    refine V_callS (as := [_, _]) (st := [_]) (M' := MJ7_copyOf_59c91) (pc2 := 43) (dk D_X10_enter 26 rfl) ml_10_73 mv_J7_copyOf_59c91 rfl rfl (Nat.le_of_ble_eq_true rfl) rfl he7 hc8 (RR.k fun p9 S10 h => ?_)
    obtain ⟨h11, h⟩ := h
    refine V_putR kc10 (pc2 := 46) 12 (dk D_X10_enter 27 rfl) fl_10_15 (by decide) (Or.inl rfl) (Or.inr ⟨_, rfl⟩) rfl h11 ?_
    have h := h _ rfl
    exact h
theorem w_X10_enter_46 {X : Cx} {d : Nat} {S : Mem} {Q : Res → Mem → Prop} (r0 : Nat) (r1 : Nat) (x2 : Int32) (x3 : Int32) (h : (isK S r1 0) ∧ V X d MX10_enter 54 [(0, vR r0), (1, vR r1), (2, vI x2), (3, vI x3), (4, vI ((gI S r1 5) - 1))] [] S Q) : V X d MX10_enter 46 [(0, vR r0), (1, vR r1), (2, vI x2), (3, vI x3)] [] S Q := by
  refine V_aload_n (pc2 := 47) (dk D_X10_enter 28 rfl) rfl (V_lg 1 rfl) rfl ?_
  obtain ⟨h1, h⟩ := h
  refine V_getI kc0 (pc2 := 50) 5 (dk D_X10_enter 29 rfl) fl_10_94 (by decide) (fun _ => rfl) rfl h1 ?_
  refine V_iconst (x := 1) (pc2 := 51) (dk D_X10_enter 30 rfl) (by decide) rfl ?_
  refine V_isub (pc2 := 52) (dk D_X10_enter 31 rfl) rfl ?_
  refine V_istore (pc2 := 54) (lv2 := [(0, _), (1, _), (2, _), (3, _), (4, _)]) (dk D_X10_enter 32 rfl) (by decide) rfl rfl ?_
  exact h
theorem w_X10_enter_54 {X : Cx} {d : Nat} {S : Mem} {Q : Res → Mem → Prop} (r0 : Nat) (r1 : Nat) (x2 : Int32) (x3 : Int32) (x4 : Int32) (h : ((x4 < 0 → (isK S r1 0) ∧ (isK S r0 10) ∧ ∃ e3 : Nat, e3 + 1 ≤ d ∧ C X e3 MX10_put [vR r0, vI x2, vI (gI S r1 5)] S (RV fun  S6 => (isK S6 r0 10) ∧ ∃ e9 : Nat, e9 + 1 ≤ d ∧ C X e9 MX10_put [vR r0, vI (x2 + 1), vI (gI S6 r0 9)] S6 (RV fun  S12 => (isK S12 r0 10) ∧ ∃ e14 : Nat, e14 + 1 ≤ d ∧ C X e14 MX10_put [vR r0, vI (x2 + 2), vI (gI S12 r0 14)] S12 (RV fun  S17 => (isK S17 r0 10) ∧ ∃ e18 : Nat, e18 + 1 ≤ d ∧ C X e18 MX10_put [vR r0, vI (x2 + 3), vI (-9)] S17 (RV fun  S21 => (isK S21 r0 10) ∧ ∀ S24 : Mem, S24 = uI S21 r0 14 x2 → ∀ S25 : Mem, S25 = uI S24 r0 13 x3 → (isK S21 r1 0) ∧ ∀ S27 : Mem, S27 = uI S25 r0 9 (gI S25 r1 6) → ∀ S28 : Mem, S28 = uI S27 r0 8 ((gI S27 r0 8) + 1) → Q (.inl none) S28))))) ∧ (¬ x4 < 0 → (isK S r1 0) ∧ (((gI S r1 4) ≤ x4 → V X d MX10_enter 87 [(0, vR r0), (1, vR r1), (2, vI x2), (3, vI x3), (4, vI x4)] [vI 0, vI ((x2 + 4) + x4), vR r0] S Q) ∧ (¬ (gI S r1 4) ≤ x4 → (isK S r0 10) ∧ ∃ e31 : Nat, e31 + 1 ≤ d ∧ C X e31 MX10_cell [vR r0, vI (x2 + x4)] S (RI fun y34 S35 => V X d MX10_enter 87 [(0, vR r0), (1, vR r1), (2, vI x2), (3, vI x3), (4, vI x4)] [vI y34, vI ((x2 + 4) + x4), vR r0] S35 Q)))))) : V X d MX10_enter 54 [(0, vR r0), (1, vR r1), (2, vI x2), (3, vI x3), (4, vI x4)] [] S Q := by
  refine V_iload (pc2 := 56) (dk D_X10_enter 33 rfl) (V_lg 4 rfl) rfl ?_
  refine V_iflt (tgt := 96) (pc2 := 59) (dk D_X10_enter 34 rfl) (by decide) rfl (fun q1 => ?_) (fun q1 => ?_)
  · have h := h.1 q1
    refine V_aload_n (pc2 := 97) (dk D_X10_enter 55 rfl) rfl (V_lg 0 rfl) rfl ?_
    refine V_iload_n (pc2 := 98) (dk D_X10_enter 56 rfl) rfl (V_lg 2 rfl) rfl ?_
    refine V_aload_n (pc2 := 99) (dk D_X10_enter 57 rfl) rfl (V_lg 1 rfl) rfl ?_
    obtain ⟨h2, h⟩ := h
    refine V_getI kc0 (pc2 := 102) 5 (dk D_X10_enter 58 rfl) fl_10_94 (by decide) (fun _ => rfl) rfl h2 ?_
    obtain ⟨h7, h⟩ := h
    obtain ⟨e3, he4, hc5⟩ := h
    refine V_callV (as := [_, _]) (st := []) (M' := MX10_put) (ci := 10) (pc2 := 105) (dk D_X10_enter 59 rfl) ml_10_57 mv_X10_put rfl rfl (by decide) rfl (Nat.le_of_ble_eq_true rfl) rfl he4 h7 hc5 (RV.k fun  S6 h => ?_)
    refine V_aload_n (pc2 := 106) (dk D_X10_enter 60 rfl) rfl (V_lg 0 rfl) rfl ?_
    refine V_iload_n (pc2 := 107) (dk D_X10_enter 61 rfl) rfl (V_lg 2 rfl) rfl ?_
    refine V_iconst (x := 1) (pc2 := 108) (dk D_X10_enter 62 rfl) (by decide) rfl ?_
    refine V_iadd (pc2 := 109) (dk D_X10_enter 63 rfl) rfl ?_
    refine V_aload_n (pc2 := 110) (dk D_X10_enter 64 rfl) rfl (V_lg 0 rfl) rfl ?_
    obtain ⟨h8, h⟩ := h
    refine V_getI kc10 (pc2 := 113) 9 (dk D_X10_enter 65 rfl) fl_10_70 (by decide) (fun _ => rfl) rfl h8 ?_
    obtain ⟨e9, he10, hc11⟩ := h
    refine V_callV (as := [_, _]) (st := []) (M' := MX10_put) (ci := 10) (pc2 := 116) (dk D_X10_enter 66 rfl) ml_10_57 mv_X10_put rfl rfl (by decide) rfl (Nat.le_of_ble_eq_true rfl) rfl he10 h8 hc11 (RV.k fun  S12 h => ?_)
    refine V_aload_n (pc2 := 117) (dk D_X10_enter 67 rfl) rfl (V_lg 0 rfl) rfl ?_
    refine V_iload_n (pc2 := 118) (dk D_X10_enter 68 rfl) rfl (V_lg 2 rfl) rfl ?_
    refine V_iconst (x := 2) (pc2 := 119) (dk D_X10_enter 69 rfl) (by decide) rfl ?_
    refine V_iadd (pc2 := 120) (dk D_X10_enter 70 rfl) rfl ?_
    refine V_aload_n (pc2 := 121) (dk D_X10_enter 71 rfl) rfl (V_lg 0 rfl) rfl ?_
    obtain ⟨h13, h⟩ := h
    refine V_getI kc10 (pc2 := 124) 14 (dk D_X10_enter 72 rfl) fl_10_64 (by decide) (fun _ => rfl) rfl h13 ?_
    obtain ⟨e14, he15, hc16⟩ := h
    refine V_callV (as := [_, _]) (st := []) (M' := MX10_put) (ci := 10) (pc2 := 127) (dk D_X10_enter 73 rfl) ml_10_57 mv_X10_put rfl rfl (by decide) rfl (Nat.le_of_ble_eq_true rfl) rfl he15 h13 hc16 (RV.k fun  S17 h => ?_)
    refine V_aload_n (pc2 := 128) (dk D_X10_enter 74 rfl) rfl (V_lg 0 rfl) rfl ?_
    refine V_iload_n (pc2 := 129) (dk D_X10_enter 75 rfl) rfl (V_lg 2 rfl) rfl ?_
    refine V_iconst (x := 3) (pc2 := 130) (dk D_X10_enter 76 rfl) (by decide) rfl ?_
    refine V_iadd (pc2 := 131) (dk D_X10_enter 77 rfl) rfl ?_
    refine V_bipush (x := (-9)) (pc2 := 133) (dk D_X10_enter 78 rfl) (by decide) rfl ?_
    obtain ⟨h22, h⟩ := h
    obtain ⟨e18, he19, hc20⟩ := h
    refine V_callV (as := [_, _]) (st := []) (M' := MX10_put) (ci := 10) (pc2 := 136) (dk D_X10_enter 79 rfl) ml_10_57 mv_X10_put rfl rfl (by decide) rfl (Nat.le_of_ble_eq_true rfl) rfl he19 h22 hc20 (RV.k fun  S21 h => ?_)
    refine V_aload_n (pc2 := 137) (dk D_X10_enter 80 rfl) rfl (V_lg 0 rfl) rfl ?_
    refine V_iload_n (pc2 := 138) (dk D_X10_enter 81 rfl) rfl (V_lg 2 rfl) rfl ?_
    obtain ⟨h23, h⟩ := h
    refine V_putI kc10 (pc2 := 141) 14 (dk D_X10_enter 82 rfl) fl_10_64 (by decide) (Or.inl rfl) rfl rfl h23 ?_
    have h := h _ rfl
    refine V_aload_n (pc2 := 142) (dk D_X10_enter 83 rfl) rfl (V_lg 0 rfl) rfl ?_
    refine V_iload_n (pc2 := 143) (dk D_X10_enter 84 rfl) rfl (V_lg 3 rfl) rfl ?_
    refine V_putI kc10 (pc2 := 146) 13 (dk D_X10_enter 85 rfl) fl_10_61 (by decide) (Or.inl rfl) rfl rfl h23 ?_
    have h := h _ rfl
    refine V_aload_n (pc2 := 147) (dk D_X10_enter 86 rfl) rfl (V_lg 0 rfl) rfl ?_
    refine V_aload_n (pc2 := 148) (dk D_X10_enter 87 rfl) rfl (V_lg 1 rfl) rfl ?_
    obtain ⟨h26, h⟩ := h
    refine V_getI kc0 (pc2 := 151) 6 (dk D_X10_enter 88 rfl) fl_10_97 (by decide) (fun _ => rfl) rfl h26 ?_
    refine V_putI kc10 (pc2 := 154) 9 (dk D_X10_enter 89 rfl) fl_10_70 (by decide) (Or.inl rfl) rfl rfl h23 ?_
    have h := h _ rfl
    refine V_aload_n (pc2 := 155) (dk D_X10_enter 90 rfl) rfl (V_lg 0 rfl) rfl ?_
    refine V_dup (pc2 := 156) (dk D_X10_enter 91 rfl) rfl rfl ?_
    refine V_getI kc10 (pc2 := 159) 8 (dk D_X10_enter 92 rfl) fl_10_43 (by decide) (fun _ => rfl) rfl h23 ?_
    refine V_iconst (x := 1) (pc2 := 160) (dk D_X10_enter 93 rfl) (by decide) rfl ?_
    refine V_iadd (pc2 := 161) (dk D_X10_enter 94 rfl) rfl ?_
    refine V_putI kc10 (pc2 := 164) 8 (dk D_X10_enter 95 rfl) fl_10_43 (by decide) (Or.inl rfl) rfl rfl h23 ?_
    have h := h _ rfl
    exact V_return (dk D_X10_enter 96 rfl) rfl h
  · have h := h.2 q1
    refine V_aload_n (pc2 := 60) (dk D_X10_enter 35 rfl) rfl (V_lg 0 rfl) rfl ?_
    refine V_iload_n (pc2 := 61) (dk D_X10_enter 36 rfl) rfl (V_lg 2 rfl) rfl ?_
    refine V_iconst (x := 4) (pc2 := 62) (dk D_X10_enter 37 rfl) (by decide) rfl ?_
    refine V_iadd (pc2 := 63) (dk D_X10_enter 38 rfl) rfl ?_
    refine V_iload (pc2 := 65) (dk D_X10_enter 39 rfl) (V_lg 4 rfl) rfl ?_
    refine V_iadd (pc2 := 66) (dk D_X10_enter 40 rfl) rfl ?_
    refine V_iload (pc2 := 68) (dk D_X10_enter 41 rfl) (V_lg 4 rfl) rfl ?_
    refine V_aload_n (pc2 := 69) (dk D_X10_enter 42 rfl) rfl (V_lg 1 rfl) rfl ?_
    obtain ⟨h29, h⟩ := h
    refine V_getI kc0 (pc2 := 72) 4 (dk D_X10_enter 43 rfl) fl_10_83 (by decide) (fun _ => rfl) rfl h29 ?_
    refine V_cmpge (tgt := 86) (pc2 := 75) (dk D_X10_enter 44 rfl) (by decide) rfl (fun q30 => ?_) (fun q30 => ?_)
    · have h := h.1 q30
      refine V_iconst (x := 0) (pc2 := 87) (dk D_X10_enter 51 rfl) (by decide) rfl ?_
      exact h
    · have h := h.2 q30
      refine V_aload_n (pc2 := 76) (dk D_X10_enter 45 rfl) rfl (V_lg 0 rfl) rfl ?_
      refine V_iload_n (pc2 := 77) (dk D_X10_enter 46 rfl) rfl (V_lg 2 rfl) rfl ?_
      refine V_iload (pc2 := 79) (dk D_X10_enter 47 rfl) (V_lg 4 rfl) rfl ?_
      refine V_iadd (pc2 := 80) (dk D_X10_enter 48 rfl) rfl ?_
      obtain ⟨h36, h⟩ := h
      obtain ⟨e31, he32, hc33⟩ := h
      refine V_callV (as := [_]) (st := [_, _]) (M' := MX10_cell) (ci := 10) (pc2 := 83) (dk D_X10_enter 49 rfl) ml_10_79 mv_X10_cell rfl rfl (by decide) rfl (Nat.le_of_ble_eq_true rfl) rfl he32 h36 hc33 (RI.k fun y34 S35 h => ?_)
      refine V_goto (tgt := 87) (dk D_X10_enter 50 rfl) (by decide) ?_
      exact h
theorem w_X10_enter_87 {X : Cx} {d : Nat} {S : Mem} {Q : Res → Mem → Prop} (r0 : Nat) (r1 : Nat) (x2 : Int32) (x3 : Int32) (x4 : Int32) (t0 : Nat) (t1 : Int32) (t2 : Int32) (h : (isK S t0 10) ∧ ∃ e1 : Nat, e1 + 1 ≤ d ∧ C X e1 MX10_put [vR t0, vI t1, vI t2] S (RV fun  S4 => V X d MX10_enter 54 [(0, vR r0), (1, vR r1), (2, vI x2), (3, vI x3), (4, vI (x4 + (-1)))] [] S4 Q)) : V X d MX10_enter 87 [(0, vR r0), (1, vR r1), (2, vI x2), (3, vI x3), (4, vI x4)] [vI t2, vI t1, vR t0] S Q := by
  obtain ⟨h5, h⟩ := h
  obtain ⟨e1, he2, hc3⟩ := h
  refine V_callV (as := [_, _]) (st := []) (M' := MX10_put) (ci := 10) (pc2 := 90) (dk D_X10_enter 52 rfl) ml_10_57 mv_X10_put rfl rfl (by decide) rfl (Nat.le_of_ble_eq_true rfl) rfl he2 h5 hc3 (RV.k fun  S4 h => ?_)
  refine V_iinc (y := _ + (-1)) (pc2 := 93) (lv2 := [(0, _), (1, _), (2, _), (3, _), (4, _)]) (dk D_X10_enter 53 rfl) (V_lg 4 rfl) rfl (by decide) rfl rfl ?_
  refine V_goto (tgt := 54) (dk D_X10_enter 54 rfl) (by decide) ?_
  exact h
def L_X10_leave : List (Nat × Instr × Nat) := [(0, .aload_n 0, 1), (1, .getfield 43, 3), (4, .iconst 1, 1), (5, .if_icmp .gt 5, 3), (8, .iconst 0, 1), (9, .ireturn, 1), (10, .aload_n 0, 1), (11, .aload_n 0, 1), (12, .getfield 64, 3), (15, .putfield 61, 3), (18, .aload_n 0, 1), (19, .aload_n 0, 1), (20, .aload_n 0, 1), (21, .getfield 64, 3), (24, .iconst 1, 1), (25, .iadd, 1), (26, .invokevirtual 79, 3), (29, .putfield 70, 3), (32, .aload_n 0, 1), (33, .aload_n 0, 1), (34, .aload_n 0, 1), (35, .getfield 64, 3), (38, .iconst 2, 1), (39, .iadd, 1), (40, .invokevirtual 79, 3), (43, .putfield 64, 3), (46, .aload_n 0, 1), (47, .dup, 1), (48, .getfield 43, 3), (51, .iconst 1, 1), (52, .isub, 1), (53, .putfield 43, 3), (56, .iconst 1, 1), (57, .ireturn, 1)]
theorem D_X10_leave : dOk cX10_leave L_X10_leave = true := by decide +kernel
theorem w_X10_leave_0 {X : Cx} {d : Nat} {S : Mem} {Q : Res → Mem → Prop} (r0 : Nat) (h : (isK S r0 10) ∧ ((1 < (gI S r0 8) → ∀ S3 : Mem, S3 = uI S r0 13 (gI S r0 14) → ∃ e4 : Nat, e4 + 1 ≤ d ∧ C X e4 MX10_cell [vR r0, vI ((gI S3 r0 14) + 1)] S3 (RI fun y7 S8 => (isK S8 r0 10) ∧ ∀ S10 : Mem, S10 = uI S8 r0 9 y7 → ∃ e11 : Nat, e11 + 1 ≤ d ∧ C X e11 MX10_cell [vR r0, vI ((gI S10 r0 14) + 2)] S10 (RI fun y14 S15 => (isK S15 r0 10) ∧ ∀ S17 : Mem, S17 = uI S15 r0 14 y14 → ∀ S18 : Mem, S18 = uI S17 r0 8 ((gI S17 r0 8) - 1) → Q (.inl (some (vI 1))) S18))) ∧ (¬ 1 < (gI S r0 8) → Q (.inl (some (vI 0))) S))) : V X d MX10_leave 0 [(0, vR r0)] [] S Q := by
  refine V_aload_n (pc2 := 1) (dk D_X10_leave 0 rfl) rfl (V_lg 0 rfl) rfl ?_
  obtain ⟨h1, h⟩ := h
  refine V_getI kc10 (pc2 := 4) 8 (dk D_X10_leave 1 rfl) fl_10_43 (by decide) (fun _ => rfl) rfl h1 ?_
  refine V_iconst (x := 1) (pc2 := 5) (dk D_X10_leave 2 rfl) (by decide) rfl ?_
  refine V_cmpgt (tgt := 10) (pc2 := 8) (dk D_X10_leave 3 rfl) (by decide) rfl (fun q2 => ?_) (fun q2 => ?_)
  · have h := h.1 q2
    refine V_aload_n (pc2 := 11) (dk D_X10_leave 6 rfl) rfl (V_lg 0 rfl) rfl ?_
    refine V_aload_n (pc2 := 12) (dk D_X10_leave 7 rfl) rfl (V_lg 0 rfl) rfl ?_
    refine V_getI kc10 (pc2 := 15) 14 (dk D_X10_leave 8 rfl) fl_10_64 (by decide) (fun _ => rfl) rfl h1 ?_
    refine V_putI kc10 (pc2 := 18) 13 (dk D_X10_leave 9 rfl) fl_10_61 (by decide) (Or.inl rfl) rfl rfl h1 ?_
    have h := h _ rfl
    refine V_aload_n (pc2 := 19) (dk D_X10_leave 10 rfl) rfl (V_lg 0 rfl) rfl ?_
    refine V_aload_n (pc2 := 20) (dk D_X10_leave 11 rfl) rfl (V_lg 0 rfl) rfl ?_
    refine V_aload_n (pc2 := 21) (dk D_X10_leave 12 rfl) rfl (V_lg 0 rfl) rfl ?_
    refine V_getI kc10 (pc2 := 24) 14 (dk D_X10_leave 13 rfl) fl_10_64 (by decide) (fun _ => rfl) rfl h1 ?_
    refine V_iconst (x := 1) (pc2 := 25) (dk D_X10_leave 14 rfl) (by decide) rfl ?_
    refine V_iadd (pc2 := 26) (dk D_X10_leave 15 rfl) rfl ?_
    obtain ⟨e4, he5, hc6⟩ := h
    refine V_callV (as := [_]) (st := [_]) (M' := MX10_cell) (ci := 10) (pc2 := 29) (dk D_X10_leave 16 rfl) ml_10_79 mv_X10_cell rfl rfl (by decide) rfl (Nat.le_of_ble_eq_true rfl) rfl he5 h1 hc6 (RI.k fun y7 S8 h => ?_)
    obtain ⟨h9, h⟩ := h
    refine V_putI kc10 (pc2 := 32) 9 (dk D_X10_leave 17 rfl) fl_10_70 (by decide) (Or.inl rfl) rfl rfl h9 ?_
    have h := h _ rfl
    refine V_aload_n (pc2 := 33) (dk D_X10_leave 18 rfl) rfl (V_lg 0 rfl) rfl ?_
    refine V_aload_n (pc2 := 34) (dk D_X10_leave 19 rfl) rfl (V_lg 0 rfl) rfl ?_
    refine V_aload_n (pc2 := 35) (dk D_X10_leave 20 rfl) rfl (V_lg 0 rfl) rfl ?_
    refine V_getI kc10 (pc2 := 38) 14 (dk D_X10_leave 21 rfl) fl_10_64 (by decide) (fun _ => rfl) rfl h9 ?_
    refine V_iconst (x := 2) (pc2 := 39) (dk D_X10_leave 22 rfl) (by decide) rfl ?_
    refine V_iadd (pc2 := 40) (dk D_X10_leave 23 rfl) rfl ?_
    obtain ⟨e11, he12, hc13⟩ := h
    refine V_callV (as := [_]) (st := [_]) (M' := MX10_cell) (ci := 10) (pc2 := 43) (dk D_X10_leave 24 rfl) ml_10_79 mv_X10_cell rfl rfl (by decide) rfl (Nat.le_of_ble_eq_true rfl) rfl he12 h9 hc13 (RI.k fun y14 S15 h => ?_)
    obtain ⟨h16, h⟩ := h
    refine V_putI kc10 (pc2 := 46) 14 (dk D_X10_leave 25 rfl) fl_10_64 (by decide) (Or.inl rfl) rfl rfl h16 ?_
    have h := h _ rfl
    refine V_aload_n (pc2 := 47) (dk D_X10_leave 26 rfl) rfl (V_lg 0 rfl) rfl ?_
    refine V_dup (pc2 := 48) (dk D_X10_leave 27 rfl) rfl rfl ?_
    refine V_getI kc10 (pc2 := 51) 8 (dk D_X10_leave 28 rfl) fl_10_43 (by decide) (fun _ => rfl) rfl h16 ?_
    refine V_iconst (x := 1) (pc2 := 52) (dk D_X10_leave 29 rfl) (by decide) rfl ?_
    refine V_isub (pc2 := 53) (dk D_X10_leave 30 rfl) rfl ?_
    refine V_putI kc10 (pc2 := 56) 8 (dk D_X10_leave 31 rfl) fl_10_43 (by decide) (Or.inl rfl) rfl rfl h16 ?_
    have h := h _ rfl
    refine V_iconst (x := 1) (pc2 := 57) (dk D_X10_leave 32 rfl) (by decide) rfl ?_
    exact V_zreturn (dk D_X10_leave 33 rfl) rfl (Or.inr rfl) h
  · have h := h.2 q2
    refine V_iconst (x := 0) (pc2 := 9) (dk D_X10_leave 4 rfl) (by decide) rfl ?_
    exact V_zreturn (dk D_X10_leave 5 rfl) rfl (Or.inl rfl) h
def L_X10_place : List (Nat × Instr × Nat) := [(0, .aload_n 0, 1), (1, .getfield 64, 3), (4, .iconst 3, 1), (5, .iadd, 1), (6, .istore_n 1, 1), (7, .iload_n 1, 1), (8, .ifCond .lt 12, 3), (11, .iload_n 1, 1), (12, .aload_n 0, 1), (13, .getfield 15, 3), (16, .arraylength, 1), (17, .if_icmp .lt 8, 3), (20, .bipush (-9), 2), (22, .goto 9, 3), (25, .aload_n 0, 1), (26, .getfield 15, 3), (29, .iload_n 1, 1), (30, .iaload, 1), (31, .ireturn, 1)]
theorem D_X10_place : dOk cX10_place L_X10_place = true := by decide +kernel
theorem w_X10_place_0 {X : Cx} {d : Nat} {S : Mem} {Q : Res → Mem → Prop} (r0 : Nat) (h : (isK S r0 10) ∧ ((((gI S r0 14) + 3) < 0 → V X d MX10_place 20 [(0, vR r0), (1, vI ((gI S r0 14) + 3))] [] S Q) ∧ (¬ ((gI S r0 14) + 3) < 0 → (isK S (gR S r0 12) 21) ∧ ((((gI S r0 14) + 3) < (nI (gN S (gR S r0 12))) → (vp_in ((gI S r0 14) + 3) (gN S (gR S r0 12))) ∧ V X d MX10_place 31 [(0, vR r0), (1, vI ((gI S r0 14) + 3))] [vI (gI S (gR S r0 12) (((gI S r0 14) + 3) : Int32).toNatClampNeg)] S Q) ∧ (¬ ((gI S r0 14) + 3) < (nI (gN S (gR S r0 12))) → V X d MX10_place 20 [(0, vR r0), (1, vI ((gI S r0 14) + 3))] [] S Q))))) : V X d MX10_place 0 [(0, vR r0)] [] S Q := by
  refine V_aload_n (pc2 := 1) (dk D_X10_place 0 rfl) rfl (V_lg 0 rfl) rfl ?_
  obtain ⟨h1, h⟩ := h
  refine V_getI kc10 (pc2 := 4) 14 (dk D_X10_place 1 rfl) fl_10_64 (by decide) (fun _ => rfl) rfl h1 ?_
  refine V_iconst (x := 3) (pc2 := 5) (dk D_X10_place 2 rfl) (by decide) rfl ?_
  refine V_iadd (pc2 := 6) (dk D_X10_place 3 rfl) rfl ?_
  refine V_istore_n (pc2 := 7) (lv2 := [(0, _), (1, _)]) (dk D_X10_place 4 rfl) rfl (by decide) rfl rfl ?_
  refine V_iload_n (pc2 := 8) (dk D_X10_place 5 rfl) rfl (V_lg 1 rfl) rfl ?_
  refine V_iflt (tgt := 20) (pc2 := 11) (dk D_X10_place 6 rfl) (by decide) rfl (fun q2 => ?_) (fun q2 => ?_)
  · have h := h.1 q2
    exact h
  · have h := h.2 q2
    refine V_iload_n (pc2 := 12) (dk D_X10_place 7 rfl) rfl (V_lg 1 rfl) rfl ?_
    refine V_aload_n (pc2 := 13) (dk D_X10_place 8 rfl) rfl (V_lg 0 rfl) rfl ?_
    refine V_getR kc10 (pc2 := 16) 12 (dk D_X10_place 9 rfl) fl_10_15 (by decide) (fun _ => rfl) rfl h1 ?_
    obtain ⟨h3, h⟩ := h
    refine V_alenI (pc2 := 17) (dk D_X10_place 10 rfl) rfl h3 ?_
    refine V_cmplt (tgt := 25) (pc2 := 20) (dk D_X10_place 11 rfl) (by decide) rfl (fun q4 => ?_) (fun q4 => ?_)
    · have h := h.1 q4
      refine V_aload_n (pc2 := 26) (dk D_X10_place 14 rfl) rfl (V_lg 0 rfl) rfl ?_
      refine V_getR kc10 (pc2 := 29) 12 (dk D_X10_place 15 rfl) fl_10_15 (by decide) (fun _ => rfl) rfl h1 ?_
      refine V_iload_n (pc2 := 30) (dk D_X10_place 16 rfl) rfl (V_lg 1 rfl) rfl ?_
      obtain ⟨h5, h⟩ := h
      refine V_iald (pc2 := 31) (dk D_X10_place 17 rfl) rfl h3 h5 ?_
      exact h
    · have h := h.2 q4
      exact h
theorem w_X10_place_20 {X : Cx} {d : Nat} {S : Mem} {Q : Res → Mem → Prop} (r0 : Nat) (x1 : Int32) (h : V X d MX10_place 31 [(0, vR r0), (1, vI x1)] [vI (-9)] S Q) : V X d MX10_place 20 [(0, vR r0), (1, vI x1)] [] S Q := by
  refine V_bipush (x := (-9)) (pc2 := 22) (dk D_X10_place 12 rfl) (by decide) rfl ?_
  refine V_goto (tgt := 31) (dk D_X10_place 13 rfl) (by decide) ?_
  exact h
theorem w_X10_place_31 {X : Cx} {d : Nat} {S : Mem} {Q : Res → Mem → Prop} (r0 : Nat) (x1 : Int32) (t0 : Int32) (h : Q (.inl (some (vI t0))) S) : V X d MX10_place 31 [(0, vR r0), (1, vI x1)] [vI t0] S Q := by
  exact V_ireturn (dk D_X10_place 18 rfl) rfl h
def L_X10_setPlace : List (Nat × Instr × Nat) := [(0, .aload_n 0, 1), (1, .aload_n 0, 1), (2, .getfield 64, 3), (5, .iconst 3, 1), (6, .iadd, 1), (7, .iload_n 1, 1), (8, .invokevirtual 57, 3), (11, .return_, 1)]
theorem D_X10_setPlace : dOk cX10_setPlace L_X10_setPlace = true := by decide +kernel
theorem w_X10_setPlace_0 {X : Cx} {d : Nat} {S : Mem} {Q : Res → Mem → Prop} (r0 : Nat) (x1 : Int32) (h : (isK S r0 10) ∧ ∃ e2 : Nat, e2 + 1 ≤ d ∧ C X e2 MX10_put [vR r0, vI ((gI S r0 14) + 3), vI x1] S (RV fun  S5 => Q (.inl none) S5)) : V X d MX10_setPlace 0 [(0, vR r0), (1, vI x1)] [] S Q := by
  refine V_aload_n (pc2 := 1) (dk D_X10_setPlace 0 rfl) rfl (V_lg 0 rfl) rfl ?_
  refine V_aload_n (pc2 := 2) (dk D_X10_setPlace 1 rfl) rfl (V_lg 0 rfl) rfl ?_
  obtain ⟨h1, h⟩ := h
  refine V_getI kc10 (pc2 := 5) 14 (dk D_X10_setPlace 2 rfl) fl_10_64 (by decide) (fun _ => rfl) rfl h1 ?_
  refine V_iconst (x := 3) (pc2 := 6) (dk D_X10_setPlace 3 rfl) (by decide) rfl ?_
  refine V_iadd (pc2 := 7) (dk D_X10_setPlace 4 rfl) rfl ?_
  refine V_iload_n (pc2 := 8) (dk D_X10_setPlace 5 rfl) rfl (V_lg 1 rfl) rfl ?_
  obtain ⟨e2, he3, hc4⟩ := h
  refine V_callV (as := [_, _]) (st := []) (M' := MX10_put) (ci := 10) (pc2 := 11) (dk D_X10_setPlace 6 rfl) ml_10_57 mv_X10_put rfl rfl (by decide) rfl (Nat.le_of_ble_eq_true rfl) rfl he3 h1 hc4 (RV.k fun  S5 h => ?_)
  exact V_return (dk D_X10_setPlace 7 rfl) rfl h
def L_X10_frameOf : List (Nat × Instr × Nat) := [(0, .iload_n 1, 1), (1, .ifCond .lt 11, 3), (4, .iload_n 1, 1), (5, .aload_n 0, 1), (6, .getfield 43, 3), (9, .if_icmp .lt 6, 3), (12, .bipush (-9), 2), (14, .ireturn, 1), (15, .aload_n 0, 1), (16, .getfield 64, 3), (19, .istore_n 2, 1), (20, .iconst 0, 1), (21, .istore_n 3, 1), (22, .iload_n 3, 1), (23, .iload_n 1, 1), (24, .if_icmp .ge 17, 3), (27, .aload_n 0, 1), (28, .iload_n 2, 1), (29, .iconst 2, 1), (30, .iadd, 1), (31, .invokevirtual 79, 3), (34, .istore_n 2, 1), (35, .iinc 3 1, 3), (38, .goto (-16), 3), (41, .iload_n 2, 1), (42, .ireturn, 1)]
theorem D_X10_frameOf : dOk cX10_frameOf L_X10_frameOf = true := by decide +kernel
theorem w_X10_frameOf_0 {X : Cx} {d : Nat} {S : Mem} {Q : Res → Mem → Prop} (r0 : Nat) (x1 : Int32) (h : ((x1 < 0 → V X d MX10_frameOf 12 [(0, vR r0), (1, vI x1)] [] S Q) ∧ (¬ x1 < 0 → (isK S r0 10) ∧ ((x1 < (gI S r0 8) → V X d MX10_frameOf 22 [(0, vR r0), (1, vI x1), (2, vI (gI S r0 14)), (3, vI 0)] [] S Q) ∧ (¬ x1 < (gI S r0 8) → V X d MX10_frameOf 12 [(0, vR r0), (1, vI x1)] [] S Q))))) : V X d MX10_frameOf 0 [(0, vR r0), (1, vI x1)] [] S Q := by
  refine V_iload_n (pc2 := 1) (dk D_X10_frameOf 0 rfl) rfl (V_lg 1 rfl) rfl ?_
  refine V_iflt (tgt := 12) (pc2 := 4) (dk D_X10_frameOf 1 rfl) (by decide) rfl (fun q1 => ?_) (fun q1 => ?_)
  · have h := h.1 q1
    exact h
  · have h := h.2 q1
    refine V_iload_n (pc2 := 5) (dk D_X10_frameOf 2 rfl) rfl (V_lg 1 rfl) rfl ?_
    refine V_aload_n (pc2 := 6) (dk D_X10_frameOf 3 rfl) rfl (V_lg 0 rfl) rfl ?_
    obtain ⟨h2, h⟩ := h
    refine V_getI kc10 (pc2 := 9) 8 (dk D_X10_frameOf 4 rfl) fl_10_43 (by decide) (fun _ => rfl) rfl h2 ?_
    refine V_cmplt (tgt := 15) (pc2 := 12) (dk D_X10_frameOf 5 rfl) (by decide) rfl (fun q3 => ?_) (fun q3 => ?_)
    · have h := h.1 q3
      refine V_aload_n (pc2 := 16) (dk D_X10_frameOf 8 rfl) rfl (V_lg 0 rfl) rfl ?_
      refine V_getI kc10 (pc2 := 19) 14 (dk D_X10_frameOf 9 rfl) fl_10_64 (by decide) (fun _ => rfl) rfl h2 ?_
      refine V_istore_n (pc2 := 20) (lv2 := [(0, _), (1, _), (2, _)]) (dk D_X10_frameOf 10 rfl) rfl (by decide) rfl rfl ?_
      refine V_iconst (x := 0) (pc2 := 21) (dk D_X10_frameOf 11 rfl) (by decide) rfl ?_
      refine V_istore_n (pc2 := 22) (lv2 := [(0, _), (1, _), (2, _), (3, _)]) (dk D_X10_frameOf 12 rfl) rfl (by decide) rfl rfl ?_
      exact h
    · have h := h.2 q3
      exact h
theorem w_X10_frameOf_12 {X : Cx} {d : Nat} {S : Mem} {Q : Res → Mem → Prop} (r0 : Nat) (x1 : Int32) (h : Q (.inl (some (vI (-9)))) S) : V X d MX10_frameOf 12 [(0, vR r0), (1, vI x1)] [] S Q := by
  refine V_bipush (x := (-9)) (pc2 := 14) (dk D_X10_frameOf 6 rfl) (by decide) rfl ?_
  exact V_ireturn (dk D_X10_frameOf 7 rfl) rfl h
theorem w_X10_frameOf_22 {X : Cx} {d : Nat} {S : Mem} {Q : Res → Mem → Prop} (r0 : Nat) (x1 : Int32) (x2 : Int32) (x3 : Int32) (h : ((x1 ≤ x3 → Q (.inl (some (vI x2))) S) ∧ (¬ x1 ≤ x3 → (isK S r0 10) ∧ ∃ e2 : Nat, e2 + 1 ≤ d ∧ C X e2 MX10_cell [vR r0, vI (x2 + 2)] S (RI fun y5 S6 => V X d MX10_frameOf 22 [(0, vR r0), (1, vI x1), (2, vI y5), (3, vI (x3 + 1))] [] S6 Q)))) : V X d MX10_frameOf 22 [(0, vR r0), (1, vI x1), (2, vI x2), (3, vI x3)] [] S Q := by
  refine V_iload_n (pc2 := 23) (dk D_X10_frameOf 13 rfl) rfl (V_lg 3 rfl) rfl ?_
  refine V_iload_n (pc2 := 24) (dk D_X10_frameOf 14 rfl) rfl (V_lg 1 rfl) rfl ?_
  refine V_cmpge (tgt := 41) (pc2 := 27) (dk D_X10_frameOf 15 rfl) (by decide) rfl (fun q1 => ?_) (fun q1 => ?_)
  · have h := h.1 q1
    refine V_iload_n (pc2 := 42) (dk D_X10_frameOf 24 rfl) rfl (V_lg 2 rfl) rfl ?_
    exact V_ireturn (dk D_X10_frameOf 25 rfl) rfl h
  · have h := h.2 q1
    refine V_aload_n (pc2 := 28) (dk D_X10_frameOf 16 rfl) rfl (V_lg 0 rfl) rfl ?_
    refine V_iload_n (pc2 := 29) (dk D_X10_frameOf 17 rfl) rfl (V_lg 2 rfl) rfl ?_
    refine V_iconst (x := 2) (pc2 := 30) (dk D_X10_frameOf 18 rfl) (by decide) rfl ?_
    refine V_iadd (pc2 := 31) (dk D_X10_frameOf 19 rfl) rfl ?_
    obtain ⟨h7, h⟩ := h
    obtain ⟨e2, he3, hc4⟩ := h
    refine V_callV (as := [_]) (st := []) (M' := MX10_cell) (ci := 10) (pc2 := 34) (dk D_X10_frameOf 20 rfl) ml_10_79 mv_X10_cell rfl rfl (by decide) rfl (Nat.le_of_ble_eq_true rfl) rfl he3 h7 hc4 (RI.k fun y5 S6 h => ?_)
    refine V_istore_n (pc2 := 35) (lv2 := [(0, _), (1, _), (2, _), (3, _)]) (dk D_X10_frameOf 21 rfl) rfl (by decide) rfl rfl ?_
    refine V_iinc (y := _ + 1) (pc2 := 38) (lv2 := [(0, _), (1, _), (2, _), (3, _)]) (dk D_X10_frameOf 22 rfl) (V_lg 3 rfl) rfl (by decide) rfl rfl ?_
    refine V_goto (tgt := 22) (dk D_X10_frameOf 23 rfl) (by decide) ?_
    exact h
def L_X10_variablesOf : List (Nat × Instr × Nat) := [(0, .iload_n 1, 1), (1, .ifCond .ge 7, 3), (4, .iconst 0, 1), (5, .goto 8, 3), (8, .aload_n 0, 1), (9, .iload_n 1, 1), (10, .invokevirtual 79, 3), (13, .ireturn, 1)]
theorem D_X10_variablesOf : dOk cX10_variablesOf L_X10_variablesOf = true := by decide +kernel
theorem w_X10_variablesOf_0 {X : Cx} {d : Nat} {S : Mem} {Q : Res → Mem → Prop} (r0 : Nat) (x1 : Int32) (h : ((0 ≤ x1 → (isK S r0 10) ∧ ∃ e2 : Nat, e2 + 1 ≤ d ∧ C X e2 MX10_cell [vR r0, vI x1] S (RI fun y5 S6 => V X d MX10_variablesOf 13 [(0, vR r0), (1, vI x1)] [vI y5] S6 Q)) ∧ (¬ 0 ≤ x1 → V X d MX10_variablesOf 13 [(0, vR r0), (1, vI x1)] [vI 0] S Q))) : V X d MX10_variablesOf 0 [(0, vR r0), (1, vI x1)] [] S Q := by
  refine V_iload_n (pc2 := 1) (dk D_X10_variablesOf 0 rfl) rfl (V_lg 1 rfl) rfl ?_
  refine V_ifge (tgt := 8) (pc2 := 4) (dk D_X10_variablesOf 1 rfl) (by decide) rfl (fun q1 => ?_) (fun q1 => ?_)
  · have h := h.1 q1
    refine V_aload_n (pc2 := 9) (dk D_X10_variablesOf 4 rfl) rfl (V_lg 0 rfl) rfl ?_
    refine V_iload_n (pc2 := 10) (dk D_X10_variablesOf 5 rfl) rfl (V_lg 1 rfl) rfl ?_
    obtain ⟨h7, h⟩ := h
    obtain ⟨e2, he3, hc4⟩ := h
    refine V_callV (as := [_]) (st := []) (M' := MX10_cell) (ci := 10) (pc2 := 13) (dk D_X10_variablesOf 6 rfl) ml_10_79 mv_X10_cell rfl rfl (by decide) rfl (Nat.le_of_ble_eq_true rfl) rfl he3 h7 hc4 (RI.k fun y5 S6 h => ?_)
    exact h
  · have h := h.2 q1
    refine V_iconst (x := 0) (pc2 := 5) (dk D_X10_variablesOf 2 rfl) (by decide) rfl ?_
    refine V_goto (tgt := 13) (dk D_X10_variablesOf 3 rfl) (by decide) ?_
    exact h
theorem w_X10_variablesOf_13 {X : Cx} {d : Nat} {S : Mem} {Q : Res → Mem → Prop} (r0 : Nat) (x1 : Int32) (t0 : Int32) (h : Q (.inl (some (vI t0))) S) : V X d MX10_variablesOf 13 [(0, vR r0), (1, vI x1)] [vI t0] S Q := by
  exact V_ireturn (dk D_X10_variablesOf 7 rfl) rfl h
def L_X10_variable : List (Nat × Instr × Nat) := [(0, .aload_n 0, 1), (1, .iload_n 1, 1), (2, .iconst 4, 1), (3, .iadd, 1), (4, .iload_n 2, 1), (5, .iadd, 1), (6, .invokevirtual 79, 3), (9, .ireturn, 1)]
theorem D_X10_variable : dOk cX10_variable L_X10_variable = true := by decide +kernel
theorem w_X10_variable_0 {X : Cx} {d : Nat} {S : Mem} {Q : Res → Mem → Prop} (r0 : Nat) (x1 : Int32) (x2 : Int32) (h : (isK S r0 10) ∧ ∃ e1 : Nat, e1 + 1 ≤ d ∧ C X e1 MX10_cell [vR r0, vI ((x1 + 4) + x2)] S (RI fun y4 S5 => Q (.inl (some (vI y4))) S5)) : V X d MX10_variable 0 [(0, vR r0), (1, vI x1), (2, vI x2)] [] S Q := by
  refine V_aload_n (pc2 := 1) (dk D_X10_variable 0 rfl) rfl (V_lg 0 rfl) rfl ?_
  refine V_iload_n (pc2 := 2) (dk D_X10_variable 1 rfl) rfl (V_lg 1 rfl) rfl ?_
  refine V_iconst (x := 4) (pc2 := 3) (dk D_X10_variable 2 rfl) (by decide) rfl ?_
  refine V_iadd (pc2 := 4) (dk D_X10_variable 3 rfl) rfl ?_
  refine V_iload_n (pc2 := 5) (dk D_X10_variable 4 rfl) rfl (V_lg 2 rfl) rfl ?_
  refine V_iadd (pc2 := 6) (dk D_X10_variable 5 rfl) rfl ?_
  obtain ⟨h6, h⟩ := h
  obtain ⟨e1, he2, hc3⟩ := h
  refine V_callV (as := [_]) (st := []) (M' := MX10_cell) (ci := 10) (pc2 := 9) (dk D_X10_variable 6 rfl) ml_10_79 mv_X10_cell rfl rfl (by decide) rfl (Nat.le_of_ble_eq_true rfl) rfl he2 h6 hc3 (RI.k fun y4 S5 h => ?_)
  exact V_ireturn (dk D_X10_variable 7 rfl) rfl h
def L_X10_openGuard : List (Nat × Instr × Nat) := [(0, .aload_n 0, 1), (1, .getfield 61, 3), (4, .istore_n 2, 1), (5, .aload_n 0, 1), (6, .aload_n 0, 1), (7, .getfield 67, 3), (10, .invokevirtual 100, 3), (13, .aload_n 0, 1), (14, .iload_n 1, 1), (15, .invokevirtual 100, 3), (18, .aload_n 0, 1), (19, .iconst 0, 1), (20, .invokevirtual 100, 3), (23, .aload_n 0, 1), (24, .iconst 0, 1), (25, .invokevirtual 100, 3), (28, .aload_n 0, 1), (29, .iload_n 2, 1), (30, .putfield 67, 3), (33, .return_, 1)]
theorem D_X10_openGuard : dOk cX10_openGuard L_X10_openGuard = true := by decide +kernel
theorem w_X10_openGuard_0 {X : Cx} {d : Nat} {S : Mem} {Q : Res → Mem → Prop} (r0 : Nat) (x1 : Int32) (h : (isK S r0 10) ∧ ∃ e2 : Nat, e2 + 1 ≤ d ∧ C X e2 MX10_push [vR r0, vI (gI S r0 15)] S (RV fun  S5 => (isK S5 r0 10) ∧ ∃ e6 : Nat, e6 + 1 ≤ d ∧ C X e6 MX10_push [vR r0, vI x1] S5 (RV fun  S9 => (isK S9 r0 10) ∧ ∃ e11 : Nat, e11 + 1 ≤ d ∧ C X e11 MX10_push [vR r0, vI 0] S9 (RV fun  S14 => (isK S14 r0 10) ∧ ∃ e16 : Nat, e16 + 1 ≤ d ∧ C X e16 MX10_push [vR r0, vI 0] S14 (RV fun  S19 => (isK S19 r0 10) ∧ ∀ S22 : Mem, S22 = uI S19 r0 15 (gI S r0 13) → Q (.inl none) S22))))) : V X d MX10_openGuard 0 [(0, vR r0), (1, vI x1)] [] S Q := by
  refine V_aload_n (pc2 := 1) (dk D_X10_openGuard 0 rfl) rfl (V_lg 0 rfl) rfl ?_
  obtain ⟨h1, h⟩ := h
  refine V_getI kc10 (pc2 := 4) 13 (dk D_X10_openGuard 1 rfl) fl_10_61 (by decide) (fun _ => rfl) rfl h1 ?_
  refine V_istore_n (pc2 := 5) (lv2 := [(0, _), (1, _), (2, _)]) (dk D_X10_openGuard 2 rfl) rfl (by decide) rfl rfl ?_
  refine V_aload_n (pc2 := 6) (dk D_X10_openGuard 3 rfl) rfl (V_lg 0 rfl) rfl ?_
  refine V_aload_n (pc2 := 7) (dk D_X10_openGuard 4 rfl) rfl (V_lg 0 rfl) rfl ?_
  refine V_getI kc10 (pc2 := 10) 15 (dk D_X10_openGuard 5 rfl) fl_10_67 (by decide) (fun _ => rfl) rfl h1 ?_
  obtain ⟨e2, he3, hc4⟩ := h
  refine V_callV (as := [_]) (st := []) (M' := MX10_push) (ci := 10) (pc2 := 13) (dk D_X10_openGuard 6 rfl) ml_10_100 mv_X10_push rfl rfl (by decide) rfl (Nat.le_of_ble_eq_true rfl) rfl he3 h1 hc4 (RV.k fun  S5 h => ?_)
  refine V_aload_n (pc2 := 14) (dk D_X10_openGuard 7 rfl) rfl (V_lg 0 rfl) rfl ?_
  refine V_iload_n (pc2 := 15) (dk D_X10_openGuard 8 rfl) rfl (V_lg 1 rfl) rfl ?_
  obtain ⟨h10, h⟩ := h
  obtain ⟨e6, he7, hc8⟩ := h
  refine V_callV (as := [_]) (st := []) (M' := MX10_push) (ci := 10) (pc2 := 18) (dk D_X10_openGuard 9 rfl) ml_10_100 mv_X10_push rfl rfl (by decide) rfl (Nat.le_of_ble_eq_true rfl) rfl he7 h10 hc8 (RV.k fun  S9 h => ?_)
  refine V_aload_n (pc2 := 19) (dk D_X10_openGuard 10 rfl) rfl (V_lg 0 rfl) rfl ?_
  refine V_iconst (x := 0) (pc2 := 20) (dk D_X10_openGuard 11 rfl) (by decide) rfl ?_
  obtain ⟨h15, h⟩ := h
  obtain ⟨e11, he12, hc13⟩ := h
  refine V_callV (as := [_]) (st := []) (M' := MX10_push) (ci := 10) (pc2 := 23) (dk D_X10_openGuard 12 rfl) ml_10_100 mv_X10_push rfl rfl (by decide) rfl (Nat.le_of_ble_eq_true rfl) rfl he12 h15 hc13 (RV.k fun  S14 h => ?_)
  refine V_aload_n (pc2 := 24) (dk D_X10_openGuard 13 rfl) rfl (V_lg 0 rfl) rfl ?_
  refine V_iconst (x := 0) (pc2 := 25) (dk D_X10_openGuard 14 rfl) (by decide) rfl ?_
  obtain ⟨h20, h⟩ := h
  obtain ⟨e16, he17, hc18⟩ := h
  refine V_callV (as := [_]) (st := []) (M' := MX10_push) (ci := 10) (pc2 := 28) (dk D_X10_openGuard 15 rfl) ml_10_100 mv_X10_push rfl rfl (by decide) rfl (Nat.le_of_ble_eq_true rfl) rfl he17 h20 hc18 (RV.k fun  S19 h => ?_)
  refine V_aload_n (pc2 := 29) (dk D_X10_openGuard 16 rfl) rfl (V_lg 0 rfl) rfl ?_
  refine V_iload_n (pc2 := 30) (dk D_X10_openGuard 17 rfl) rfl (V_lg 2 rfl) rfl ?_
  obtain ⟨h21, h⟩ := h
  refine V_putI kc10 (pc2 := 33) 15 (dk D_X10_openGuard 18 rfl) fl_10_67 (by decide) (Or.inl rfl) rfl rfl h21 ?_
  have h := h _ rfl
  exact V_return (dk D_X10_openGuard 19 rfl) rfl h
def L_X10_isGuarded : List (Nat × Instr × Nat) := [(0, .aload_n 0, 1), (1, .getfield 67, 3), (4, .aload_n 0, 1), (5, .getfield 64, 3), (8, .if_icmp .le 7, 3), (11, .iconst 1, 1), (12, .goto 4, 3), (15, .iconst 0, 1), (16, .ireturn, 1)]
theorem D_X10_isGuarded : dOk cX10_isGuarded L_X10_isGuarded = true := by decide +kernel
theorem w_X10_isGuarded_0 {X : Cx} {d : Nat} {S : Mem} {Q : Res → Mem → Prop} (r0 : Nat) (h : (isK S r0 10) ∧ (((gI S r0 15) ≤ (gI S r0 14) → V X d MX10_isGuarded 16 [(0, vR r0)] [vI 0] S Q) ∧ (¬ (gI S r0 15) ≤ (gI S r0 14) → V X d MX10_isGuarded 16 [(0, vR r0)] [vI 1] S Q))) : V X d MX10_isGuarded 0 [(0, vR r0)] [] S Q := by
  refine V_aload_n (pc2 := 1) (dk D_X10_isGuarded 0 rfl) rfl (V_lg 0 rfl) rfl ?_
  obtain ⟨h1, h⟩ := h
  refine V_getI kc10 (pc2 := 4) 15 (dk D_X10_isGuarded 1 rfl) fl_10_67 (by decide) (fun _ => rfl) rfl h1 ?_
  refine V_aload_n (pc2 := 5) (dk D_X10_isGuarded 2 rfl) rfl (V_lg 0 rfl) rfl ?_
  refine V_getI kc10 (pc2 := 8) 14 (dk D_X10_isGuarded 3 rfl) fl_10_64 (by decide) (fun _ => rfl) rfl h1 ?_
  refine V_cmple (tgt := 15) (pc2 := 11) (dk D_X10_isGuarded 4 rfl) (by decide) rfl (fun q2 => ?_) (fun q2 => ?_)
  · have h := h.1 q2
    refine V_iconst (x := 0) (pc2 := 16) (dk D_X10_isGuarded 7 rfl) (by decide) rfl ?_
    exact h
  · have h := h.2 q2
    refine V_iconst (x := 1) (pc2 := 12) (dk D_X10_isGuarded 5 rfl) (by decide) rfl ?_
    refine V_goto (tgt := 16) (dk D_X10_isGuarded 6 rfl) (by decide) ?_
    exact h
theorem w_X10_isGuarded_16 {X : Cx} {d : Nat} {S : Mem} {Q : Res → Mem → Prop} (r0 : Nat) (t0 : Int32) (h : (t0 = 0 ∨ t0 = 1) ∧ Q (.inl (some (vI t0))) S) : V X d MX10_isGuarded 16 [(0, vR r0)] [vI t0] S Q := by
  obtain ⟨h1, h⟩ := h
  exact V_zreturn (dk D_X10_isGuarded 8 rfl) rfl h1 h
def L_X10_isInGuarded : List (Nat × Instr × Nat) := [(0, .aload_n 0, 1), (1, .aload_n 0, 1), (2, .getfield 67, 3), (5, .iconst 2, 1), (6, .iadd, 1), (7, .invokevirtual 79, 3), (10, .istore_n 1, 1), (11, .iload_n 1, 1), (12, .ifCond .eq 8, 3), (15, .iload_n 1, 1), (16, .iconst 1, 1), (17, .if_icmp .ne 7, 3), (20, .iconst 1, 1), (21, .goto 4, 3), (24, .iconst 0, 1), (25, .ireturn, 1)]
theorem D_X10_isInGuarded : dOk cX10_isInGuarded L_X10_isInGuarded = true := by decide +kernel
theorem w_X10_isInGuarded_0 {X : Cx} {d : Nat} {S : Mem} {Q : Res → Mem → Prop} (r0 : Nat) (h : (isK S r0 10) ∧ ∃ e2 : Nat, e2 + 1 ≤ d ∧ C X e2 MX10_cell [vR r0, vI ((gI S r0 15) + 2)] S (RI fun y5 S6 => ((y5 = 0 → V X d MX10_isInGuarded 20 [(0, vR r0), (1, vI y5)] [] S6 Q) ∧ (¬ y5 = 0 → ((¬ y5 = 1 → V X d MX10_isInGuarded 25 [(0, vR r0), (1, vI y5)] [vI 0] S6 Q) ∧ (y5 = 1 → V X d MX10_isInGuarded 20 [(0, vR r0), (1, vI y5)] [] S6 Q)))))) : V X d MX10_isInGuarded 0 [(0, vR r0)] [] S Q := by
  refine V_aload_n (pc2 := 1) (dk D_X10_isInGuarded 0 rfl) rfl (V_lg 0 rfl) rfl ?_
  refine V_aload_n (pc2 := 2) (dk D_X10_isInGuarded 1 rfl) rfl (V_lg 0 rfl) rfl ?_
  obtain ⟨h1, h⟩ := h
  refine V_getI kc10 (pc2 := 5) 15 (dk D_X10_isInGuarded 2 rfl) fl_10_67 (by decide) (fun _ => rfl) rfl h1 ?_
  refine V_iconst (x := 2) (pc2 := 6) (dk D_X10_isInGuarded 3 rfl) (by decide) rfl ?_
  refine V_iadd (pc2 := 7) (dk D_X10_isInGuarded 4 rfl) rfl ?_
  obtain ⟨e2, he3, hc4⟩ := h
  refine V_callV (as := [_]) (st := []) (M' := MX10_cell) (ci := 10) (pc2 := 10) (dk D_X10_isInGuarded 5 rfl) ml_10_79 mv_X10_cell rfl rfl (by decide) rfl (Nat.le_of_ble_eq_true rfl) rfl he3 h1 hc4 (RI.k fun y5 S6 h => ?_)
  refine V_istore_n (pc2 := 11) (lv2 := [(0, _), (1, _)]) (dk D_X10_isInGuarded 6 rfl) rfl (by decide) rfl rfl ?_
  refine V_iload_n (pc2 := 12) (dk D_X10_isInGuarded 7 rfl) rfl (V_lg 1 rfl) rfl ?_
  refine V_ifeq (tgt := 20) (pc2 := 15) (dk D_X10_isInGuarded 8 rfl) (by decide) rfl (fun q7 => ?_) (fun q7 => ?_)
  · have h := h.1 q7
    exact h
  · have h := h.2 q7
    refine V_iload_n (pc2 := 16) (dk D_X10_isInGuarded 9 rfl) rfl (V_lg 1 rfl) rfl ?_
    refine V_iconst (x := 1) (pc2 := 17) (dk D_X10_isInGuarded 10 rfl) (by decide) rfl ?_
    refine V_cmpne (tgt := 24) (pc2 := 20) (dk D_X10_isInGuarded 11 rfl) (by decide) rfl (fun q8 => ?_) (fun q8 => ?_)
    · have h := h.1 q8
      refine V_iconst (x := 0) (pc2 := 25) (dk D_X10_isInGuarded 14 rfl) (by decide) rfl ?_
      exact h
    · have h := h.2 q8
      exact h
theorem w_X10_isInGuarded_20 {X : Cx} {d : Nat} {S : Mem} {Q : Res → Mem → Prop} (r0 : Nat) (x1 : Int32) (h : V X d MX10_isInGuarded 25 [(0, vR r0), (1, vI x1)] [vI 1] S Q) : V X d MX10_isInGuarded 20 [(0, vR r0), (1, vI x1)] [] S Q := by
  refine V_iconst (x := 1) (pc2 := 21) (dk D_X10_isInGuarded 12 rfl) (by decide) rfl ?_
  refine V_goto (tgt := 25) (dk D_X10_isInGuarded 13 rfl) (by decide) ?_
  exact h
theorem w_X10_isInGuarded_25 {X : Cx} {d : Nat} {S : Mem} {Q : Res → Mem → Prop} (r0 : Nat) (x1 : Int32) (t0 : Int32) (h : (t0 = 0 ∨ t0 = 1) ∧ Q (.inl (some (vI t0))) S) : V X d MX10_isInGuarded 25 [(0, vR r0), (1, vI x1)] [vI t0] S Q := by
  obtain ⟨h1, h⟩ := h
  exact V_zreturn (dk D_X10_isInGuarded 15 rfl) rfl h1 h
def L_X10_handlers : List (Nat × Instr × Nat) := [(0, .aload_n 0, 1), (1, .aload_n 0, 1), (2, .getfield 67, 3), (5, .iconst 1, 1), (6, .iadd, 1), (7, .invokevirtual 79, 3), (10, .ireturn, 1)]
theorem D_X10_handlers : dOk cX10_handlers L_X10_handlers = true := by decide +kernel
theorem w_X10_handlers_0 {X : Cx} {d : Nat} {S : Mem} {Q : Res → Mem → Prop} (r0 : Nat) (h : (isK S r0 10) ∧ ∃ e2 : Nat, e2 + 1 ≤ d ∧ C X e2 MX10_cell [vR r0, vI ((gI S r0 15) + 1)] S (RI fun y5 S6 => Q (.inl (some (vI y5))) S6)) : V X d MX10_handlers 0 [(0, vR r0)] [] S Q := by
  refine V_aload_n (pc2 := 1) (dk D_X10_handlers 0 rfl) rfl (V_lg 0 rfl) rfl ?_
  refine V_aload_n (pc2 := 2) (dk D_X10_handlers 1 rfl) rfl (V_lg 0 rfl) rfl ?_
  obtain ⟨h1, h⟩ := h
  refine V_getI kc10 (pc2 := 5) 15 (dk D_X10_handlers 2 rfl) fl_10_67 (by decide) (fun _ => rfl) rfl h1 ?_
  refine V_iconst (x := 1) (pc2 := 6) (dk D_X10_handlers 3 rfl) (by decide) rfl ?_
  refine V_iadd (pc2 := 7) (dk D_X10_handlers 4 rfl) rfl ?_
  obtain ⟨e2, he3, hc4⟩ := h
  refine V_callV (as := [_]) (st := []) (M' := MX10_cell) (ci := 10) (pc2 := 10) (dk D_X10_handlers 5 rfl) ml_10_79 mv_X10_cell rfl rfl (by decide) rfl (Nat.le_of_ble_eq_true rfl) rfl he3 h1 hc4 (RI.k fun y5 S6 h => ?_)
  exact V_ireturn (dk D_X10_handlers 6 rfl) rfl h
def L_X10_phase : List (Nat × Instr × Nat) := [(0, .aload_n 0, 1), (1, .aload_n 0, 1), (2, .getfield 67, 3), (5, .iconst 2, 1), (6, .iadd, 1), (7, .invokevirtual 79, 3), (10, .ireturn, 1)]
theorem D_X10_phase : dOk cX10_phase L_X10_phase = true := by decide +kernel
theorem w_X10_phase_0 {X : Cx} {d : Nat} {S : Mem} {Q : Res → Mem → Prop} (r0 : Nat) (h : (isK S r0 10) ∧ ∃ e2 : Nat, e2 + 1 ≤ d ∧ C X e2 MX10_cell [vR r0, vI ((gI S r0 15) + 2)] S (RI fun y5 S6 => Q (.inl (some (vI y5))) S6)) : V X d MX10_phase 0 [(0, vR r0)] [] S Q := by
  refine V_aload_n (pc2 := 1) (dk D_X10_phase 0 rfl) rfl (V_lg 0 rfl) rfl ?_
  refine V_aload_n (pc2 := 2) (dk D_X10_phase 1 rfl) rfl (V_lg 0 rfl) rfl ?_
  obtain ⟨h1, h⟩ := h
  refine V_getI kc10 (pc2 := 5) 15 (dk D_X10_phase 2 rfl) fl_10_67 (by decide) (fun _ => rfl) rfl h1 ?_
  refine V_iconst (x := 2) (pc2 := 6) (dk D_X10_phase 3 rfl) (by decide) rfl ?_
  refine V_iadd (pc2 := 7) (dk D_X10_phase 4 rfl) rfl ?_
  obtain ⟨e2, he3, hc4⟩ := h
  refine V_callV (as := [_]) (st := []) (M' := MX10_cell) (ci := 10) (pc2 := 10) (dk D_X10_phase 5 rfl) ml_10_79 mv_X10_cell rfl rfl (by decide) rfl (Nat.le_of_ble_eq_true rfl) rfl he3 h1 hc4 (RI.k fun y5 S6 h => ?_)
  exact V_ireturn (dk D_X10_phase 6 rfl) rfl h
def L_X10_keptByGuard : List (Nat × Instr × Nat) := [(0, .aload_n 0, 1), (1, .aload_n 0, 1), (2, .getfield 67, 3), (5, .iconst 3, 1), (6, .iadd, 1), (7, .invokevirtual 79, 3), (10, .ireturn, 1)]
theorem D_X10_keptByGuard : dOk cX10_keptByGuard L_X10_keptByGuard = true := by decide +kernel
theorem w_X10_keptByGuard_0 {X : Cx} {d : Nat} {S : Mem} {Q : Res → Mem → Prop} (r0 : Nat) (h : (isK S r0 10) ∧ ∃ e2 : Nat, e2 + 1 ≤ d ∧ C X e2 MX10_cell [vR r0, vI ((gI S r0 15) + 3)] S (RI fun y5 S6 => Q (.inl (some (vI y5))) S6)) : V X d MX10_keptByGuard 0 [(0, vR r0)] [] S Q := by
  refine V_aload_n (pc2 := 1) (dk D_X10_keptByGuard 0 rfl) rfl (V_lg 0 rfl) rfl ?_
  refine V_aload_n (pc2 := 2) (dk D_X10_keptByGuard 1 rfl) rfl (V_lg 0 rfl) rfl ?_
  obtain ⟨h1, h⟩ := h
  refine V_getI kc10 (pc2 := 5) 15 (dk D_X10_keptByGuard 2 rfl) fl_10_67 (by decide) (fun _ => rfl) rfl h1 ?_
  refine V_iconst (x := 3) (pc2 := 6) (dk D_X10_keptByGuard 3 rfl) (by decide) rfl ?_
  refine V_iadd (pc2 := 7) (dk D_X10_keptByGuard 4 rfl) rfl ?_
  obtain ⟨e2, he3, hc4⟩ := h
  refine V_callV (as := [_]) (st := []) (M' := MX10_cell) (ci := 10) (pc2 := 10) (dk D_X10_keptByGuard 5 rfl) ml_10_79 mv_X10_cell rfl rfl (by decide) rfl (Nat.le_of_ble_eq_true rfl) rfl he3 h1 hc4 (RI.k fun y5 S6 h => ?_)
  exact V_ireturn (dk D_X10_keptByGuard 6 rfl) rfl h
def L_X10_turnGuard : List (Nat × Instr × Nat) := [(0, .aload_n 0, 1), (1, .aload_n 0, 1), (2, .getfield 67, 3), (5, .iconst 2, 1), (6, .iadd, 1), (7, .iload_n 1, 1), (8, .invokevirtual 57, 3), (11, .aload_n 0, 1), (12, .aload_n 0, 1), (13, .getfield 67, 3), (16, .iconst 3, 1), (17, .iadd, 1), (18, .iload_n 2, 1), (19, .invokevirtual 57, 3), (22, .aload_n 0, 1), (23, .aload_n 0, 1), (24, .getfield 67, 3), (27, .iconst 4, 1), (28, .iadd, 1), (29, .putfield 61, 3), (32, .aload_n 0, 1), (33, .iload_n 3, 1), (34, .putfield 70, 3), (37, .return_, 1)]
theorem D_X10_turnGuard : dOk cX10_turnGuard L_X10_turnGuard = true := by decide +kernel
theorem w_X10_turnGuard_0 {X : Cx} {d : Nat} {S : Mem} {Q : Res → Mem → Prop} (r0 : Nat) (x1 : Int32) (x2 : Int32) (x3 : Int32) (h : (isK S r0 10) ∧ ∃ e2 : Nat, e2 + 1 ≤ d ∧ C X e2 MX10_put [vR r0, vI ((gI S r0 15) + 2), vI x1] S (RV fun  S5 => (isK S5 r0 10) ∧ ∃ e7 : Nat, e7 + 1 ≤ d ∧ C X e7 MX10_put [vR r0, vI ((gI S5 r0 15) + 3), vI x2] S5 (RV fun  S10 => (isK S10 r0 10) ∧ ∀ S12 : Mem, S12 = uI S10 r0 13 ((gI S10 r0 15) + 4) → ∀ S13 : Mem, S13 = uI S12 r0 9 x3 → Q (.inl none) S13))) : V X d MX10_turnGuard 0 [(0, vR r0), (1, vI x1), (2, vI x2), (3, vI x3)] [] S Q := by
  refine V_aload_n (pc2 := 1) (dk D_X10_turnGuard 0 rfl) rfl (V_lg 0 rfl) rfl ?_
  refine V_aload_n (pc2 := 2) (dk D_X10_turnGuard 1 rfl) rfl (V_lg 0 rfl) rfl ?_
  obtain ⟨h1, h⟩ := h
  refine V_getI kc10 (pc2 := 5) 15 (dk D_X10_turnGuard 2 rfl) fl_10_67 (by decide) (fun _ => rfl) rfl h1 ?_
  refine V_iconst (x := 2) (pc2 := 6) (dk D_X10_turnGuard 3 rfl) (by decide) rfl ?_
  refine V_iadd (pc2 := 7) (dk D_X10_turnGuard 4 rfl) rfl ?_
  refine V_iload_n (pc2 := 8) (dk D_X10_turnGuard 5 rfl) rfl (V_lg 1 rfl) rfl ?_
  obtain ⟨e2, he3, hc4⟩ := h
  refine V_callV (as := [_, _]) (st := []) (M' := MX10_put) (ci := 10) (pc2 := 11) (dk D_X10_turnGuard 6 rfl) ml_10_57 mv_X10_put rfl rfl (by decide) rfl (Nat.le_of_ble_eq_true rfl) rfl he3 h1 hc4 (RV.k fun  S5 h => ?_)
  refine V_aload_n (pc2 := 12) (dk D_X10_turnGuard 7 rfl) rfl (V_lg 0 rfl) rfl ?_
  refine V_aload_n (pc2 := 13) (dk D_X10_turnGuard 8 rfl) rfl (V_lg 0 rfl) rfl ?_
  obtain ⟨h6, h⟩ := h
  refine V_getI kc10 (pc2 := 16) 15 (dk D_X10_turnGuard 9 rfl) fl_10_67 (by decide) (fun _ => rfl) rfl h6 ?_
  refine V_iconst (x := 3) (pc2 := 17) (dk D_X10_turnGuard 10 rfl) (by decide) rfl ?_
  refine V_iadd (pc2 := 18) (dk D_X10_turnGuard 11 rfl) rfl ?_
  refine V_iload_n (pc2 := 19) (dk D_X10_turnGuard 12 rfl) rfl (V_lg 2 rfl) rfl ?_
  obtain ⟨e7, he8, hc9⟩ := h
  refine V_callV (as := [_, _]) (st := []) (M' := MX10_put) (ci := 10) (pc2 := 22) (dk D_X10_turnGuard 13 rfl) ml_10_57 mv_X10_put rfl rfl (by decide) rfl (Nat.le_of_ble_eq_true rfl) rfl he8 h6 hc9 (RV.k fun  S10 h => ?_)
  refine V_aload_n (pc2 := 23) (dk D_X10_turnGuard 14 rfl) rfl (V_lg 0 rfl) rfl ?_
  refine V_aload_n (pc2 := 24) (dk D_X10_turnGuard 15 rfl) rfl (V_lg 0 rfl) rfl ?_
  obtain ⟨h11, h⟩ := h
  refine V_getI kc10 (pc2 := 27) 15 (dk D_X10_turnGuard 16 rfl) fl_10_67 (by decide) (fun _ => rfl) rfl h11 ?_
  refine V_iconst (x := 4) (pc2 := 28) (dk D_X10_turnGuard 17 rfl) (by decide) rfl ?_
  refine V_iadd (pc2 := 29) (dk D_X10_turnGuard 18 rfl) rfl ?_
  refine V_putI kc10 (pc2 := 32) 13 (dk D_X10_turnGuard 19 rfl) fl_10_61 (by decide) (Or.inl rfl) rfl rfl h11 ?_
  have h := h _ rfl
  refine V_aload_n (pc2 := 33) (dk D_X10_turnGuard 20 rfl) rfl (V_lg 0 rfl) rfl ?_
  refine V_iload_n (pc2 := 34) (dk D_X10_turnGuard 21 rfl) rfl (V_lg 3 rfl) rfl ?_
  refine V_putI kc10 (pc2 := 37) 9 (dk D_X10_turnGuard 22 rfl) fl_10_70 (by decide) (Or.inl rfl) rfl rfl h11 ?_
  have h := h _ rfl
  exact V_return (dk D_X10_turnGuard 23 rfl) rfl h
def L_X10_closeGuard : List (Nat × Instr × Nat) := [(0, .aload_n 0, 1), (1, .aload_n 0, 1), (2, .getfield 67, 3), (5, .putfield 61, 3), (8, .aload_n 0, 1), (9, .aload_n 0, 1), (10, .aload_n 0, 1), (11, .getfield 67, 3), (14, .invokevirtual 79, 3), (17, .putfield 67, 3), (20, .return_, 1)]
theorem D_X10_closeGuard : dOk cX10_closeGuard L_X10_closeGuard = true := by decide +kernel
theorem w_X10_closeGuard_0 {X : Cx} {d : Nat} {S : Mem} {Q : Res → Mem → Prop} (r0 : Nat) (h : (isK S r0 10) ∧ ∀ S2 : Mem, S2 = uI S r0 13 (gI S r0 15) → ∃ e3 : Nat, e3 + 1 ≤ d ∧ C X e3 MX10_cell [vR r0, vI (gI S2 r0 15)] S2 (RI fun y6 S7 => (isK S7 r0 10) ∧ ∀ S9 : Mem, S9 = uI S7 r0 15 y6 → Q (.inl none) S9)) : V X d MX10_closeGuard 0 [(0, vR r0)] [] S Q := by
  refine V_aload_n (pc2 := 1) (dk D_X10_closeGuard 0 rfl) rfl (V_lg 0 rfl) rfl ?_
  refine V_aload_n (pc2 := 2) (dk D_X10_closeGuard 1 rfl) rfl (V_lg 0 rfl) rfl ?_
  obtain ⟨h1, h⟩ := h
  refine V_getI kc10 (pc2 := 5) 15 (dk D_X10_closeGuard 2 rfl) fl_10_67 (by decide) (fun _ => rfl) rfl h1 ?_
  refine V_putI kc10 (pc2 := 8) 13 (dk D_X10_closeGuard 3 rfl) fl_10_61 (by decide) (Or.inl rfl) rfl rfl h1 ?_
  have h := h _ rfl
  refine V_aload_n (pc2 := 9) (dk D_X10_closeGuard 4 rfl) rfl (V_lg 0 rfl) rfl ?_
  refine V_aload_n (pc2 := 10) (dk D_X10_closeGuard 5 rfl) rfl (V_lg 0 rfl) rfl ?_
  refine V_aload_n (pc2 := 11) (dk D_X10_closeGuard 6 rfl) rfl (V_lg 0 rfl) rfl ?_
  refine V_getI kc10 (pc2 := 14) 15 (dk D_X10_closeGuard 7 rfl) fl_10_67 (by decide) (fun _ => rfl) rfl h1 ?_
  obtain ⟨e3, he4, hc5⟩ := h
  refine V_callV (as := [_]) (st := [_]) (M' := MX10_cell) (ci := 10) (pc2 := 17) (dk D_X10_closeGuard 8 rfl) ml_10_79 mv_X10_cell rfl rfl (by decide) rfl (Nat.le_of_ble_eq_true rfl) rfl he4 h1 hc5 (RI.k fun y6 S7 h => ?_)
  obtain ⟨h8, h⟩ := h
  refine V_putI kc10 (pc2 := 20) 15 (dk D_X10_closeGuard 9 rfl) fl_10_67 (by decide) (Or.inl rfl) rfl rfl h8 ?_
  have h := h _ rfl
  exact V_return (dk D_X10_closeGuard 10 rfl) rfl h
def L_X10_caught : List (Nat × Instr × Nat) := [(0, .aload_n 0, 1), (1, .getfield 67, 3), (4, .istore_n 1, 1), (5, .iconst 0, 1), (6, .istore_n 2, 1), (7, .iload_n 2, 1), (8, .bipush 24, 2), (10, .if_icmp .ge 42, 3), (13, .iload_n 1, 1), (14, .aload_n 0, 1), (15, .getfield 64, 3), (18, .if_icmp .le 34, 3), (21, .aload_n 0, 1), (22, .iload_n 1, 1), (23, .iconst 2, 1), (24, .iadd, 1), (25, .invokevirtual 79, 3), (28, .iconst 1, 1), (29, .if_icmp .ne 11, 3), (32, .aload_n 0, 1), (33, .iload_n 1, 1), (34, .iconst 3, 1), (35, .iadd, 1), (36, .invokevirtual 79, 3), (39, .ireturn, 1), (40, .aload_n 0, 1), (41, .iload_n 1, 1), (42, .invokevirtual 79, 3), (45, .istore_n 1, 1), (46, .iinc 2 1, 3), (49, .goto (-42), 3), (52, .iconst 0, 1), (53, .ireturn, 1)]
theorem D_X10_caught : dOk cX10_caught L_X10_caught = true := by decide +kernel
theorem w_X10_caught_0 {X : Cx} {d : Nat} {S : Mem} {Q : Res → Mem → Prop} (r0 : Nat) (h : (isK S r0 10) ∧ V X d MX10_caught 7 [(0, vR r0), (1, vI (gI S r0 15)), (2, vI 0)] [] S Q) : V X d MX10_caught 0 [(0, vR r0)] [] S Q := by
  refine V_aload_n (pc2 := 1) (dk D_X10_caught 0 rfl) rfl (V_lg 0 rfl) rfl ?_
  obtain ⟨h1, h⟩ := h
  refine V_getI kc10 (pc2 := 4) 15 (dk D_X10_caught 1 rfl) fl_10_67 (by decide) (fun _ => rfl) rfl h1 ?_
  refine V_istore_n (pc2 := 5) (lv2 := [(0, _), (1, _)]) (dk D_X10_caught 2 rfl) rfl (by decide) rfl rfl ?_
  refine V_iconst (x := 0) (pc2 := 6) (dk D_X10_caught 3 rfl) (by decide) rfl ?_
  refine V_istore_n (pc2 := 7) (lv2 := [(0, _), (1, _), (2, _)]) (dk D_X10_caught 4 rfl) rfl (by decide) rfl rfl ?_
  exact h
theorem w_X10_caught_7 {X : Cx} {d : Nat} {S : Mem} {Q : Res → Mem → Prop} (r0 : Nat) (x1 : Int32) (x2 : Int32) (h : ((24 ≤ x2 → V X d MX10_caught 52 [(0, vR r0), (1, vI x1), (2, vI x2)] [] S Q) ∧ (¬ 24 ≤ x2 → (isK S r0 10) ∧ ((x1 ≤ (gI S r0 14) → V X d MX10_caught 52 [(0, vR r0), (1, vI x1), (2, vI x2)] [] S Q) ∧ (¬ x1 ≤ (gI S r0 14) → ∃ e4 : Nat, e4 + 1 ≤ d ∧ C X e4 MX10_cell [vR r0, vI (x1 + 2)] S (RI fun y7 S8 => ((¬ y7 = 1 → (isK S8 r0 10) ∧ ∃ e10 : Nat, e10 + 1 ≤ d ∧ C X e10 MX10_cell [vR r0, vI x1] S8 (RI fun y13 S14 => V X d MX10_caught 7 [(0, vR r0), (1, vI y13), (2, vI (x2 + 1))] [] S14 Q)) ∧ (y7 = 1 → (isK S8 r0 10) ∧ ∃ e16 : Nat, e16 + 1 ≤ d ∧ C X e16 MX10_cell [vR r0, vI (x1 + 3)] S8 (RI fun y19 S20 => Q (.inl (some (vI y19))) S20))))))))) : V X d MX10_caught 7 [(0, vR r0), (1, vI x1), (2, vI x2)] [] S Q := by
  refine V_iload_n (pc2 := 8) (dk D_X10_caught 5 rfl) rfl (V_lg 2 rfl) rfl ?_
  refine V_bipush (x := 24) (pc2 := 10) (dk D_X10_caught 6 rfl) (by decide) rfl ?_
  refine V_cmpge (tgt := 52) (pc2 := 13) (dk D_X10_caught 7 rfl) (by decide) rfl (fun q1 => ?_) (fun q1 => ?_)
  · have h := h.1 q1
    exact h
  · have h := h.2 q1
    refine V_iload_n (pc2 := 14) (dk D_X10_caught 8 rfl) rfl (V_lg 1 rfl) rfl ?_
    refine V_aload_n (pc2 := 15) (dk D_X10_caught 9 rfl) rfl (V_lg 0 rfl) rfl ?_
    obtain ⟨h2, h⟩ := h
    refine V_getI kc10 (pc2 := 18) 14 (dk D_X10_caught 10 rfl) fl_10_64 (by decide) (fun _ => rfl) rfl h2 ?_
    refine V_cmple (tgt := 52) (pc2 := 21) (dk D_X10_caught 11 rfl) (by decide) rfl (fun q3 => ?_) (fun q3 => ?_)
    · have h := h.1 q3
      exact h
    · have h := h.2 q3
      refine V_aload_n (pc2 := 22) (dk D_X10_caught 12 rfl) rfl (V_lg 0 rfl) rfl ?_
      refine V_iload_n (pc2 := 23) (dk D_X10_caught 13 rfl) rfl (V_lg 1 rfl) rfl ?_
      refine V_iconst (x := 2) (pc2 := 24) (dk D_X10_caught 14 rfl) (by decide) rfl ?_
      refine V_iadd (pc2 := 25) (dk D_X10_caught 15 rfl) rfl ?_
      obtain ⟨e4, he5, hc6⟩ := h
      refine V_callV (as := [_]) (st := []) (M' := MX10_cell) (ci := 10) (pc2 := 28) (dk D_X10_caught 16 rfl) ml_10_79 mv_X10_cell rfl rfl (by decide) rfl (Nat.le_of_ble_eq_true rfl) rfl he5 h2 hc6 (RI.k fun y7 S8 h => ?_)
      refine V_iconst (x := 1) (pc2 := 29) (dk D_X10_caught 17 rfl) (by decide) rfl ?_
      refine V_cmpne (tgt := 40) (pc2 := 32) (dk D_X10_caught 18 rfl) (by decide) rfl (fun q9 => ?_) (fun q9 => ?_)
      · have h := h.1 q9
        refine V_aload_n (pc2 := 41) (dk D_X10_caught 25 rfl) rfl (V_lg 0 rfl) rfl ?_
        refine V_iload_n (pc2 := 42) (dk D_X10_caught 26 rfl) rfl (V_lg 1 rfl) rfl ?_
        obtain ⟨h15, h⟩ := h
        obtain ⟨e10, he11, hc12⟩ := h
        refine V_callV (as := [_]) (st := []) (M' := MX10_cell) (ci := 10) (pc2 := 45) (dk D_X10_caught 27 rfl) ml_10_79 mv_X10_cell rfl rfl (by decide) rfl (Nat.le_of_ble_eq_true rfl) rfl he11 h15 hc12 (RI.k fun y13 S14 h => ?_)
        refine V_istore_n (pc2 := 46) (lv2 := [(0, _), (1, _), (2, _)]) (dk D_X10_caught 28 rfl) rfl (by decide) rfl rfl ?_
        refine V_iinc (y := _ + 1) (pc2 := 49) (lv2 := [(0, _), (1, _), (2, _)]) (dk D_X10_caught 29 rfl) (V_lg 2 rfl) rfl (by decide) rfl rfl ?_
        refine V_goto (tgt := 7) (dk D_X10_caught 30 rfl) (by decide) ?_
        exact h
      · have h := h.2 q9
        refine V_aload_n (pc2 := 33) (dk D_X10_caught 19 rfl) rfl (V_lg 0 rfl) rfl ?_
        refine V_iload_n (pc2 := 34) (dk D_X10_caught 20 rfl) rfl (V_lg 1 rfl) rfl ?_
        refine V_iconst (x := 3) (pc2 := 35) (dk D_X10_caught 21 rfl) (by decide) rfl ?_
        refine V_iadd (pc2 := 36) (dk D_X10_caught 22 rfl) rfl ?_
        obtain ⟨h21, h⟩ := h
        obtain ⟨e16, he17, hc18⟩ := h
        refine V_callV (as := [_]) (st := []) (M' := MX10_cell) (ci := 10) (pc2 := 39) (dk D_X10_caught 23 rfl) ml_10_79 mv_X10_cell rfl rfl (by decide) rfl (Nat.le_of_ble_eq_true rfl) rfl he17 h21 hc18 (RI.k fun y19 S20 h => ?_)
        exact V_ireturn (dk D_X10_caught 24 rfl) rfl h
theorem w_X10_caught_52 {X : Cx} {d : Nat} {S : Mem} {Q : Res → Mem → Prop} (r0 : Nat) (x1 : Int32) (x2 : Int32) (h : Q (.inl (some (vI 0))) S) : V X d MX10_caught 52 [(0, vR r0), (1, vI x1), (2, vI x2)] [] S Q := by
  refine V_iconst (x := 0) (pc2 := 53) (dk D_X10_caught 31 rfl) (by decide) rfl ?_
  exact V_ireturn (dk D_X10_caught 32 rfl) rfl h
def L_X10_work : List (Nat × Instr × Nat) := [(0, .iload_n 1, 1), (1, .tableswitch 193 1 16 #[79, 86, 101, 119, 126, 136, 147, 193, 193, 193, 193, 193, 193, 193, 165, 172], 79), (80, .aload_n 0, 1), (81, .iload_n 2, 1), (82, .invokevirtual 100, 3), (85, .iconst 1, 1), (86, .ireturn, 1), (87, .aload_n 0, 1), (88, .aload_n 0, 1), (89, .aload_n 0, 1), (90, .getfield 64, 3), (93, .iload_n 2, 1), (94, .invokevirtual 104, 3), (97, .invokevirtual 100, 3), (100, .iconst 1, 1), (101, .ireturn, 1), (102, .aload_n 0, 1), (103, .aload_n 0, 1), (104, .getfield 64, 3), (107, .iconst 4, 1), (108, .iadd, 1), (109, .iload_n 2, 1), (110, .iadd, 1), (111, .aload_n 0, 1), (112, .invokevirtual 107, 3), (115, .invokevirtual 57, 3), (118, .iconst 1, 1), (119, .ireturn, 1), (120, .aload_n 0, 1), (121, .invokevirtual 107, 3), (124, .pop, 1), (125, .iconst 1, 1), (126, .ireturn, 1), (127, .aload_n 0, 1), (128, .aload_n 0, 1), (129, .getfield 18, 3), (132, .invokevirtual 100, 3), (135, .iconst 1, 1), (136, .ireturn, 1), (137, .aload_n 0, 1), (138, .aload_n 0, 1), (139, .invokevirtual 107, 3), (142, .ineg, 1), (143, .invokevirtual 100, 3), (146, .iconst 1, 1), (147, .ireturn, 1), (148, .aload_n 0, 1), (149, .aload_n 0, 1), (150, .invokevirtual 107, 3), (153, .ifCond .ne 7, 3), (156, .iconst 1, 1), (157, .goto 4, 3), (160, .iconst 0, 1), (161, .invokevirtual 100, 3), (164, .iconst 1, 1), (165, .ireturn, 1), (166, .aload_n 0, 1), (167, .iload_n 2, 1), (168, .putfield 70, 3), (171, .iconst 1, 1), (172, .ireturn, 1), (173, .aload_n 0, 1), (174, .aload_n 0, 1), (175, .invokevirtual 107, 3), (178, .ifCond .ne 7, 3), (181, .iload_n 2, 1), (182, .goto 7, 3), (185, .aload_n 0, 1), (186, .getfield 70, 3), (189, .putfield 70, 3), (192, .iconst 1, 1), (193, .ireturn, 1), (194, .aload_n 0, 1), (195, .iload_n 1, 1), (196, .invokevirtual 111, 3), (199, .ireturn, 1)]
theorem D_X10_work : dOk cX10_work L_X10_work = true := by decide +kernel
theorem w_X10_work_0 {X : Cx} {d : Nat} {S : Mem} {Q : Res → Mem → Prop} (r0 : Nat) (x1 : Int32) (x2 : Int32) (h : ((x1 = 1 → (isK S r0 10) ∧ ∃ e17 : Nat, e17 + 1 ≤ d ∧ C X e17 MX10_push [vR r0, vI x2] S (RV fun  S20 => Q (.inl (some (vI 1))) S20)) ∧ (x1 = 2 → (isK S r0 10) ∧ ∃ e23 : Nat, e23 + 1 ≤ d ∧ C X e23 MX10_variable [vR r0, vI (gI S r0 14), vI x2] S (RI fun y26 S27 => (isK S27 r0 10) ∧ ∃ e28 : Nat, e28 + 1 ≤ d ∧ C X e28 MX10_push [vR r0, vI y26] S27 (RV fun  S31 => Q (.inl (some (vI 1))) S31))) ∧ (x1 = 3 → (isK S r0 10) ∧ ∃ e34 : Nat, e34 + 1 ≤ d ∧ C X e34 MX10_pop [vR r0] S (RI fun y37 S38 => (isK S38 r0 10) ∧ ∃ e39 : Nat, e39 + 1 ≤ d ∧ C X e39 MX10_put [vR r0, vI (((gI S r0 14) + 4) + x2), vI y37] S38 (RV fun  S42 => Q (.inl (some (vI 1))) S42))) ∧ (x1 = 4 → (isK S r0 10) ∧ ∃ e44 : Nat, e44 + 1 ≤ d ∧ C X e44 MX10_pop [vR r0] S (RI fun y47 S48 => Q (.inl (some (vI 1))) S48)) ∧ (x1 = 5 → (isK S r0 10) ∧ ∃ e51 : Nat, e51 + 1 ≤ d ∧ C X e51 MX10_push [vR r0, vI (gI S r0 0)] S (RV fun  S54 => Q (.inl (some (vI 1))) S54)) ∧ (x1 = 6 → (isK S r0 10) ∧ ∃ e55 : Nat, e55 + 1 ≤ d ∧ C X e55 MX10_pop [vR r0] S (RI fun y58 S59 => (isK S59 r0 10) ∧ ∃ e61 : Nat, e61 + 1 ≤ d ∧ C X e61 MX10_push [vR r0, vI (-y58)] S59 (RV fun  S64 => Q (.inl (some (vI 1))) S64))) ∧ (x1 = 7 → (isK S r0 10) ∧ ∃ e66 : Nat, e66 + 1 ≤ d ∧ C X e66 MX10_pop [vR r0] S (RI fun y69 S70 => ((¬ y69 = 0 → V X d MX10_work 161 [(0, vR r0), (1, vI x1), (2, vI x2)] [vI 0, vR r0] S70 Q) ∧ (y69 = 0 → V X d MX10_work 161 [(0, vR r0), (1, vI x1), (2, vI x2)] [vI 1, vR r0] S70 Q)))) ∧ (x1 = 15 → (isK S r0 10) ∧ ∀ S74 : Mem, S74 = uI S r0 9 x2 → Q (.inl (some (vI 1))) S74) ∧ (x1 = 16 → (isK S r0 10) ∧ ∃ e75 : Nat, e75 + 1 ≤ d ∧ C X e75 MX10_pop [vR r0] S (RI fun y78 S79 => ((¬ y78 = 0 → (isK S79 r0 10) ∧ V X d MX10_work 189 [(0, vR r0), (1, vI x1), (2, vI x2)] [vI (gI S79 r0 9), vR r0] S79 Q) ∧ (y78 = 0 → V X d MX10_work 189 [(0, vR r0), (1, vI x1), (2, vI x2)] [vI x2, vR r0] S79 Q)))) ∧ (¬ (x1 = 1 ∨ x1 = 2 ∨ x1 = 3 ∨ x1 = 4 ∨ x1 = 5 ∨ x1 = 6 ∨ x1 = 7 ∨ x1 = 15 ∨ x1 = 16) → (isK S r0 10) ∧ ∃ e3 : Nat, e3 + 1 ≤ d ∧ C X e3 MX10_combine [vR r0, vI x1] S (RI fun y6 S7 => (y6 = 0 ∨ y6 = 1) ∧ Q (.inl (some (vI y6))) S7)))) : V X d MX10_work 0 [(0, vR r0), (1, vI x1), (2, vI x2)] [] S Q := by
  refine V_iload_n (pc2 := 1) (dk D_X10_work 0 rfl) rfl (V_lg 1 rfl) rfl ?_
  refine V_table (dk D_X10_work 1 rfl) [80, 87, 102, 120, 127, 137, 148, 194, 194, 194, 194, 194, 194, 194, 166, 173] 194 (by decide) rfl (by decide) (fun q1 => ?_) (fun j2 hj q1 => ?_)
  · have h := h.2.2.2.2.2.2.2.2.2 (by rintro (hk | hk | hk | hk | hk | hk | hk | hk | hk) <;> (rw [hk] at q1; revert q1; decide))
    refine V_aload_n (pc2 := 195) (dk D_X10_work 72 rfl) rfl (V_lg 0 rfl) rfl ?_
    refine V_iload_n (pc2 := 196) (dk D_X10_work 73 rfl) rfl (V_lg 1 rfl) rfl ?_
    obtain ⟨h15, h⟩ := h
    obtain ⟨e10, he11, hc12⟩ := h
    refine V_callV (as := [_]) (st := []) (M' := MX10_combine) (ci := 10) (pc2 := 199) (dk D_X10_work 74 rfl) ml_10_111 mv_X10_combine rfl rfl (by decide) rfl (Nat.le_of_ble_eq_true rfl) rfl he11 h15 hc12 (RI.k fun y13 S14 h => ?_)
    obtain ⟨h16, h⟩ := h
    exact V_zreturn (dk D_X10_work 75 rfl) rfl h16 h
  · have hj2 : j2 = 0 ∨ j2 = 1 ∨ j2 = 2 ∨ j2 = 3 ∨ j2 = 4 ∨ j2 = 5 ∨ j2 = 6 ∨ j2 = 7 ∨ j2 = 8 ∨ j2 = 9 ∨ j2 = 10 ∨ j2 = 11 ∨ j2 = 12 ∨ j2 = 13 ∨ j2 = 14 ∨ j2 = 15 := by simp at hj; omega
    clear hj
    rcases hj2 with rfl | rfl | rfl | rfl | rfl | rfl | rfl | rfl | rfl | rfl | rfl | rfl | rfl | rfl | rfl | rfl
    · have hx : x1 = 1 := Int32.toInt_inj.mp (by rw [q1]; decide)
      have h := h.1 hx
      refine V_aload_n (pc2 := 81) (dk D_X10_work 2 rfl) rfl (V_lg 0 rfl) rfl ?_
      refine V_iload_n (pc2 := 82) (dk D_X10_work 3 rfl) rfl (V_lg 2 rfl) rfl ?_
      obtain ⟨h21, h⟩ := h
      obtain ⟨e17, he18, hc19⟩ := h
      refine V_callV (as := [_]) (st := []) (M' := MX10_push) (ci := 10) (pc2 := 85) (dk D_X10_work 4 rfl) ml_10_100 mv_X10_push rfl rfl (by decide) rfl (Nat.le_of_ble_eq_true rfl) rfl he18 h21 hc19 (RV.k fun  S20 h => ?_)
      refine V_iconst (x := 1) (pc2 := 86) (dk D_X10_work 5 rfl) (by decide) rfl ?_
      exact V_zreturn (dk D_X10_work 6 rfl) rfl (Or.inr rfl) h
    · have hx : x1 = 2 := Int32.toInt_inj.mp (by rw [q1]; decide)
      have h := h.2.1 hx
      refine V_aload_n (pc2 := 88) (dk D_X10_work 7 rfl) rfl (V_lg 0 rfl) rfl ?_
      refine V_aload_n (pc2 := 89) (dk D_X10_work 8 rfl) rfl (V_lg 0 rfl) rfl ?_
      refine V_aload_n (pc2 := 90) (dk D_X10_work 9 rfl) rfl (V_lg 0 rfl) rfl ?_
      obtain ⟨h22, h⟩ := h
      refine V_getI kc10 (pc2 := 93) 14 (dk D_X10_work 10 rfl) fl_10_64 (by decide) (fun _ => rfl) rfl h22 ?_
      refine V_iload_n (pc2 := 94) (dk D_X10_work 11 rfl) rfl (V_lg 2 rfl) rfl ?_
      obtain ⟨e23, he24, hc25⟩ := h
      refine V_callV (as := [_, _]) (st := [_]) (M' := MX10_variable) (ci := 10) (pc2 := 97) (dk D_X10_work 12 rfl) ml_10_104 mv_X10_variable rfl rfl (by decide) rfl (Nat.le_of_ble_eq_true rfl) rfl he24 h22 hc25 (RI.k fun y26 S27 h => ?_)
      obtain ⟨h32, h⟩ := h
      obtain ⟨e28, he29, hc30⟩ := h
      refine V_callV (as := [_]) (st := []) (M' := MX10_push) (ci := 10) (pc2 := 100) (dk D_X10_work 13 rfl) ml_10_100 mv_X10_push rfl rfl (by decide) rfl (Nat.le_of_ble_eq_true rfl) rfl he29 h32 hc30 (RV.k fun  S31 h => ?_)
      refine V_iconst (x := 1) (pc2 := 101) (dk D_X10_work 14 rfl) (by decide) rfl ?_
      exact V_zreturn (dk D_X10_work 15 rfl) rfl (Or.inr rfl) h
    · have hx : x1 = 3 := Int32.toInt_inj.mp (by rw [q1]; decide)
      have h := h.2.2.1 hx
      refine V_aload_n (pc2 := 103) (dk D_X10_work 16 rfl) rfl (V_lg 0 rfl) rfl ?_
      refine V_aload_n (pc2 := 104) (dk D_X10_work 17 rfl) rfl (V_lg 0 rfl) rfl ?_
      obtain ⟨h33, h⟩ := h
      refine V_getI kc10 (pc2 := 107) 14 (dk D_X10_work 18 rfl) fl_10_64 (by decide) (fun _ => rfl) rfl h33 ?_
      refine V_iconst (x := 4) (pc2 := 108) (dk D_X10_work 19 rfl) (by decide) rfl ?_
      refine V_iadd (pc2 := 109) (dk D_X10_work 20 rfl) rfl ?_
      refine V_iload_n (pc2 := 110) (dk D_X10_work 21 rfl) rfl (V_lg 2 rfl) rfl ?_
      refine V_iadd (pc2 := 111) (dk D_X10_work 22 rfl) rfl ?_
      refine V_aload_n (pc2 := 112) (dk D_X10_work 23 rfl) rfl (V_lg 0 rfl) rfl ?_
      obtain ⟨e34, he35, hc36⟩ := h
      refine V_callV (as := []) (st := [_, _]) (M' := MX10_pop) (ci := 10) (pc2 := 115) (dk D_X10_work 24 rfl) ml_10_107 mv_X10_pop rfl rfl (by decide) rfl (Nat.le_of_ble_eq_true rfl) rfl he35 h33 hc36 (RI.k fun y37 S38 h => ?_)
      obtain ⟨h43, h⟩ := h
      obtain ⟨e39, he40, hc41⟩ := h
      refine V_callV (as := [_, _]) (st := []) (M' := MX10_put) (ci := 10) (pc2 := 118) (dk D_X10_work 25 rfl) ml_10_57 mv_X10_put rfl rfl (by decide) rfl (Nat.le_of_ble_eq_true rfl) rfl he40 h43 hc41 (RV.k fun  S42 h => ?_)
      refine V_iconst (x := 1) (pc2 := 119) (dk D_X10_work 26 rfl) (by decide) rfl ?_
      exact V_zreturn (dk D_X10_work 27 rfl) rfl (Or.inr rfl) h
    · have hx : x1 = 4 := Int32.toInt_inj.mp (by rw [q1]; decide)
      have h := h.2.2.2.1 hx
      refine V_aload_n (pc2 := 121) (dk D_X10_work 28 rfl) rfl (V_lg 0 rfl) rfl ?_
      obtain ⟨h49, h⟩ := h
      obtain ⟨e44, he45, hc46⟩ := h
      refine V_callV (as := []) (st := []) (M' := MX10_pop) (ci := 10) (pc2 := 124) (dk D_X10_work 29 rfl) ml_10_107 mv_X10_pop rfl rfl (by decide) rfl (Nat.le_of_ble_eq_true rfl) rfl he45 h49 hc46 (RI.k fun y47 S48 h => ?_)
      refine V_pop (pc2 := 125) (dk D_X10_work 30 rfl) rfl rfl ?_
      refine V_iconst (x := 1) (pc2 := 126) (dk D_X10_work 31 rfl) (by decide) rfl ?_
      exact V_zreturn (dk D_X10_work 32 rfl) rfl (Or.inr rfl) h
    · have hx : x1 = 5 := Int32.toInt_inj.mp (by rw [q1]; decide)
      have h := h.2.2.2.2.1 hx
      refine V_aload_n (pc2 := 128) (dk D_X10_work 33 rfl) rfl (V_lg 0 rfl) rfl ?_
      refine V_aload_n (pc2 := 129) (dk D_X10_work 34 rfl) rfl (V_lg 0 rfl) rfl ?_
      obtain ⟨h50, h⟩ := h
      refine V_getI kc10 (pc2 := 132) 0 (dk D_X10_work 35 rfl) fl_10_18 (by decide) (fun _ => rfl) rfl h50 ?_
      obtain ⟨e51, he52, hc53⟩ := h
      refine V_callV (as := [_]) (st := []) (M' := MX10_push) (ci := 10) (pc2 := 135) (dk D_X10_work 36 rfl) ml_10_100 mv_X10_push rfl rfl (by decide) rfl (Nat.le_of_ble_eq_true rfl) rfl he52 h50 hc53 (RV.k fun  S54 h => ?_)
      refine V_iconst (x := 1) (pc2 := 136) (dk D_X10_work 37 rfl) (by decide) rfl ?_
      exact V_zreturn (dk D_X10_work 38 rfl) rfl (Or.inr rfl) h
    · have hx : x1 = 6 := Int32.toInt_inj.mp (by rw [q1]; decide)
      have h := h.2.2.2.2.2.1 hx
      refine V_aload_n (pc2 := 138) (dk D_X10_work 39 rfl) rfl (V_lg 0 rfl) rfl ?_
      refine V_aload_n (pc2 := 139) (dk D_X10_work 40 rfl) rfl (V_lg 0 rfl) rfl ?_
      obtain ⟨h60, h⟩ := h
      obtain ⟨e55, he56, hc57⟩ := h
      refine V_callV (as := []) (st := [_]) (M' := MX10_pop) (ci := 10) (pc2 := 142) (dk D_X10_work 41 rfl) ml_10_107 mv_X10_pop rfl rfl (by decide) rfl (Nat.le_of_ble_eq_true rfl) rfl he56 h60 hc57 (RI.k fun y58 S59 h => ?_)
      refine V_ineg (pc2 := 143) (dk D_X10_work 42 rfl) rfl ?_
      obtain ⟨h65, h⟩ := h
      obtain ⟨e61, he62, hc63⟩ := h
      refine V_callV (as := [_]) (st := []) (M' := MX10_push) (ci := 10) (pc2 := 146) (dk D_X10_work 43 rfl) ml_10_100 mv_X10_push rfl rfl (by decide) rfl (Nat.le_of_ble_eq_true rfl) rfl he62 h65 hc63 (RV.k fun  S64 h => ?_)
      refine V_iconst (x := 1) (pc2 := 147) (dk D_X10_work 44 rfl) (by decide) rfl ?_
      exact V_zreturn (dk D_X10_work 45 rfl) rfl (Or.inr rfl) h
    · have hx : x1 = 7 := Int32.toInt_inj.mp (by rw [q1]; decide)
      have h := h.2.2.2.2.2.2.1 hx
      refine V_aload_n (pc2 := 149) (dk D_X10_work 46 rfl) rfl (V_lg 0 rfl) rfl ?_
      refine V_aload_n (pc2 := 150) (dk D_X10_work 47 rfl) rfl (V_lg 0 rfl) rfl ?_
      obtain ⟨h71, h⟩ := h
      obtain ⟨e66, he67, hc68⟩ := h
      refine V_callV (as := []) (st := [_]) (M' := MX10_pop) (ci := 10) (pc2 := 153) (dk D_X10_work 48 rfl) ml_10_107 mv_X10_pop rfl rfl (by decide) rfl (Nat.le_of_ble_eq_true rfl) rfl he67 h71 hc68 (RI.k fun y69 S70 h => ?_)
      refine V_ifne (tgt := 160) (pc2 := 156) (dk D_X10_work 49 rfl) (by decide) rfl (fun q72 => ?_) (fun q72 => ?_)
      · have h := h.1 q72
        refine V_iconst (x := 0) (pc2 := 161) (dk D_X10_work 52 rfl) (by decide) rfl ?_
        exact h
      · have h := h.2 q72
        refine V_iconst (x := 1) (pc2 := 157) (dk D_X10_work 50 rfl) (by decide) rfl ?_
        refine V_goto (tgt := 161) (dk D_X10_work 51 rfl) (by decide) ?_
        exact h
    · have h := h.2.2.2.2.2.2.2.2.2 (by rintro (hk | hk | hk | hk | hk | hk | hk | hk | hk) <;> (rw [hk] at q1; revert q1; decide))
      refine V_aload_n (pc2 := 195) (dk D_X10_work 72 rfl) rfl (V_lg 0 rfl) rfl ?_
      refine V_iload_n (pc2 := 196) (dk D_X10_work 73 rfl) rfl (V_lg 1 rfl) rfl ?_
      obtain ⟨h8, h⟩ := h
      obtain ⟨e3, he4, hc5⟩ := h
      refine V_callV (as := [_]) (st := []) (M' := MX10_combine) (ci := 10) (pc2 := 199) (dk D_X10_work 74 rfl) ml_10_111 mv_X10_combine rfl rfl (by decide) rfl (Nat.le_of_ble_eq_true rfl) rfl he4 h8 hc5 (RI.k fun y6 S7 h => ?_)
      obtain ⟨h9, h⟩ := h
      exact V_zreturn (dk D_X10_work 75 rfl) rfl h9 h
    · have h := h.2.2.2.2.2.2.2.2.2 (by rintro (hk | hk | hk | hk | hk | hk | hk | hk | hk) <;> (rw [hk] at q1; revert q1; decide))
      refine V_aload_n (pc2 := 195) (dk D_X10_work 72 rfl) rfl (V_lg 0 rfl) rfl ?_
      refine V_iload_n (pc2 := 196) (dk D_X10_work 73 rfl) rfl (V_lg 1 rfl) rfl ?_
      obtain ⟨h8, h⟩ := h
      obtain ⟨e3, he4, hc5⟩ := h
      refine V_callV (as := [_]) (st := []) (M' := MX10_combine) (ci := 10) (pc2 := 199) (dk D_X10_work 74 rfl) ml_10_111 mv_X10_combine rfl rfl (by decide) rfl (Nat.le_of_ble_eq_true rfl) rfl he4 h8 hc5 (RI.k fun y6 S7 h => ?_)
      obtain ⟨h9, h⟩ := h
      exact V_zreturn (dk D_X10_work 75 rfl) rfl h9 h
    · have h := h.2.2.2.2.2.2.2.2.2 (by rintro (hk | hk | hk | hk | hk | hk | hk | hk | hk) <;> (rw [hk] at q1; revert q1; decide))
      refine V_aload_n (pc2 := 195) (dk D_X10_work 72 rfl) rfl (V_lg 0 rfl) rfl ?_
      refine V_iload_n (pc2 := 196) (dk D_X10_work 73 rfl) rfl (V_lg 1 rfl) rfl ?_
      obtain ⟨h8, h⟩ := h
      obtain ⟨e3, he4, hc5⟩ := h
      refine V_callV (as := [_]) (st := []) (M' := MX10_combine) (ci := 10) (pc2 := 199) (dk D_X10_work 74 rfl) ml_10_111 mv_X10_combine rfl rfl (by decide) rfl (Nat.le_of_ble_eq_true rfl) rfl he4 h8 hc5 (RI.k fun y6 S7 h => ?_)
      obtain ⟨h9, h⟩ := h
      exact V_zreturn (dk D_X10_work 75 rfl) rfl h9 h
    · have h := h.2.2.2.2.2.2.2.2.2 (by rintro (hk | hk | hk | hk | hk | hk | hk | hk | hk) <;> (rw [hk] at q1; revert q1; decide))
      refine V_aload_n (pc2 := 195) (dk D_X10_work 72 rfl) rfl (V_lg 0 rfl) rfl ?_
      refine V_iload_n (pc2 := 196) (dk D_X10_work 73 rfl) rfl (V_lg 1 rfl) rfl ?_
      obtain ⟨h8, h⟩ := h
      obtain ⟨e3, he4, hc5⟩ := h
      refine V_callV (as := [_]) (st := []) (M' := MX10_combine) (ci := 10) (pc2 := 199) (dk D_X10_work 74 rfl) ml_10_111 mv_X10_combine rfl rfl (by decide) rfl (Nat.le_of_ble_eq_true rfl) rfl he4 h8 hc5 (RI.k fun y6 S7 h => ?_)
      obtain ⟨h9, h⟩ := h
      exact V_zreturn (dk D_X10_work 75 rfl) rfl h9 h
    · have h := h.2.2.2.2.2.2.2.2.2 (by rintro (hk | hk | hk | hk | hk | hk | hk | hk | hk) <;> (rw [hk] at q1; revert q1; decide))
      refine V_aload_n (pc2 := 195) (dk D_X10_work 72 rfl) rfl (V_lg 0 rfl) rfl ?_
      refine V_iload_n (pc2 := 196) (dk D_X10_work 73 rfl) rfl (V_lg 1 rfl) rfl ?_
      obtain ⟨h8, h⟩ := h
      obtain ⟨e3, he4, hc5⟩ := h
      refine V_callV (as := [_]) (st := []) (M' := MX10_combine) (ci := 10) (pc2 := 199) (dk D_X10_work 74 rfl) ml_10_111 mv_X10_combine rfl rfl (by decide) rfl (Nat.le_of_ble_eq_true rfl) rfl he4 h8 hc5 (RI.k fun y6 S7 h => ?_)
      obtain ⟨h9, h⟩ := h
      exact V_zreturn (dk D_X10_work 75 rfl) rfl h9 h
    · have h := h.2.2.2.2.2.2.2.2.2 (by rintro (hk | hk | hk | hk | hk | hk | hk | hk | hk) <;> (rw [hk] at q1; revert q1; decide))
      refine V_aload_n (pc2 := 195) (dk D_X10_work 72 rfl) rfl (V_lg 0 rfl) rfl ?_
      refine V_iload_n (pc2 := 196) (dk D_X10_work 73 rfl) rfl (V_lg 1 rfl) rfl ?_
      obtain ⟨h8, h⟩ := h
      obtain ⟨e3, he4, hc5⟩ := h
      refine V_callV (as := [_]) (st := []) (M' := MX10_combine) (ci := 10) (pc2 := 199) (dk D_X10_work 74 rfl) ml_10_111 mv_X10_combine rfl rfl (by decide) rfl (Nat.le_of_ble_eq_true rfl) rfl he4 h8 hc5 (RI.k fun y6 S7 h => ?_)
      obtain ⟨h9, h⟩ := h
      exact V_zreturn (dk D_X10_work 75 rfl) rfl h9 h
    · have h := h.2.2.2.2.2.2.2.2.2 (by rintro (hk | hk | hk | hk | hk | hk | hk | hk | hk) <;> (rw [hk] at q1; revert q1; decide))
      refine V_aload_n (pc2 := 195) (dk D_X10_work 72 rfl) rfl (V_lg 0 rfl) rfl ?_
      refine V_iload_n (pc2 := 196) (dk D_X10_work 73 rfl) rfl (V_lg 1 rfl) rfl ?_
      obtain ⟨h8, h⟩ := h
      obtain ⟨e3, he4, hc5⟩ := h
      refine V_callV (as := [_]) (st := []) (M' := MX10_combine) (ci := 10) (pc2 := 199) (dk D_X10_work 74 rfl) ml_10_111 mv_X10_combine rfl rfl (by decide) rfl (Nat.le_of_ble_eq_true rfl) rfl he4 h8 hc5 (RI.k fun y6 S7 h => ?_)
      obtain ⟨h9, h⟩ := h
      exact V_zreturn (dk D_X10_work 75 rfl) rfl h9 h
    · have hx : x1 = 15 := Int32.toInt_inj.mp (by rw [q1]; decide)
      have h := h.2.2.2.2.2.2.2.1 hx
      refine V_aload_n (pc2 := 167) (dk D_X10_work 56 rfl) rfl (V_lg 0 rfl) rfl ?_
      refine V_iload_n (pc2 := 168) (dk D_X10_work 57 rfl) rfl (V_lg 2 rfl) rfl ?_
      obtain ⟨h73, h⟩ := h
      refine V_putI kc10 (pc2 := 171) 9 (dk D_X10_work 58 rfl) fl_10_70 (by decide) (Or.inl rfl) rfl rfl h73 ?_
      have h := h _ rfl
      refine V_iconst (x := 1) (pc2 := 172) (dk D_X10_work 59 rfl) (by decide) rfl ?_
      exact V_zreturn (dk D_X10_work 60 rfl) rfl (Or.inr rfl) h
    · have hx : x1 = 16 := Int32.toInt_inj.mp (by rw [q1]; decide)
      have h := h.2.2.2.2.2.2.2.2.1 hx
      refine V_aload_n (pc2 := 174) (dk D_X10_work 61 rfl) rfl (V_lg 0 rfl) rfl ?_
      refine V_aload_n (pc2 := 175) (dk D_X10_work 62 rfl) rfl (V_lg 0 rfl) rfl ?_
      obtain ⟨h80, h⟩ := h
      obtain ⟨e75, he76, hc77⟩ := h
      refine V_callV (as := []) (st := [_]) (M' := MX10_pop) (ci := 10) (pc2 := 178) (dk D_X10_work 63 rfl) ml_10_107 mv_X10_pop rfl rfl (by decide) rfl (Nat.le_of_ble_eq_true rfl) rfl he76 h80 hc77 (RI.k fun y78 S79 h => ?_)
      refine V_ifne (tgt := 185) (pc2 := 181) (dk D_X10_work 64 rfl) (by decide) rfl (fun q81 => ?_) (fun q81 => ?_)
      · have h := h.1 q81
        refine V_aload_n (pc2 := 186) (dk D_X10_work 67 rfl) rfl (V_lg 0 rfl) rfl ?_
        obtain ⟨h82, h⟩ := h
        refine V_getI kc10 (pc2 := 189) 9 (dk D_X10_work 68 rfl) fl_10_70 (by decide) (fun _ => rfl) rfl h82 ?_
        exact h
      · have h := h.2 q81
        refine V_iload_n (pc2 := 182) (dk D_X10_work 65 rfl) rfl (V_lg 2 rfl) rfl ?_
        refine V_goto (tgt := 189) (dk D_X10_work 66 rfl) (by decide) ?_
        exact h
theorem w_X10_work_161 {X : Cx} {d : Nat} {S : Mem} {Q : Res → Mem → Prop} (r0 : Nat) (x1 : Int32) (x2 : Int32) (t0 : Nat) (t1 : Int32) (h : (isK S t0 10) ∧ ∃ e1 : Nat, e1 + 1 ≤ d ∧ C X e1 MX10_push [vR t0, vI t1] S (RV fun  S4 => Q (.inl (some (vI 1))) S4)) : V X d MX10_work 161 [(0, vR r0), (1, vI x1), (2, vI x2)] [vI t1, vR t0] S Q := by
  obtain ⟨h5, h⟩ := h
  obtain ⟨e1, he2, hc3⟩ := h
  refine V_callV (as := [_]) (st := []) (M' := MX10_push) (ci := 10) (pc2 := 164) (dk D_X10_work 53 rfl) ml_10_100 mv_X10_push rfl rfl (by decide) rfl (Nat.le_of_ble_eq_true rfl) rfl he2 h5 hc3 (RV.k fun  S4 h => ?_)
  refine V_iconst (x := 1) (pc2 := 165) (dk D_X10_work 54 rfl) (by decide) rfl ?_
  exact V_zreturn (dk D_X10_work 55 rfl) rfl (Or.inr rfl) h
theorem w_X10_work_189 {X : Cx} {d : Nat} {S : Mem} {Q : Res → Mem → Prop} (r0 : Nat) (x1 : Int32) (x2 : Int32) (t0 : Nat) (t1 : Int32) (h : (isK S t0 10) ∧ ∀ S2 : Mem, S2 = uI S t0 9 t1 → Q (.inl (some (vI 1))) S2) : V X d MX10_work 189 [(0, vR r0), (1, vI x1), (2, vI x2)] [vI t1, vR t0] S Q := by
  obtain ⟨h1, h⟩ := h
  refine V_putI kc10 (pc2 := 192) 9 (dk D_X10_work 69 rfl) fl_10_70 (by decide) (Or.inl rfl) rfl rfl h1 ?_
  have h := h _ rfl
  refine V_iconst (x := 1) (pc2 := 193) (dk D_X10_work 70 rfl) (by decide) rfl ?_
  exact V_zreturn (dk D_X10_work 71 rfl) rfl (Or.inr rfl) h
def L_X10_combine : List (Nat × Instr × Nat) := [(0, .aload_n 0, 1), (1, .invokevirtual 107, 3), (4, .istore_n 2, 1), (5, .aload_n 0, 1), (6, .invokevirtual 107, 3), (9, .istore_n 3, 1), (10, .iload_n 1, 1), (11, .tableswitch 100 8 14 #[41, 50, 59, 100, 100, 68, 84], 41), (52, .aload_n 0, 1), (53, .iload_n 3, 1), (54, .iload_n 2, 1), (55, .iadd, 1), (56, .invokevirtual 100, 3), (59, .iconst 1, 1), (60, .ireturn, 1), (61, .aload_n 0, 1), (62, .iload_n 3, 1), (63, .iload_n 2, 1), (64, .isub, 1), (65, .invokevirtual 100, 3), (68, .iconst 1, 1), (69, .ireturn, 1), (70, .aload_n 0, 1), (71, .iload_n 3, 1), (72, .iload_n 2, 1), (73, .imul, 1), (74, .invokevirtual 100, 3), (77, .iconst 1, 1), (78, .ireturn, 1), (79, .aload_n 0, 1), (80, .iload_n 3, 1), (81, .iload_n 2, 1), (82, .if_icmp .ge 7, 3), (85, .iconst 1, 1), (86, .goto 4, 3), (89, .iconst 0, 1), (90, .invokevirtual 100, 3), (93, .iconst 1, 1), (94, .ireturn, 1), (95, .aload_n 0, 1), (96, .iload_n 3, 1), (97, .iload_n 2, 1), (98, .if_icmp .ne 7, 3), (101, .iconst 1, 1), (102, .goto 4, 3), (105, .iconst 0, 1), (106, .invokevirtual 100, 3), (109, .iconst 1, 1), (110, .ireturn, 1), (111, .iload_n 2, 1), (112, .ifCond .ne 5, 3), (115, .iconst 0, 1), (116, .ireturn, 1), (117, .aload_n 0, 1), (118, .iload_n 1, 1), (119, .bipush 11, 2), (121, .if_icmp .ne 9, 3), (124, .iload_n 3, 1), (125, .iload_n 2, 1), (126, .idiv, 1), (127, .goto 6, 3), (130, .iload_n 3, 1), (131, .iload_n 2, 1), (132, .irem, 1), (133, .invokevirtual 100, 3), (136, .iconst 1, 1), (137, .ireturn, 1)]
theorem D_X10_combine : dOk cX10_combine L_X10_combine = true := by decide +kernel
theorem w_X10_combine_0 {X : Cx} {d : Nat} {S : Mem} {Q : Res → Mem → Prop} (r0 : Nat) (x1 : Int32) (h : (isK S r0 10) ∧ ∃ e1 : Nat, e1 + 1 ≤ d ∧ C X e1 MX10_pop [vR r0] S (RI fun y4 S5 => (isK S5 r0 10) ∧ ∃ e7 : Nat, e7 + 1 ≤ d ∧ C X e7 MX10_pop [vR r0] S5 (RI fun y10 S11 => ((x1 = 8 → (isK S11 r0 10) ∧ ∃ e23 : Nat, e23 + 1 ≤ d ∧ C X e23 MX10_push [vR r0, vI (y10 + y4)] S11 (RV fun  S26 => Q (.inl (some (vI 1))) S26)) ∧ (x1 = 9 → (isK S11 r0 10) ∧ ∃ e28 : Nat, e28 + 1 ≤ d ∧ C X e28 MX10_push [vR r0, vI (y10 - y4)] S11 (RV fun  S31 => Q (.inl (some (vI 1))) S31)) ∧ (x1 = 10 → (isK S11 r0 10) ∧ ∃ e33 : Nat, e33 + 1 ≤ d ∧ C X e33 MX10_push [vR r0, vI (y10 * y4)] S11 (RV fun  S36 => Q (.inl (some (vI 1))) S36)) ∧ (x1 = 13 → ((y4 ≤ y10 → V X d MX10_combine 90 [(0, vR r0), (1, vI x1), (2, vI y4), (3, vI y10)] [vI 0, vR r0] S11 Q) ∧ (¬ y4 ≤ y10 → V X d MX10_combine 90 [(0, vR r0), (1, vI x1), (2, vI y4), (3, vI y10)] [vI 1, vR r0] S11 Q))) ∧ (x1 = 14 → ((¬ y10 = y4 → V X d MX10_combine 106 [(0, vR r0), (1, vI x1), (2, vI y4), (3, vI y10)] [vI 0, vR r0] S11 Q) ∧ (y10 = y4 → V X d MX10_combine 106 [(0, vR r0), (1, vI x1), (2, vI y4), (3, vI y10)] [vI 1, vR r0] S11 Q))) ∧ (¬ (x1 = 8 ∨ x1 = 9 ∨ x1 = 10 ∨ x1 = 13 ∨ x1 = 14) → ((¬ y4 = 0 → ((¬ x1 = 11 → (¬ (y4 : Int32) = 0) ∧ V X d MX10_combine 133 [(0, vR r0), (1, vI x1), (2, vI y4), (3, vI y10)] [vI (y10 - y10 / y4 * y4), vR r0] S11 Q) ∧ (x1 = 11 → (¬ (y4 : Int32) = 0) ∧ V X d MX10_combine 133 [(0, vR r0), (1, vI x1), (2, vI y4), (3, vI y10)] [vI (y10 / y4), vR r0] S11 Q))) ∧ (y4 = 0 → Q (.inl (some (vI 0))) S11))))))) : V X d MX10_combine 0 [(0, vR r0), (1, vI x1)] [] S Q := by
  refine V_aload_n (pc2 := 1) (dk D_X10_combine 0 rfl) rfl (V_lg 0 rfl) rfl ?_
  obtain ⟨h6, h⟩ := h
  obtain ⟨e1, he2, hc3⟩ := h
  refine V_callV (as := []) (st := []) (M' := MX10_pop) (ci := 10) (pc2 := 4) (dk D_X10_combine 1 rfl) ml_10_107 mv_X10_pop rfl rfl (by decide) rfl (Nat.le_of_ble_eq_true rfl) rfl he2 h6 hc3 (RI.k fun y4 S5 h => ?_)
  refine V_istore_n (pc2 := 5) (lv2 := [(0, _), (1, _), (2, _)]) (dk D_X10_combine 2 rfl) rfl (by decide) rfl rfl ?_
  refine V_aload_n (pc2 := 6) (dk D_X10_combine 3 rfl) rfl (V_lg 0 rfl) rfl ?_
  obtain ⟨h12, h⟩ := h
  obtain ⟨e7, he8, hc9⟩ := h
  refine V_callV (as := []) (st := []) (M' := MX10_pop) (ci := 10) (pc2 := 9) (dk D_X10_combine 4 rfl) ml_10_107 mv_X10_pop rfl rfl (by decide) rfl (Nat.le_of_ble_eq_true rfl) rfl he8 h12 hc9 (RI.k fun y10 S11 h => ?_)
  refine V_istore_n (pc2 := 10) (lv2 := [(0, _), (1, _), (2, _), (3, _)]) (dk D_X10_combine 5 rfl) rfl (by decide) rfl rfl ?_
  refine V_iload_n (pc2 := 11) (dk D_X10_combine 6 rfl) rfl (V_lg 1 rfl) rfl ?_
  refine V_table (dk D_X10_combine 7 rfl) [52, 61, 70, 111, 111, 79, 95] 111 (by decide) rfl (by decide) (fun q13 => ?_) (fun j14 hj q13 => ?_)
  · have h := h.2.2.2.2.2 (by rintro (hk | hk | hk | hk | hk) <;> (rw [hk] at q13; revert q13; decide))
    refine V_iload_n (pc2 := 112) (dk D_X10_combine 49 rfl) rfl (V_lg 2 rfl) rfl ?_
    refine V_ifne (tgt := 117) (pc2 := 115) (dk D_X10_combine 50 rfl) (by decide) rfl (fun q19 => ?_) (fun q19 => ?_)
    · have h := h.1 q19
      refine V_aload_n (pc2 := 118) (dk D_X10_combine 53 rfl) rfl (V_lg 0 rfl) rfl ?_
      refine V_iload_n (pc2 := 119) (dk D_X10_combine 54 rfl) rfl (V_lg 1 rfl) rfl ?_
      refine V_bipush (x := 11) (pc2 := 121) (dk D_X10_combine 55 rfl) (by decide) rfl ?_
      refine V_cmpne (tgt := 130) (pc2 := 124) (dk D_X10_combine 56 rfl) (by decide) rfl (fun q20 => ?_) (fun q20 => ?_)
      · have h := h.1 q20
        refine V_iload_n (pc2 := 131) (dk D_X10_combine 61 rfl) rfl (V_lg 3 rfl) rfl ?_
        refine V_iload_n (pc2 := 132) (dk D_X10_combine 62 rfl) rfl (V_lg 2 rfl) rfl ?_
        obtain ⟨h21, h⟩ := h
        refine V_irem (pc2 := 133) (dk D_X10_combine 63 rfl) rfl h21 ?_
        exact h
      · have h := h.2 q20
        refine V_iload_n (pc2 := 125) (dk D_X10_combine 57 rfl) rfl (V_lg 3 rfl) rfl ?_
        refine V_iload_n (pc2 := 126) (dk D_X10_combine 58 rfl) rfl (V_lg 2 rfl) rfl ?_
        obtain ⟨h22, h⟩ := h
        refine V_idiv (pc2 := 127) (dk D_X10_combine 59 rfl) rfl h22 ?_
        refine V_goto (tgt := 133) (dk D_X10_combine 60 rfl) (by decide) ?_
        exact h
    · have h := h.2 q19
      refine V_iconst (x := 0) (pc2 := 116) (dk D_X10_combine 51 rfl) (by decide) rfl ?_
      exact V_zreturn (dk D_X10_combine 52 rfl) rfl (Or.inl rfl) h
  · have hj2 : j14 = 0 ∨ j14 = 1 ∨ j14 = 2 ∨ j14 = 3 ∨ j14 = 4 ∨ j14 = 5 ∨ j14 = 6 := by simp at hj; omega
    clear hj
    rcases hj2 with rfl | rfl | rfl | rfl | rfl | rfl | rfl
    · have hx : x1 = 8 := Int32.toInt_inj.mp (by rw [q13]; decide)
      have h := h.1 hx
      refine V_aload_n (pc2 := 53) (dk D_X10_combine 8 rfl) rfl (V_lg 0 rfl) rfl ?_
      refine V_iload_n (pc2 := 54) (dk D_X10_combine 9 rfl) rfl (V_lg 3 rfl) rfl ?_
      refine V_iload_n (pc2 := 55) (dk D_X10_combine 10 rfl) rfl (V_lg 2 rfl) rfl ?_
      refine V_iadd (pc2 := 56) (dk D_X10_combine 11 rfl) rfl ?_
      obtain ⟨h27, h⟩ := h
      obtain ⟨e23, he24, hc25⟩ := h
      refine V_callV (as := [_]) (st := []) (M' := MX10_push) (ci := 10) (pc2 := 59) (dk D_X10_combine 12 rfl) ml_10_100 mv_X10_push rfl rfl (by decide) rfl (Nat.le_of_ble_eq_true rfl) rfl he24 h27 hc25 (RV.k fun  S26 h => ?_)
      refine V_iconst (x := 1) (pc2 := 60) (dk D_X10_combine 13 rfl) (by decide) rfl ?_
      exact V_zreturn (dk D_X10_combine 14 rfl) rfl (Or.inr rfl) h
    · have hx : x1 = 9 := Int32.toInt_inj.mp (by rw [q13]; decide)
      have h := h.2.1 hx
      refine V_aload_n (pc2 := 62) (dk D_X10_combine 15 rfl) rfl (V_lg 0 rfl) rfl ?_
      refine V_iload_n (pc2 := 63) (dk D_X10_combine 16 rfl) rfl (V_lg 3 rfl) rfl ?_
      refine V_iload_n (pc2 := 64) (dk D_X10_combine 17 rfl) rfl (V_lg 2 rfl) rfl ?_
      refine V_isub (pc2 := 65) (dk D_X10_combine 18 rfl) rfl ?_
      obtain ⟨h32, h⟩ := h
      obtain ⟨e28, he29, hc30⟩ := h
      refine V_callV (as := [_]) (st := []) (M' := MX10_push) (ci := 10) (pc2 := 68) (dk D_X10_combine 19 rfl) ml_10_100 mv_X10_push rfl rfl (by decide) rfl (Nat.le_of_ble_eq_true rfl) rfl he29 h32 hc30 (RV.k fun  S31 h => ?_)
      refine V_iconst (x := 1) (pc2 := 69) (dk D_X10_combine 20 rfl) (by decide) rfl ?_
      exact V_zreturn (dk D_X10_combine 21 rfl) rfl (Or.inr rfl) h
    · have hx : x1 = 10 := Int32.toInt_inj.mp (by rw [q13]; decide)
      have h := h.2.2.1 hx
      refine V_aload_n (pc2 := 71) (dk D_X10_combine 22 rfl) rfl (V_lg 0 rfl) rfl ?_
      refine V_iload_n (pc2 := 72) (dk D_X10_combine 23 rfl) rfl (V_lg 3 rfl) rfl ?_
      refine V_iload_n (pc2 := 73) (dk D_X10_combine 24 rfl) rfl (V_lg 2 rfl) rfl ?_
      refine V_imul (pc2 := 74) (dk D_X10_combine 25 rfl) rfl ?_
      obtain ⟨h37, h⟩ := h
      obtain ⟨e33, he34, hc35⟩ := h
      refine V_callV (as := [_]) (st := []) (M' := MX10_push) (ci := 10) (pc2 := 77) (dk D_X10_combine 26 rfl) ml_10_100 mv_X10_push rfl rfl (by decide) rfl (Nat.le_of_ble_eq_true rfl) rfl he34 h37 hc35 (RV.k fun  S36 h => ?_)
      refine V_iconst (x := 1) (pc2 := 78) (dk D_X10_combine 27 rfl) (by decide) rfl ?_
      exact V_zreturn (dk D_X10_combine 28 rfl) rfl (Or.inr rfl) h
    · have h := h.2.2.2.2.2 (by rintro (hk | hk | hk | hk | hk) <;> (rw [hk] at q13; revert q13; decide))
      refine V_iload_n (pc2 := 112) (dk D_X10_combine 49 rfl) rfl (V_lg 2 rfl) rfl ?_
      refine V_ifne (tgt := 117) (pc2 := 115) (dk D_X10_combine 50 rfl) (by decide) rfl (fun q15 => ?_) (fun q15 => ?_)
      · have h := h.1 q15
        refine V_aload_n (pc2 := 118) (dk D_X10_combine 53 rfl) rfl (V_lg 0 rfl) rfl ?_
        refine V_iload_n (pc2 := 119) (dk D_X10_combine 54 rfl) rfl (V_lg 1 rfl) rfl ?_
        refine V_bipush (x := 11) (pc2 := 121) (dk D_X10_combine 55 rfl) (by decide) rfl ?_
        refine V_cmpne (tgt := 130) (pc2 := 124) (dk D_X10_combine 56 rfl) (by decide) rfl (fun q16 => ?_) (fun q16 => ?_)
        · have h := h.1 q16
          refine V_iload_n (pc2 := 131) (dk D_X10_combine 61 rfl) rfl (V_lg 3 rfl) rfl ?_
          refine V_iload_n (pc2 := 132) (dk D_X10_combine 62 rfl) rfl (V_lg 2 rfl) rfl ?_
          obtain ⟨h17, h⟩ := h
          refine V_irem (pc2 := 133) (dk D_X10_combine 63 rfl) rfl h17 ?_
          exact h
        · have h := h.2 q16
          refine V_iload_n (pc2 := 125) (dk D_X10_combine 57 rfl) rfl (V_lg 3 rfl) rfl ?_
          refine V_iload_n (pc2 := 126) (dk D_X10_combine 58 rfl) rfl (V_lg 2 rfl) rfl ?_
          obtain ⟨h18, h⟩ := h
          refine V_idiv (pc2 := 127) (dk D_X10_combine 59 rfl) rfl h18 ?_
          refine V_goto (tgt := 133) (dk D_X10_combine 60 rfl) (by decide) ?_
          exact h
      · have h := h.2 q15
        refine V_iconst (x := 0) (pc2 := 116) (dk D_X10_combine 51 rfl) (by decide) rfl ?_
        exact V_zreturn (dk D_X10_combine 52 rfl) rfl (Or.inl rfl) h
    · have h := h.2.2.2.2.2 (by rintro (hk | hk | hk | hk | hk) <;> (rw [hk] at q13; revert q13; decide))
      refine V_iload_n (pc2 := 112) (dk D_X10_combine 49 rfl) rfl (V_lg 2 rfl) rfl ?_
      refine V_ifne (tgt := 117) (pc2 := 115) (dk D_X10_combine 50 rfl) (by decide) rfl (fun q15 => ?_) (fun q15 => ?_)
      · have h := h.1 q15
        refine V_aload_n (pc2 := 118) (dk D_X10_combine 53 rfl) rfl (V_lg 0 rfl) rfl ?_
        refine V_iload_n (pc2 := 119) (dk D_X10_combine 54 rfl) rfl (V_lg 1 rfl) rfl ?_
        refine V_bipush (x := 11) (pc2 := 121) (dk D_X10_combine 55 rfl) (by decide) rfl ?_
        refine V_cmpne (tgt := 130) (pc2 := 124) (dk D_X10_combine 56 rfl) (by decide) rfl (fun q16 => ?_) (fun q16 => ?_)
        · have h := h.1 q16
          refine V_iload_n (pc2 := 131) (dk D_X10_combine 61 rfl) rfl (V_lg 3 rfl) rfl ?_
          refine V_iload_n (pc2 := 132) (dk D_X10_combine 62 rfl) rfl (V_lg 2 rfl) rfl ?_
          obtain ⟨h17, h⟩ := h
          refine V_irem (pc2 := 133) (dk D_X10_combine 63 rfl) rfl h17 ?_
          exact h
        · have h := h.2 q16
          refine V_iload_n (pc2 := 125) (dk D_X10_combine 57 rfl) rfl (V_lg 3 rfl) rfl ?_
          refine V_iload_n (pc2 := 126) (dk D_X10_combine 58 rfl) rfl (V_lg 2 rfl) rfl ?_
          obtain ⟨h18, h⟩ := h
          refine V_idiv (pc2 := 127) (dk D_X10_combine 59 rfl) rfl h18 ?_
          refine V_goto (tgt := 133) (dk D_X10_combine 60 rfl) (by decide) ?_
          exact h
      · have h := h.2 q15
        refine V_iconst (x := 0) (pc2 := 116) (dk D_X10_combine 51 rfl) (by decide) rfl ?_
        exact V_zreturn (dk D_X10_combine 52 rfl) rfl (Or.inl rfl) h
    · have hx : x1 = 13 := Int32.toInt_inj.mp (by rw [q13]; decide)
      have h := h.2.2.2.1 hx
      refine V_aload_n (pc2 := 80) (dk D_X10_combine 29 rfl) rfl (V_lg 0 rfl) rfl ?_
      refine V_iload_n (pc2 := 81) (dk D_X10_combine 30 rfl) rfl (V_lg 3 rfl) rfl ?_
      refine V_iload_n (pc2 := 82) (dk D_X10_combine 31 rfl) rfl (V_lg 2 rfl) rfl ?_
      refine V_cmpge (tgt := 89) (pc2 := 85) (dk D_X10_combine 32 rfl) (by decide) rfl (fun q38 => ?_) (fun q38 => ?_)
      · have h := h.1 q38
        refine V_iconst (x := 0) (pc2 := 90) (dk D_X10_combine 35 rfl) (by decide) rfl ?_
        exact h
      · have h := h.2 q38
        refine V_iconst (x := 1) (pc2 := 86) (dk D_X10_combine 33 rfl) (by decide) rfl ?_
        refine V_goto (tgt := 90) (dk D_X10_combine 34 rfl) (by decide) ?_
        exact h
    · have hx : x1 = 14 := Int32.toInt_inj.mp (by rw [q13]; decide)
      have h := h.2.2.2.2.1 hx
      refine V_aload_n (pc2 := 96) (dk D_X10_combine 39 rfl) rfl (V_lg 0 rfl) rfl ?_
      refine V_iload_n (pc2 := 97) (dk D_X10_combine 40 rfl) rfl (V_lg 3 rfl) rfl ?_
      refine V_iload_n (pc2 := 98) (dk D_X10_combine 41 rfl) rfl (V_lg 2 rfl) rfl ?_
      refine V_cmpne (tgt := 105) (pc2 := 101) (dk D_X10_combine 42 rfl) (by decide) rfl (fun q39 => ?_) (fun q39 => ?_)
      · have h := h.1 q39
        refine V_iconst (x := 0) (pc2 := 106) (dk D_X10_combine 45 rfl) (by decide) rfl ?_
        exact h
      · have h := h.2 q39
        refine V_iconst (x := 1) (pc2 := 102) (dk D_X10_combine 43 rfl) (by decide) rfl ?_
        refine V_goto (tgt := 106) (dk D_X10_combine 44 rfl) (by decide) ?_
        exact h
theorem w_X10_combine_90 {X : Cx} {d : Nat} {S : Mem} {Q : Res → Mem → Prop} (r0 : Nat) (x1 : Int32) (x2 : Int32) (x3 : Int32) (t0 : Nat) (t1 : Int32) (h : (isK S t0 10) ∧ ∃ e1 : Nat, e1 + 1 ≤ d ∧ C X e1 MX10_push [vR t0, vI t1] S (RV fun  S4 => Q (.inl (some (vI 1))) S4)) : V X d MX10_combine 90 [(0, vR r0), (1, vI x1), (2, vI x2), (3, vI x3)] [vI t1, vR t0] S Q := by
  obtain ⟨h5, h⟩ := h
  obtain ⟨e1, he2, hc3⟩ := h
  refine V_callV (as := [_]) (st := []) (M' := MX10_push) (ci := 10) (pc2 := 93) (dk D_X10_combine 36 rfl) ml_10_100 mv_X10_push rfl rfl (by decide) rfl (Nat.le_of_ble_eq_true rfl) rfl he2 h5 hc3 (RV.k fun  S4 h => ?_)
  refine V_iconst (x := 1) (pc2 := 94) (dk D_X10_combine 37 rfl) (by decide) rfl ?_
  exact V_zreturn (dk D_X10_combine 38 rfl) rfl (Or.inr rfl) h
theorem w_X10_combine_106 {X : Cx} {d : Nat} {S : Mem} {Q : Res → Mem → Prop} (r0 : Nat) (x1 : Int32) (x2 : Int32) (x3 : Int32) (t0 : Nat) (t1 : Int32) (h : (isK S t0 10) ∧ ∃ e1 : Nat, e1 + 1 ≤ d ∧ C X e1 MX10_push [vR t0, vI t1] S (RV fun  S4 => Q (.inl (some (vI 1))) S4)) : V X d MX10_combine 106 [(0, vR r0), (1, vI x1), (2, vI x2), (3, vI x3)] [vI t1, vR t0] S Q := by
  obtain ⟨h5, h⟩ := h
  obtain ⟨e1, he2, hc3⟩ := h
  refine V_callV (as := [_]) (st := []) (M' := MX10_push) (ci := 10) (pc2 := 109) (dk D_X10_combine 46 rfl) ml_10_100 mv_X10_push rfl rfl (by decide) rfl (Nat.le_of_ble_eq_true rfl) rfl he2 h5 hc3 (RV.k fun  S4 h => ?_)
  refine V_iconst (x := 1) (pc2 := 110) (dk D_X10_combine 47 rfl) (by decide) rfl ?_
  exact V_zreturn (dk D_X10_combine 48 rfl) rfl (Or.inr rfl) h
theorem w_X10_combine_133 {X : Cx} {d : Nat} {S : Mem} {Q : Res → Mem → Prop} (r0 : Nat) (x1 : Int32) (x2 : Int32) (x3 : Int32) (t0 : Nat) (t1 : Int32) (h : (isK S t0 10) ∧ ∃ e1 : Nat, e1 + 1 ≤ d ∧ C X e1 MX10_push [vR t0, vI t1] S (RV fun  S4 => Q (.inl (some (vI 1))) S4)) : V X d MX10_combine 133 [(0, vR r0), (1, vI x1), (2, vI x2), (3, vI x3)] [vI t1, vR t0] S Q := by
  obtain ⟨h5, h⟩ := h
  obtain ⟨e1, he2, hc3⟩ := h
  refine V_callV (as := [_]) (st := []) (M' := MX10_push) (ci := 10) (pc2 := 136) (dk D_X10_combine 64 rfl) ml_10_100 mv_X10_push rfl rfl (by decide) rfl (Nat.le_of_ble_eq_true rfl) rfl he2 h5 hc3 (RV.k fun  S4 h => ?_)
  refine V_iconst (x := 1) (pc2 := 137) (dk D_X10_combine 65 rfl) (by decide) rfl ?_
  exact V_zreturn (dk D_X10_combine 66 rfl) rfl (Or.inr rfl) h
def L_X10_fact : List (Nat × Instr × Nat) := [(0, .iload_n 1, 1), (1, .tableswitch 69 0 5 #[39, 44, 49, 54, 59, 64], 39), (40, .aload_n 0, 1), (41, .getfield 31, 3), (44, .ireturn, 1), (45, .aload_n 0, 1), (46, .getfield 22, 3), (49, .ireturn, 1), (50, .aload_n 0, 1), (51, .getfield 37, 3), (54, .ireturn, 1), (55, .aload_n 0, 1), (56, .getfield 40, 3), (59, .ireturn, 1), (60, .aload_n 0, 1), (61, .getfield 43, 3), (64, .ireturn, 1), (65, .aload_n 0, 1), (66, .getfield 34, 3), (69, .ireturn, 1), (70, .aload_n 0, 1), (71, .getfield 28, 3), (74, .ireturn, 1)]
theorem D_X10_fact : dOk cX10_fact L_X10_fact = true := by decide +kernel
theorem w_X10_fact_0 {X : Cx} {d : Nat} {S : Mem} {Q : Res → Mem → Prop} (r0 : Nat) (x1 : Int32) (h : ((x1 = 0 → (isK S r0 10) ∧ Q (.inl (some (vI (gI S r0 1)))) S) ∧ (x1 = 1 → (isK S r0 10) ∧ Q (.inl (some (vI (gI S r0 2)))) S) ∧ (x1 = 2 → (isK S r0 10) ∧ Q (.inl (some (vI (gI S r0 6)))) S) ∧ (x1 = 3 → (isK S r0 10) ∧ Q (.inl (some (vI (gI S r0 7)))) S) ∧ (x1 = 4 → (isK S r0 10) ∧ Q (.inl (some (vI (gI S r0 8)))) S) ∧ (x1 = 5 → (isK S r0 10) ∧ Q (.inl (some (vI (gI S r0 5)))) S) ∧ (¬ (x1 = 0 ∨ x1 = 1 ∨ x1 = 2 ∨ x1 = 3 ∨ x1 = 4 ∨ x1 = 5) → (isK S r0 10) ∧ Q (.inl (some (vI (gI S r0 4)))) S))) : V X d MX10_fact 0 [(0, vR r0), (1, vI x1)] [] S Q := by
  refine V_iload_n (pc2 := 1) (dk D_X10_fact 0 rfl) rfl (V_lg 1 rfl) rfl ?_
  refine V_table (dk D_X10_fact 1 rfl) [40, 45, 50, 55, 60, 65] 70 (by decide) rfl (by decide) (fun q1 => ?_) (fun j2 hj q1 => ?_)
  · have h := h.2.2.2.2.2.2 (by rintro (hk | hk | hk | hk | hk | hk) <;> (rw [hk] at q1; revert q1; decide))
    refine V_aload_n (pc2 := 71) (dk D_X10_fact 20 rfl) rfl (V_lg 0 rfl) rfl ?_
    obtain ⟨h4, h⟩ := h
    refine V_getI kc10 (pc2 := 74) 4 (dk D_X10_fact 21 rfl) fl_10_28 (by decide) (fun _ => rfl) rfl h4 ?_
    exact V_ireturn (dk D_X10_fact 22 rfl) rfl h
  · have hj2 : j2 = 0 ∨ j2 = 1 ∨ j2 = 2 ∨ j2 = 3 ∨ j2 = 4 ∨ j2 = 5 := by simp at hj; omega
    clear hj
    rcases hj2 with rfl | rfl | rfl | rfl | rfl | rfl
    · have hx : x1 = 0 := Int32.toInt_inj.mp (by rw [q1]; decide)
      have h := h.1 hx
      refine V_aload_n (pc2 := 41) (dk D_X10_fact 2 rfl) rfl (V_lg 0 rfl) rfl ?_
      obtain ⟨h5, h⟩ := h
      refine V_getI kc10 (pc2 := 44) 1 (dk D_X10_fact 3 rfl) fl_10_31 (by decide) (fun _ => rfl) rfl h5 ?_
      exact V_ireturn (dk D_X10_fact 4 rfl) rfl h
    · have hx : x1 = 1 := Int32.toInt_inj.mp (by rw [q1]; decide)
      have h := h.2.1 hx
      refine V_aload_n (pc2 := 46) (dk D_X10_fact 5 rfl) rfl (V_lg 0 rfl) rfl ?_
      obtain ⟨h6, h⟩ := h
      refine V_getI kc10 (pc2 := 49) 2 (dk D_X10_fact 6 rfl) fl_10_22 (by decide) (fun _ => rfl) rfl h6 ?_
      exact V_ireturn (dk D_X10_fact 7 rfl) rfl h
    · have hx : x1 = 2 := Int32.toInt_inj.mp (by rw [q1]; decide)
      have h := h.2.2.1 hx
      refine V_aload_n (pc2 := 51) (dk D_X10_fact 8 rfl) rfl (V_lg 0 rfl) rfl ?_
      obtain ⟨h7, h⟩ := h
      refine V_getI kc10 (pc2 := 54) 6 (dk D_X10_fact 9 rfl) fl_10_37 (by decide) (fun _ => rfl) rfl h7 ?_
      exact V_ireturn (dk D_X10_fact 10 rfl) rfl h
    · have hx : x1 = 3 := Int32.toInt_inj.mp (by rw [q1]; decide)
      have h := h.2.2.2.1 hx
      refine V_aload_n (pc2 := 56) (dk D_X10_fact 11 rfl) rfl (V_lg 0 rfl) rfl ?_
      obtain ⟨h8, h⟩ := h
      refine V_getI kc10 (pc2 := 59) 7 (dk D_X10_fact 12 rfl) fl_10_40 (by decide) (fun _ => rfl) rfl h8 ?_
      exact V_ireturn (dk D_X10_fact 13 rfl) rfl h
    · have hx : x1 = 4 := Int32.toInt_inj.mp (by rw [q1]; decide)
      have h := h.2.2.2.2.1 hx
      refine V_aload_n (pc2 := 61) (dk D_X10_fact 14 rfl) rfl (V_lg 0 rfl) rfl ?_
      obtain ⟨h9, h⟩ := h
      refine V_getI kc10 (pc2 := 64) 8 (dk D_X10_fact 15 rfl) fl_10_43 (by decide) (fun _ => rfl) rfl h9 ?_
      exact V_ireturn (dk D_X10_fact 16 rfl) rfl h
    · have hx : x1 = 5 := Int32.toInt_inj.mp (by rw [q1]; decide)
      have h := h.2.2.2.2.2.1 hx
      refine V_aload_n (pc2 := 66) (dk D_X10_fact 17 rfl) rfl (V_lg 0 rfl) rfl ?_
      obtain ⟨h10, h⟩ := h
      refine V_getI kc10 (pc2 := 69) 5 (dk D_X10_fact 18 rfl) fl_10_34 (by decide) (fun _ => rfl) rfl h10 ?_
      exact V_ireturn (dk D_X10_fact 19 rfl) rfl h
def L_X10_mixInto : List (Nat × Instr × Nat) := [(0, .lload_n 1, 1), (1, .lstore_n 3, 1), (2, .iconst 0, 1), (3, .istore 5, 2), (5, .iload 5, 2), (7, .bipush 6, 2), (9, .if_icmp .gt 23, 3), (12, .ldc2_w 117, 3), (15, .lload_n 3, 1), (16, .lmul, 1), (17, .aload_n 0, 1), (18, .iload 5, 2), (20, .invokevirtual 119, 3), (23, .i2l, 1), (24, .ladd, 1), (25, .lstore_n 3, 1), (26, .iinc 5 1, 3), (29, .goto (-24), 3), (32, .aload_n 0, 1), (33, .getfield 64, 3), (36, .istore 5, 2), (38, .iconst 0, 1), (39, .istore 6, 2), (41, .iload 6, 2), (43, .aload_n 0, 1), (44, .getfield 43, 3), (47, .if_icmp .ge 55, 3), (50, .iconst 0, 1), (51, .istore 7, 2), (53, .iload 7, 2), (55, .aload_n 0, 1), (56, .iload 5, 2), (58, .invokevirtual 79, 3), (61, .if_icmp .ge 25, 3), (64, .ldc2_w 117, 3), (67, .lload_n 3, 1), (68, .lmul, 1), (69, .aload_n 0, 1), (70, .iload 5, 2), (72, .iload 7, 2), (74, .invokevirtual 104, 3), (77, .i2l, 1), (78, .ladd, 1), (79, .lstore_n 3, 1), (80, .iinc 7 1, 3), (83, .goto (-30), 3), (86, .aload_n 0, 1), (87, .iload 5, 2), (89, .iconst 2, 1), (90, .iadd, 1), (91, .invokevirtual 79, 3), (94, .istore 5, 2), (96, .iinc 6 1, 3), (99, .goto (-58), 3), (102, .lload_n 3, 1), (103, .lreturn, 1)]
theorem D_X10_mixInto : dOk cX10_mixInto L_X10_mixInto = true := by decide +kernel
theorem w_X10_mixInto_0 {X : Cx} {d : Nat} {S : Mem} {Q : Res → Mem → Prop} (r0 : Nat) (l1 : Int64) (h : V X d MX10_mixInto 5 [(0, vR r0), (1, vL l1), (3, vL l1), (5, vI 0)] [] S Q) : V X d MX10_mixInto 0 [(0, vR r0), (1, vL l1)] [] S Q := by
  refine V_lload_n (pc2 := 1) (dk D_X10_mixInto 0 rfl) rfl (V_lg 1 rfl) rfl ?_
  refine V_lstore_n (pc2 := 2) (lv2 := [(0, _), (1, _), (3, _)]) (dk D_X10_mixInto 1 rfl) rfl (by decide) rfl rfl ?_
  refine V_iconst (x := 0) (pc2 := 3) (dk D_X10_mixInto 2 rfl) (by decide) rfl ?_
  refine V_istore (pc2 := 5) (lv2 := [(0, _), (1, _), (3, _), (5, _)]) (dk D_X10_mixInto 3 rfl) (by decide) rfl rfl ?_
  exact h
theorem w_X10_mixInto_5 {X : Cx} {d : Nat} {S : Mem} {Q : Res → Mem → Prop} (r0 : Nat) (l1 : Int64) (l3 : Int64) (x5 : Int32) (h : ((6 < x5 → (isK S r0 10) ∧ V X d MX10_mixInto 41 [(0, vR r0), (1, vL l1), (3, vL l3), (5, vI (gI S r0 14)), (6, vI 0)] [] S Q) ∧ (¬ 6 < x5 → (isK S r0 10) ∧ ∃ e3 : Nat, e3 + 1 ≤ d ∧ C X e3 MX10_fact [vR r0, vI x5] S (RI fun y6 S7 => V X d MX10_mixInto 5 [(0, vR r0), (1, vL l1), (3, vL ((31 * l3) + ((y6 : Int32).toInt64))), (5, vI (x5 + 1))] [] S7 Q)))) : V X d MX10_mixInto 5 [(0, vR r0), (1, vL l1), (3, vL l3), (5, vI x5)] [] S Q := by
  refine V_iload (pc2 := 7) (dk D_X10_mixInto 4 rfl) (V_lg 3 rfl) rfl ?_
  refine V_bipush (x := 6) (pc2 := 9) (dk D_X10_mixInto 5 rfl) (by decide) rfl ?_
  refine V_cmpgt (tgt := 32) (pc2 := 12) (dk D_X10_mixInto 6 rfl) (by decide) rfl (fun q1 => ?_) (fun q1 => ?_)
  · have h := h.1 q1
    refine V_aload_n (pc2 := 33) (dk D_X10_mixInto 18 rfl) rfl (V_lg 0 rfl) rfl ?_
    obtain ⟨h2, h⟩ := h
    refine V_getI kc10 (pc2 := 36) 14 (dk D_X10_mixInto 19 rfl) fl_10_64 (by decide) (fun _ => rfl) rfl h2 ?_
    refine V_istore (pc2 := 38) (lv2 := [(0, _), (1, _), (3, _), (5, _)]) (dk D_X10_mixInto 20 rfl) (by decide) rfl rfl ?_
    refine V_iconst (x := 0) (pc2 := 39) (dk D_X10_mixInto 21 rfl) (by decide) rfl ?_
    refine V_istore (pc2 := 41) (lv2 := [(0, _), (1, _), (3, _), (5, _), (6, _)]) (dk D_X10_mixInto 22 rfl) (by decide) rfl rfl ?_
    exact h
  · have h := h.2 q1
    refine V_ldc2 (x := 31) (pc2 := 15) (dk D_X10_mixInto 7 rfl) kl_10_117 rfl ?_
    refine V_lload_n (pc2 := 16) (dk D_X10_mixInto 8 rfl) rfl (V_lg 2 rfl) rfl ?_
    refine V_lmul (pc2 := 17) (dk D_X10_mixInto 9 rfl) rfl ?_
    refine V_aload_n (pc2 := 18) (dk D_X10_mixInto 10 rfl) rfl (V_lg 0 rfl) rfl ?_
    refine V_iload (pc2 := 20) (dk D_X10_mixInto 11 rfl) (V_lg 3 rfl) rfl ?_
    obtain ⟨h8, h⟩ := h
    obtain ⟨e3, he4, hc5⟩ := h
    refine V_callV (as := [_]) (st := [_]) (M' := MX10_fact) (ci := 10) (pc2 := 23) (dk D_X10_mixInto 12 rfl) ml_10_119 mv_X10_fact rfl rfl (by decide) rfl (Nat.le_of_ble_eq_true rfl) rfl he4 h8 hc5 (RI.k fun y6 S7 h => ?_)
    refine V_i2l (pc2 := 24) (dk D_X10_mixInto 13 rfl) rfl ?_
    refine V_ladd (pc2 := 25) (dk D_X10_mixInto 14 rfl) rfl ?_
    refine V_lstore_n (pc2 := 26) (lv2 := [(0, _), (1, _), (3, _), (5, _)]) (dk D_X10_mixInto 15 rfl) rfl (by decide) rfl rfl ?_
    refine V_iinc (y := _ + 1) (pc2 := 29) (lv2 := [(0, _), (1, _), (3, _), (5, _)]) (dk D_X10_mixInto 16 rfl) (V_lg 3 rfl) rfl (by decide) rfl rfl ?_
    refine V_goto (tgt := 5) (dk D_X10_mixInto 17 rfl) (by decide) ?_
    exact h
theorem w_X10_mixInto_41 {X : Cx} {d : Nat} {S : Mem} {Q : Res → Mem → Prop} (r0 : Nat) (l1 : Int64) (l3 : Int64) (x5 : Int32) (x6 : Int32) (h : (isK S r0 10) ∧ (((gI S r0 8) ≤ x6 → Q (.inl (some (vL l3))) S) ∧ (¬ (gI S r0 8) ≤ x6 → V X d MX10_mixInto 53 [(0, vR r0), (1, vL l1), (3, vL l3), (5, vI x5), (6, vI x6), (7, vI 0)] [] S Q))) : V X d MX10_mixInto 41 [(0, vR r0), (1, vL l1), (3, vL l3), (5, vI x5), (6, vI x6)] [] S Q := by
  refine V_iload (pc2 := 43) (dk D_X10_mixInto 23 rfl) (V_lg 4 rfl) rfl ?_
  refine V_aload_n (pc2 := 44) (dk D_X10_mixInto 24 rfl) rfl (V_lg 0 rfl) rfl ?_
  obtain ⟨h1, h⟩ := h
  refine V_getI kc10 (pc2 := 47) 8 (dk D_X10_mixInto 25 rfl) fl_10_43 (by decide) (fun _ => rfl) rfl h1 ?_
  refine V_cmpge (tgt := 102) (pc2 := 50) (dk D_X10_mixInto 26 rfl) (by decide) rfl (fun q2 => ?_) (fun q2 => ?_)
  · have h := h.1 q2
    refine V_lload_n (pc2 := 103) (dk D_X10_mixInto 54 rfl) rfl (V_lg 2 rfl) rfl ?_
    exact V_lreturn (dk D_X10_mixInto 55 rfl) rfl h
  · have h := h.2 q2
    refine V_iconst (x := 0) (pc2 := 51) (dk D_X10_mixInto 27 rfl) (by decide) rfl ?_
    refine V_istore (pc2 := 53) (lv2 := [(0, _), (1, _), (3, _), (5, _), (6, _), (7, _)]) (dk D_X10_mixInto 28 rfl) (by decide) rfl rfl ?_
    exact h
theorem w_X10_mixInto_53 {X : Cx} {d : Nat} {S : Mem} {Q : Res → Mem → Prop} (r0 : Nat) (l1 : Int64) (l3 : Int64) (x5 : Int32) (x6 : Int32) (x7 : Int32) (h : (isK S r0 10) ∧ ∃ e1 : Nat, e1 + 1 ≤ d ∧ C X e1 MX10_cell [vR r0, vI x5] S (RI fun y4 S5 => ((y4 ≤ x7 → (isK S5 r0 10) ∧ ∃ e8 : Nat, e8 + 1 ≤ d ∧ C X e8 MX10_cell [vR r0, vI (x5 + 2)] S5 (RI fun y11 S12 => V X d MX10_mixInto 41 [(0, vR r0), (1, vL l1), (3, vL l3), (5, vI y11), (6, vI (x6 + 1))] [] S12 Q)) ∧ (¬ y4 ≤ x7 → (isK S5 r0 10) ∧ ∃ e14 : Nat, e14 + 1 ≤ d ∧ C X e14 MX10_variable [vR r0, vI x5, vI x7] S5 (RI fun y17 S18 => V X d MX10_mixInto 53 [(0, vR r0), (1, vL l1), (3, vL ((31 * l3) + ((y17 : Int32).toInt64))), (5, vI x5), (6, vI x6), (7, vI (x7 + 1))] [] S18 Q))))) : V X d MX10_mixInto 53 [(0, vR r0), (1, vL l1), (3, vL l3), (5, vI x5), (6, vI x6), (7, vI x7)] [] S Q := by
  refine V_iload (pc2 := 55) (dk D_X10_mixInto 29 rfl) (V_lg 5 rfl) rfl ?_
  refine V_aload_n (pc2 := 56) (dk D_X10_mixInto 30 rfl) rfl (V_lg 0 rfl) rfl ?_
  refine V_iload (pc2 := 58) (dk D_X10_mixInto 31 rfl) (V_lg 3 rfl) rfl ?_
  obtain ⟨h6, h⟩ := h
  obtain ⟨e1, he2, hc3⟩ := h
  refine V_callV (as := [_]) (st := [_]) (M' := MX10_cell) (ci := 10) (pc2 := 61) (dk D_X10_mixInto 32 rfl) ml_10_79 mv_X10_cell rfl rfl (by decide) rfl (Nat.le_of_ble_eq_true rfl) rfl he2 h6 hc3 (RI.k fun y4 S5 h => ?_)
  refine V_cmpge (tgt := 86) (pc2 := 64) (dk D_X10_mixInto 33 rfl) (by decide) rfl (fun q7 => ?_) (fun q7 => ?_)
  · have h := h.1 q7
    refine V_aload_n (pc2 := 87) (dk D_X10_mixInto 46 rfl) rfl (V_lg 0 rfl) rfl ?_
    refine V_iload (pc2 := 89) (dk D_X10_mixInto 47 rfl) (V_lg 3 rfl) rfl ?_
    refine V_iconst (x := 2) (pc2 := 90) (dk D_X10_mixInto 48 rfl) (by decide) rfl ?_
    refine V_iadd (pc2 := 91) (dk D_X10_mixInto 49 rfl) rfl ?_
    obtain ⟨h13, h⟩ := h
    obtain ⟨e8, he9, hc10⟩ := h
    refine V_callV (as := [_]) (st := []) (M' := MX10_cell) (ci := 10) (pc2 := 94) (dk D_X10_mixInto 50 rfl) ml_10_79 mv_X10_cell rfl rfl (by decide) rfl (Nat.le_of_ble_eq_true rfl) rfl he9 h13 hc10 (RI.k fun y11 S12 h => ?_)
    refine V_istore (pc2 := 96) (lv2 := [(0, _), (1, _), (3, _), (5, _), (6, _), (7, _)]) (dk D_X10_mixInto 51 rfl) (by decide) rfl rfl ?_
    refine V_iinc (y := _ + 1) (pc2 := 99) (lv2 := [(0, _), (1, _), (3, _), (5, _), (6, _), (7, _)]) (dk D_X10_mixInto 52 rfl) (V_lg 4 rfl) rfl (by decide) rfl rfl ?_
    refine V_goto (tgt := 41) (dk D_X10_mixInto 53 rfl) (by decide) ?_
    refine V_pick [0, 1, 2, 3, 4] (lv2 := [(0, _), (1, _), (3, _), (5, _), (6, _)]) rfl ?_
    exact h
  · have h := h.2 q7
    refine V_ldc2 (x := 31) (pc2 := 67) (dk D_X10_mixInto 34 rfl) kl_10_117 rfl ?_
    refine V_lload_n (pc2 := 68) (dk D_X10_mixInto 35 rfl) rfl (V_lg 2 rfl) rfl ?_
    refine V_lmul (pc2 := 69) (dk D_X10_mixInto 36 rfl) rfl ?_
    refine V_aload_n (pc2 := 70) (dk D_X10_mixInto 37 rfl) rfl (V_lg 0 rfl) rfl ?_
    refine V_iload (pc2 := 72) (dk D_X10_mixInto 38 rfl) (V_lg 3 rfl) rfl ?_
    refine V_iload (pc2 := 74) (dk D_X10_mixInto 39 rfl) (V_lg 5 rfl) rfl ?_
    obtain ⟨h19, h⟩ := h
    obtain ⟨e14, he15, hc16⟩ := h
    refine V_callV (as := [_, _]) (st := [_]) (M' := MX10_variable) (ci := 10) (pc2 := 77) (dk D_X10_mixInto 40 rfl) ml_10_104 mv_X10_variable rfl rfl (by decide) rfl (Nat.le_of_ble_eq_true rfl) rfl he15 h19 hc16 (RI.k fun y17 S18 h => ?_)
    refine V_i2l (pc2 := 78) (dk D_X10_mixInto 41 rfl) rfl ?_
    refine V_ladd (pc2 := 79) (dk D_X10_mixInto 42 rfl) rfl ?_
    refine V_lstore_n (pc2 := 80) (lv2 := [(0, _), (1, _), (3, _), (5, _), (6, _), (7, _)]) (dk D_X10_mixInto 43 rfl) rfl (by decide) rfl rfl ?_
    refine V_iinc (y := _ + 1) (pc2 := 83) (lv2 := [(0, _), (1, _), (3, _), (5, _), (6, _), (7, _)]) (dk D_X10_mixInto 44 rfl) (V_lg 5 rfl) rfl (by decide) rfl rfl ?_
    refine V_goto (tgt := 53) (dk D_X10_mixInto 45 rfl) (by decide) ?_
    exact h
