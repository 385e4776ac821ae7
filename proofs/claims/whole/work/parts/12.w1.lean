def L_X1_init : List (Nat × Instr × Nat) := [(0, .aload_n 0, 1), (1, .invokespecial 1, 3), (4, .aload_n 0, 1), (5, .sipush 128, 3), (8, .newarray .byte, 2), (10, .putfield 7, 3), (13, .aload_n 0, 1), (14, .sipush 128, 3), (17, .newarray .int, 2), (19, .putfield 13, 3), (22, .return_, 1)]
theorem D_X1_init : dOk cX1_init L_X1_init = true := by decide +kernel
theorem w_X1_init_0 {X : Cx} {d : Nat} {S : Mem} {Q : Res → Mem → Prop} (r0 : Nat) (h : (1 ≤ d) ∧ (r0 ≠ 0) ∧ ∀ S4 : Mem, S4 = nw S 20 128 128 → (isK S4 r0 1) ∧ ∀ S6 : Mem, S6 = uR S4 r0 0 (tp S) → ∀ S8 : Mem, S8 = nw S6 21 128 128 → ∀ S9 : Mem, S9 = uR S8 r0 1 (tp S6) → Q (.inl none) S9) : V X d MX1_init 0 [(0, vR r0)] [] S Q := by
  refine V_aload_n (pc2 := 1) (dk D_X1_init 0 rfl) rfl (V_lg 0 rfl) rfl ?_
  obtain ⟨h1, h⟩ := h
  obtain ⟨h2, h⟩ := h
  refine V_obj (pc2 := 4) (dk D_X1_init 1 rfl) ml_1_1 oi_i oi_c rfl (Nat.le_of_ble_eq_true rfl) h1 h2 ?_
  refine V_aload_n (pc2 := 5) (dk D_X1_init 2 rfl) rfl (V_lg 0 rfl) rfl ?_
  refine V_sipush (x := 128) (pc2 := 8) (dk D_X1_init 3 rfl) (by decide) rfl ?_
  have hd3 : decode MX1_init.2.1 8 = .ok (.newarray .byte, 2) := dk D_X1_init 4 rfl
  refine V_newa20 (n := 128) (pc2 := 10) hd3 ac_20 rfl (litI 128) (Nat.le_of_ble_eq_true rfl) ?_
  have h := h _ rfl
  obtain ⟨h5, h⟩ := h
  refine V_putR kc1 (pc2 := 13) 0 (dk D_X1_init 5 rfl) fl_1_7 (by decide) (Or.inl rfl) (Or.inr ⟨_, rfl⟩) rfl h5 ?_
  have h := h _ rfl
  refine V_aload_n (pc2 := 14) (dk D_X1_init 6 rfl) rfl (V_lg 0 rfl) rfl ?_
  refine V_sipush (x := 128) (pc2 := 17) (dk D_X1_init 7 rfl) (by decide) rfl ?_
  have hd7 : decode MX1_init.2.1 17 = .ok (.newarray .int, 2) := dk D_X1_init 8 rfl
  refine V_newa21 (n := 128) (pc2 := 19) hd7 ac_21 rfl (litI 128) (Nat.le_of_ble_eq_true rfl) ?_
  have h := h _ rfl
  refine V_putR kc1 (pc2 := 22) 1 (dk D_X1_init 9 rfl) fl_1_13 (by decide) (Or.inl rfl) (Or.inr ⟨_, rfl⟩) rfl (isK_nw h5) ?_
  have h := h _ rfl
  exact V_return (dk D_X1_init 10 rfl) rfl h
def L_X1_clear : List (Nat × Instr × Nat) := [(0, .aload_n 0, 1), (1, .iconst 0, 1), (2, .putfield 17, 3), (5, .return_, 1)]
theorem D_X1_clear : dOk cX1_clear L_X1_clear = true := by decide +kernel
theorem w_X1_clear_0 {X : Cx} {d : Nat} {S : Mem} {Q : Res → Mem → Prop} (r0 : Nat) (h : (isK S r0 1) ∧ ∀ S2 : Mem, S2 = uI S r0 2 0 → Q (.inl none) S2) : V X d MX1_clear 0 [(0, vR r0)] [] S Q := by
  refine V_aload_n (pc2 := 1) (dk D_X1_clear 0 rfl) rfl (V_lg 0 rfl) rfl ?_
  refine V_iconst (x := 0) (pc2 := 2) (dk D_X1_clear 1 rfl) (by decide) rfl ?_
  obtain ⟨h1, h⟩ := h
  refine V_putI kc1 (pc2 := 5) 2 (dk D_X1_clear 2 rfl) fl_1_17 (by decide) (Or.inl rfl) rfl rfl h1 ?_
  have h := h _ rfl
  exact V_return (dk D_X1_clear 3 rfl) rfl h
def L_X1_size : List (Nat × Instr × Nat) := [(0, .aload_n 0, 1), (1, .getfield 17, 3), (4, .ireturn, 1)]
theorem D_X1_size : dOk cX1_size L_X1_size = true := by decide +kernel
theorem w_X1_size_0 {X : Cx} {d : Nat} {S : Mem} {Q : Res → Mem → Prop} (r0 : Nat) (h : (isK S r0 1) ∧ Q (.inl (some (vI (gI S r0 2)))) S) : V X d MX1_size 0 [(0, vR r0)] [] S Q := by
  refine V_aload_n (pc2 := 1) (dk D_X1_size 0 rfl) rfl (V_lg 0 rfl) rfl ?_
  obtain ⟨h1, h⟩ := h
  refine V_getI kc1 (pc2 := 4) 2 (dk D_X1_size 1 rfl) fl_1_17 (by decide) (fun _ => rfl) rfl h1 ?_
  exact V_ireturn (dk D_X1_size 2 rfl) rfl h
def L_X1_add : List (Nat × Instr × Nat) := [(0, .aload_n 0, 1), (1, .getfield 17, 3), (4, .aload_n 0, 1), (5, .getfield 7, 3), (8, .arraylength, 1), (9, .if_icmp .lt 37, 3), (12, .aload_n 0, 1), (13, .aload_n 0, 1), (14, .getfield 7, 3), (17, .iconst 2, 1), (18, .aload_n 0, 1), (19, .getfield 17, 3), (22, .imul, 1), (23, .invokestatic 21, 3), (26, .putfield 7, 3), (29, .aload_n 0, 1), (30, .aload_n 0, 1), (31, .getfield 13, 3), (34, .iconst 2, 1), (35, .aload_n 0, 1), (36, .getfield 17, 3), (39, .imul, 1), (40, .invokestatic 27, 3), (43, .putfield 13, 3), (46, .aload_n 0, 1), (47, .getfield 7, 3), (50, .aload_n 0, 1), (51, .getfield 17, 3), (54, .iload_n 1, 1), (55, .i2b, 1), (56, .bastore, 1), (57, .aload_n 0, 1), (58, .getfield 13, 3), (61, .aload_n 0, 1), (62, .getfield 17, 3), (65, .iload_n 2, 1), (66, .iastore, 1), (67, .aload_n 0, 1), (68, .dup, 1), (69, .getfield 17, 3), (72, .iconst 1, 1), (73, .iadd, 1), (74, .putfield 17, 3), (77, .aload_n 0, 1), (78, .getfield 17, 3), (81, .iconst 1, 1), (82, .isub, 1), (83, .ireturn, 1)]
theorem D_X1_add : dOk cX1_add L_X1_add = true := by decide +kernel
theorem w_X1_add_0 {X : Cx} {d : Nat} {S : Mem} {Q : Res → Mem → Prop} (r0 : Nat) (x1 : Int32) (x2 : Int32) (h : (isK S r0 1) ∧ (isK S (gR S r0 0) 20) ∧ ((gR S r0 0) ≠ 27) ∧ (((gI S r0 2) < (nI (gN S (gR S r0 0))) → V X d MX1_add 46 [(0, vR r0), (1, vI x1), (2, vI x2)] [] S Q) ∧ (¬ (gI S r0 2) < (nI (gN S (gR S r0 0))) → ∃ e5 : Nat, e5 + 1 ≤ d ∧ C X e5 MJ7_copyOf_9075b [vR (gR S r0 0), vI (2 * (gI S r0 2))] S (RR fun p8 S9 => (isK S9 r0 1) ∧ ∀ S11 : Mem, S11 = uR S9 r0 0 p8 → ∃ e12 : Nat, e12 + 1 ≤ d ∧ C X e12 MJ7_copyOf_59c91 [vR (gR S11 r0 1), vI (2 * (gI S9 r0 2))] S11 (RR fun p15 S16 => (isK S16 r0 1) ∧ ∀ S18 : Mem, S18 = uR S16 r0 1 p15 → V X d MX1_add 46 [(0, vR r0), (1, vI x1), (2, vI x2)] [] S18 Q))))) : V X d MX1_add 0 [(0, vR r0), (1, vI x1), (2, vI x2)] [] S Q := by
  refine V_aload_n (pc2 := 1) (dk D_X1_add 0 rfl) rfl (V_lg 0 rfl) rfl ?_
  obtain ⟨h1, h⟩ := h
  refine V_getI kc1 (pc2 := 4) 2 (dk D_X1_add 1 rfl) fl_1_17 (by decide) (fun _ => rfl) rfl h1 ?_
  refine V_aload_n (pc2 := 5) (dk D_X1_add 2 rfl) rfl (V_lg 0 rfl) rfl ?_
  refine V_getR kc1 (pc2 := 8) 0 (dk D_X1_add 3 rfl) fl_1_7 (by decide) (fun _ => rfl) rfl h1 ?_
  obtain ⟨h2, h⟩ := h
  obtain ⟨h3, h⟩ := h
  refine V_alen (k := 20) (pc2 := 9) (dk D_X1_add 4 rfl) rfl (by decide) (by decide) h2 h3 ?_
  refine V_cmplt (tgt := 46) (pc2 := 12) (dk D_X1_add 5 rfl) (by decide) rfl (fun q4 => ?_) (fun q4 => ?_)
  · have h := h.1 q4
    exact h
  · have h := h.2 q4
    refine V_aload_n (pc2 := 13) (dk D_X1_add 6 rfl) rfl (V_lg 0 rfl) rfl ?_
    refine V_aload_n (pc2 := 14) (dk D_X1_add 7 rfl) rfl (V_lg 0 rfl) rfl ?_
    refine V_getR kc1 (pc2 := 17) 0 (dk D_X1_add 8 rfl) fl_1_7 (by decide) (fun _ => rfl) rfl h1 ?_
    refine V_iconst (x := 2) (pc2 := 18) (dk D_X1_add 9 rfl) (by decide) rfl ?_
    refine V_aload_n (pc2 := 19) (dk D_X1_add 10 rfl) rfl (V_lg 0 rfl) rfl ?_
    refine V_getI kc1 (pc2 := 22) 2 (dk D_X1_add 11 rfl) fl_1_17 (by decide) (fun _ => rfl) rfl h1 ?_
    refine V_imul (pc2 := 23) (dk D_X1_add 12 rfl) rfl ?_
    obtain ⟨e5, he6, hc7⟩ := h
    refine V_callS (as := [_, _]) (st := [_]) (M' := MJ7_copyOf_9075b) (pc2 := 26) (dk D_X1_add 13 rfl) ml_1_21 mv_J7_copyOf_9075b rfl rfl (Nat.le_of_ble_eq_true rfl) rfl he6 hc7 (RR.k fun p8 S9 h => ?_)
    obtain ⟨h10, h⟩ := h
    refine V_putR kc1 (pc2 := 29) 0 (dk D_X1_add 14 rfl) fl_1_7 (by decide) (Or.inl rfl) (Or.inr ⟨_, rfl⟩) rfl h10 ?_
    have h := h _ rfl
    refine V_aload_n (pc2 := 30) (dk D_X1_add 15 rfl) rfl (V_lg 0 rfl) rfl ?_
    refine V_aload_n (pc2 := 31) (dk D_X1_add 16 rfl) rfl (V_lg 0 rfl) rfl ?_
    refine V_getR kc1 (pc2 := 34) 1 (dk D_X1_add 17 rfl) fl_1_13 (by decide) (fun _ => rfl) rfl h10 ?_
    refine V_iconst (x := 2) (pc2 := 35) (dk D_X1_add 18 rfl) (by decide) rfl ?_
    refine V_aload_n (pc2 := 36) (dk D_X1_add 19 rfl) rfl (V_lg 0 rfl) rfl ?_
    refine V_getI kc1 (pc2 := 39) 2 (dk D_X1_add 20 rfl) fl_1_17 (by decide) (fun _ => rfl) rfl h10 ?_
    refine V_imul (pc2 := 40) (dk D_X1_add 21 rfl) rfl ?_
    obtain ⟨e12, he13, hc14⟩ := h
    refine V_callS (as := [_, _]) (st := [_]) (M' := MJ7_copyOf_59c91) (pc2 := 43) (dk D_X1_add 22 rfl) ml_1_27 mv_J7_copyOf_59c91 rfl rfl (Nat.le_of_ble_eq_true rfl) rfl he13 hc14 (RR.k fun p15 S16 h => ?_)
    obtain ⟨h17, h⟩ := h
    refine V_putR kc1 (pc2 := 46) 1 (dk D_X1_add 23 rfl) fl_1_13 (by decide) (Or.inl rfl) (Or.inr ⟨_, rfl⟩) rfl h17 ?_
    have h := h _ rfl
    exact h
theorem w_X1_add_46 {X : Cx} {d : Nat} {S : Mem} {Q : Res → Mem → Prop} (r0 : Nat) (x1 : Int32) (x2 : Int32) (h : (isK S r0 1) ∧ (isK S (gR S r0 0) 20) ∧ (vp_in (gI S r0 2) (gN S (gR S r0 0))) ∧ ∀ S4 : Mem, S4 = uI S (gR S r0 0) (((gI S r0 2) : Int32).toNatClampNeg) (((x1 : Int32).toInt8.toInt32) : Int32).toInt8.toInt32 → (isK S (gR S r0 1) 21) ∧ (vp_in (gI S4 r0 2) (gN S (gR S r0 1))) ∧ ∀ S7 : Mem, S7 = uI S4 (gR S r0 1) (((gI S4 r0 2) : Int32).toNatClampNeg) x2 → ∀ S8 : Mem, S8 = uI S7 r0 2 ((gI S7 r0 2) + 1) → Q (.inl (some (vI ((gI S8 r0 2) - 1)))) S8) : V X d MX1_add 46 [(0, vR r0), (1, vI x1), (2, vI x2)] [] S Q := by
  refine V_aload_n (pc2 := 47) (dk D_X1_add 24 rfl) rfl (V_lg 0 rfl) rfl ?_
  obtain ⟨h1, h⟩ := h
  refine V_getR kc1 (pc2 := 50) 0 (dk D_X1_add 25 rfl) fl_1_7 (by decide) (fun _ => rfl) rfl h1 ?_
  refine V_aload_n (pc2 := 51) (dk D_X1_add 26 rfl) rfl (V_lg 0 rfl) rfl ?_
  refine V_getI kc1 (pc2 := 54) 2 (dk D_X1_add 27 rfl) fl_1_17 (by decide) (fun _ => rfl) rfl h1 ?_
  refine V_iload_n (pc2 := 55) (dk D_X1_add 28 rfl) rfl (V_lg 1 rfl) rfl ?_
  refine V_i2b (pc2 := 56) (dk D_X1_add 29 rfl) rfl ?_
  obtain ⟨h2, h⟩ := h
  obtain ⟨h3, h⟩ := h
  refine V_bast (pc2 := 57) (dk D_X1_add 30 rfl) rfl h2 h3 ?_
  have h := h _ rfl
  refine V_aload_n (pc2 := 58) (dk D_X1_add 31 rfl) rfl (V_lg 0 rfl) rfl ?_
  refine V_getR kc1 (pc2 := 61) 1 (dk D_X1_add 32 rfl) fl_1_13 (by decide) (fun _ => rfl) rfl h1 ?_
  refine V_aload_n (pc2 := 62) (dk D_X1_add 33 rfl) rfl (V_lg 0 rfl) rfl ?_
  refine V_getI kc1 (pc2 := 65) 2 (dk D_X1_add 34 rfl) fl_1_17 (by decide) (fun _ => rfl) rfl h1 ?_
  refine V_iload_n (pc2 := 66) (dk D_X1_add 35 rfl) rfl (V_lg 2 rfl) rfl ?_
  obtain ⟨h5, h⟩ := h
  obtain ⟨h6, h⟩ := h
  refine V_iast (pc2 := 67) (dk D_X1_add 36 rfl) rfl h5 h6 ?_
  have h := h _ rfl
  refine V_aload_n (pc2 := 68) (dk D_X1_add 37 rfl) rfl (V_lg 0 rfl) rfl ?_
  refine V_dup (pc2 := 69) (dk D_X1_add 38 rfl) rfl rfl ?_
  refine V_getI kc1 (pc2 := 72) 2 (dk D_X1_add 39 rfl) fl_1_17 (by decide) (fun _ => rfl) rfl h1 ?_
  refine V_iconst (x := 1) (pc2 := 73) (dk D_X1_add 40 rfl) (by decide) rfl ?_
  refine V_iadd (pc2 := 74) (dk D_X1_add 41 rfl) rfl ?_
  refine V_putI kc1 (pc2 := 77) 2 (dk D_X1_add 42 rfl) fl_1_17 (by decide) (Or.inl rfl) rfl rfl h1 ?_
  have h := h _ rfl
  refine V_aload_n (pc2 := 78) (dk D_X1_add 43 rfl) rfl (V_lg 0 rfl) rfl ?_
  refine V_getI kc1 (pc2 := 81) 2 (dk D_X1_add 44 rfl) fl_1_17 (by decide) (fun _ => rfl) rfl h1 ?_
  refine V_iconst (x := 1) (pc2 := 82) (dk D_X1_add 45 rfl) (by decide) rfl ?_
  refine V_isub (pc2 := 83) (dk D_X1_add 46 rfl) rfl ?_
  exact V_ireturn (dk D_X1_add 47 rfl) rfl h
def L_X1_act : List (Nat × Instr × Nat) := [(0, .iload_n 1, 1), (1, .ifCond .lt 11, 3), (4, .iload_n 1, 1), (5, .aload_n 0, 1), (6, .getfield 17, 3), (9, .if_icmp .lt 7, 3), (12, .iconst 0, 1), (13, .goto 9, 3), (16, .aload_n 0, 1), (17, .getfield 7, 3), (20, .iload_n 1, 1), (21, .baload, 1), (22, .ireturn, 1)]
theorem D_X1_act : dOk cX1_act L_X1_act = true := by decide +kernel
theorem w_X1_act_0 {X : Cx} {d : Nat} {S : Mem} {Q : Res → Mem → Prop} (r0 : Nat) (x1 : Int32) (h : ((x1 < 0 → V X d MX1_act 12 [(0, vR r0), (1, vI x1)] [] S Q) ∧ (¬ x1 < 0 → (isK S r0 1) ∧ ((x1 < (gI S r0 2) → (isK S (gR S r0 0) 20) ∧ (vp_in x1 (gN S (gR S r0 0))) ∧ V X d MX1_act 22 [(0, vR r0), (1, vI x1)] [vI (gI S (gR S r0 0) (x1 : Int32).toNatClampNeg)] S Q) ∧ (¬ x1 < (gI S r0 2) → V X d MX1_act 12 [(0, vR r0), (1, vI x1)] [] S Q))))) : V X d MX1_act 0 [(0, vR r0), (1, vI x1)] [] S Q := by
  refine V_iload_n (pc2 := 1) (dk D_X1_act 0 rfl) rfl (V_lg 1 rfl) rfl ?_
  refine V_iflt (tgt := 12) (pc2 := 4) (dk D_X1_act 1 rfl) (by decide) rfl (fun q1 => ?_) (fun q1 => ?_)
  · have h := h.1 q1
    exact h
  · have h := h.2 q1
    refine V_iload_n (pc2 := 5) (dk D_X1_act 2 rfl) rfl (V_lg 1 rfl) rfl ?_
    refine V_aload_n (pc2 := 6) (dk D_X1_act 3 rfl) rfl (V_lg 0 rfl) rfl ?_
    obtain ⟨h2, h⟩ := h
    refine V_getI kc1 (pc2 := 9) 2 (dk D_X1_act 4 rfl) fl_1_17 (by decide) (fun _ => rfl) rfl h2 ?_
    refine V_cmplt (tgt := 16) (pc2 := 12) (dk D_X1_act 5 rfl) (by decide) rfl (fun q3 => ?_) (fun q3 => ?_)
    · have h := h.1 q3
      refine V_aload_n (pc2 := 17) (dk D_X1_act 8 rfl) rfl (V_lg 0 rfl) rfl ?_
      refine V_getR kc1 (pc2 := 20) 0 (dk D_X1_act 9 rfl) fl_1_7 (by decide) (fun _ => rfl) rfl h2 ?_
      refine V_iload_n (pc2 := 21) (dk D_X1_act 10 rfl) rfl (V_lg 1 rfl) rfl ?_
      obtain ⟨h4, h⟩ := h
      obtain ⟨h5, h⟩ := h
      refine V_bald (pc2 := 22) (dk D_X1_act 11 rfl) rfl h4 h5 ?_
      exact h
    · have h := h.2 q3
      exact h
theorem w_X1_act_12 {X : Cx} {d : Nat} {S : Mem} {Q : Res → Mem → Prop} (r0 : Nat) (x1 : Int32) (h : V X d MX1_act 22 [(0, vR r0), (1, vI x1)] [vI 0] S Q) : V X d MX1_act 12 [(0, vR r0), (1, vI x1)] [] S Q := by
  refine V_iconst (x := 0) (pc2 := 13) (dk D_X1_act 6 rfl) (by decide) rfl ?_
  refine V_goto (tgt := 22) (dk D_X1_act 7 rfl) (by decide) ?_
  exact h
theorem w_X1_act_22 {X : Cx} {d : Nat} {S : Mem} {Q : Res → Mem → Prop} (r0 : Nat) (x1 : Int32) (t0 : Int32) (h : Q (.inl (some (vI t0))) S) : V X d MX1_act 22 [(0, vR r0), (1, vI x1)] [vI t0] S Q := by
  exact V_ireturn (dk D_X1_act 12 rfl) rfl h
def L_X1_argument : List (Nat × Instr × Nat) := [(0, .iload_n 1, 1), (1, .ifCond .lt 11, 3), (4, .iload_n 1, 1), (5, .aload_n 0, 1), (6, .getfield 17, 3), (9, .if_icmp .lt 7, 3), (12, .iconst 0, 1), (13, .goto 9, 3), (16, .aload_n 0, 1), (17, .getfield 13, 3), (20, .iload_n 1, 1), (21, .iaload, 1), (22, .ireturn, 1)]
theorem D_X1_argument : dOk cX1_argument L_X1_argument = true := by decide +kernel
theorem w_X1_argument_0 {X : Cx} {d : Nat} {S : Mem} {Q : Res → Mem → Prop} (r0 : Nat) (x1 : Int32) (h : ((x1 < 0 → V X d MX1_argument 12 [(0, vR r0), (1, vI x1)] [] S Q) ∧ (¬ x1 < 0 → (isK S r0 1) ∧ ((x1 < (gI S r0 2) → (isK S (gR S r0 1) 21) ∧ (vp_in x1 (gN S (gR S r0 1))) ∧ V X d MX1_argument 22 [(0, vR r0), (1, vI x1)] [vI (gI S (gR S r0 1) (x1 : Int32).toNatClampNeg)] S Q) ∧ (¬ x1 < (gI S r0 2) → V X d MX1_argument 12 [(0, vR r0), (1, vI x1)] [] S Q))))) : V X d MX1_argument 0 [(0, vR r0), (1, vI x1)] [] S Q := by
  refine V_iload_n (pc2 := 1) (dk D_X1_argument 0 rfl) rfl (V_lg 1 rfl) rfl ?_
  refine V_iflt (tgt := 12) (pc2 := 4) (dk D_X1_argument 1 rfl) (by decide) rfl (fun q1 => ?_) (fun q1 => ?_)
  · have h := h.1 q1
    exact h
  · have h := h.2 q1
    refine V_iload_n (pc2 := 5) (dk D_X1_argument 2 rfl) rfl (V_lg 1 rfl) rfl ?_
    refine V_aload_n (pc2 := 6) (dk D_X1_argument 3 rfl) rfl (V_lg 0 rfl) rfl ?_
    obtain ⟨h2, h⟩ := h
    refine V_getI kc1 (pc2 := 9) 2 (dk D_X1_argument 4 rfl) fl_1_17 (by decide) (fun _ => rfl) rfl h2 ?_
    refine V_cmplt (tgt := 16) (pc2 := 12) (dk D_X1_argument 5 rfl) (by decide) rfl (fun q3 => ?_) (fun q3 => ?_)
    · have h := h.1 q3
      refine V_aload_n (pc2 := 17) (dk D_X1_argument 8 rfl) rfl (V_lg 0 rfl) rfl ?_
      refine V_getR kc1 (pc2 := 20) 1 (dk D_X1_argument 9 rfl) fl_1_13 (by decide) (fun _ => rfl) rfl h2 ?_
      refine V_iload_n (pc2 := 21) (dk D_X1_argument 10 rfl) rfl (V_lg 1 rfl) rfl ?_
      obtain ⟨h4, h⟩ := h
      obtain ⟨h5, h⟩ := h
      refine V_iald (pc2 := 22) (dk D_X1_argument 11 rfl) rfl h4 h5 ?_
      exact h
    · have h := h.2 q3
      exact h
theorem w_X1_argument_12 {X : Cx} {d : Nat} {S : Mem} {Q : Res → Mem → Prop} (r0 : Nat) (x1 : Int32) (h : V X d MX1_argument 22 [(0, vR r0), (1, vI x1)] [vI 0] S Q) : V X d MX1_argument 12 [(0, vR r0), (1, vI x1)] [] S Q := by
  refine V_iconst (x := 0) (pc2 := 13) (dk D_X1_argument 6 rfl) (by decide) rfl ?_
  refine V_goto (tgt := 22) (dk D_X1_argument 7 rfl) (by decide) ?_
  exact h
theorem w_X1_argument_22 {X : Cx} {d : Nat} {S : Mem} {Q : Res → Mem → Prop} (r0 : Nat) (x1 : Int32) (t0 : Int32) (h : Q (.inl (some (vI t0))) S) : V X d MX1_argument 22 [(0, vR r0), (1, vI x1)] [vI t0] S Q := by
  exact V_ireturn (dk D_X1_argument 12 rfl) rfl h
def L_X1_patch : List (Nat × Instr × Nat) := [(0, .iload_n 1, 1), (1, .ifCond .lt 18, 3), (4, .iload_n 1, 1), (5, .aload_n 0, 1), (6, .getfield 17, 3), (9, .if_icmp .ge 10, 3), (12, .aload_n 0, 1), (13, .getfield 13, 3), (16, .iload_n 1, 1), (17, .iload_n 2, 1), (18, .iastore, 1), (19, .return_, 1)]
theorem D_X1_patch : dOk cX1_patch L_X1_patch = true := by decide +kernel
theorem w_X1_patch_0 {X : Cx} {d : Nat} {S : Mem} {Q : Res → Mem → Prop} (r0 : Nat) (x1 : Int32) (x2 : Int32) (h : ((x1 < 0 → V X d MX1_patch 19 [(0, vR r0), (1, vI x1), (2, vI x2)] [] S Q) ∧ (¬ x1 < 0 → (isK S r0 1) ∧ (((gI S r0 2) ≤ x1 → V X d MX1_patch 19 [(0, vR r0), (1, vI x1), (2, vI x2)] [] S Q) ∧ (¬ (gI S r0 2) ≤ x1 → (isK S (gR S r0 1) 21) ∧ (vp_in x1 (gN S (gR S r0 1))) ∧ ∀ S6 : Mem, S6 = uI S (gR S r0 1) ((x1 : Int32).toNatClampNeg) x2 → V X d MX1_patch 19 [(0, vR r0), (1, vI x1), (2, vI x2)] [] S6 Q))))) : V X d MX1_patch 0 [(0, vR r0), (1, vI x1), (2, vI x2)] [] S Q := by
  refine V_iload_n (pc2 := 1) (dk D_X1_patch 0 rfl) rfl (V_lg 1 rfl) rfl ?_
  refine V_iflt (tgt := 19) (pc2 := 4) (dk D_X1_patch 1 rfl) (by decide) rfl (fun q1 => ?_) (fun q1 => ?_)
  · have h := h.1 q1
    exact h
  · have h := h.2 q1
    refine V_iload_n (pc2 := 5) (dk D_X1_patch 2 rfl) rfl (V_lg 1 rfl) rfl ?_
    refine V_aload_n (pc2 := 6) (dk D_X1_patch 3 rfl) rfl (V_lg 0 rfl) rfl ?_
    obtain ⟨h2, h⟩ := h
    refine V_getI kc1 (pc2 := 9) 2 (dk D_X1_patch 4 rfl) fl_1_17 (by decide) (fun _ => rfl) rfl h2 ?_
    refine V_cmpge (tgt := 19) (pc2 := 12) (dk D_X1_patch 5 rfl) (by decide) rfl (fun q3 => ?_) (fun q3 => ?_)
    · have h := h.1 q3
      exact h
    · have h := h.2 q3
      refine V_aload_n (pc2 := 13) (dk D_X1_patch 6 rfl) rfl (V_lg 0 rfl) rfl ?_
      refine V_getR kc1 (pc2 := 16) 1 (dk D_X1_patch 7 rfl) fl_1_13 (by decide) (fun _ => rfl) rfl h2 ?_
      refine V_iload_n (pc2 := 17) (dk D_X1_patch 8 rfl) rfl (V_lg 1 rfl) rfl ?_
      refine V_iload_n (pc2 := 18) (dk D_X1_patch 9 rfl) rfl (V_lg 2 rfl) rfl ?_
      obtain ⟨h4, h⟩ := h
      obtain ⟨h5, h⟩ := h
      refine V_iast (pc2 := 19) (dk D_X1_patch 10 rfl) rfl h4 h5 ?_
      have h := h _ rfl
      exact h
theorem w_X1_patch_19 {X : Cx} {d : Nat} {S : Mem} {Q : Res → Mem → Prop} (r0 : Nat) (x1 : Int32) (x2 : Int32) (h : Q (.inl none) S) : V X d MX1_patch 19 [(0, vR r0), (1, vI x1), (2, vI x2)] [] S Q := by
  exact V_return (dk D_X1_patch 11 rfl) rfl h
