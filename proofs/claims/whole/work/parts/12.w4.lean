def L_X4_init : List (Nat × Instr × Nat) := [(0, .aload_n 0, 1), (1, .invokespecial 3, 3), (4, .aload_n 0, 1), (5, .bipush 32, 2), (7, .newarray .int, 2), (9, .putfield 9, 3), (12, .return_, 1)]
theorem D_X4_init : dOk cX4_init L_X4_init = true := by decide +kernel
theorem w_X4_init_0 {X : Cx} {d : Nat} {S : Mem} {Q : Res → Mem → Prop} (r0 : Nat) (h : (1 ≤ d) ∧ (r0 ≠ 0) ∧ ∀ S4 : Mem, S4 = nw S 21 32 32 → (isK S4 r0 4) ∧ ∀ S6 : Mem, S6 = uR S4 r0 0 (tp S) → Q (.inl none) S6) : V X d MX4_init 0 [(0, vR r0)] [] S Q := by
  refine V_aload_n (pc2 := 1) (dk D_X4_init 0 rfl) rfl (V_lg 0 rfl) rfl ?_
  obtain ⟨h1, h⟩ := h
  obtain ⟨h2, h⟩ := h
  refine V_obj (pc2 := 4) (dk D_X4_init 1 rfl) ml_4_3 oi_i oi_c rfl (Nat.le_of_ble_eq_true rfl) h1 h2 ?_
  refine V_aload_n (pc2 := 5) (dk D_X4_init 2 rfl) rfl (V_lg 0 rfl) rfl ?_
  refine V_bipush (x := 32) (pc2 := 7) (dk D_X4_init 3 rfl) (by decide) rfl ?_
  have hd3 : decode MX4_init.2.1 7 = .ok (.newarray .int, 2) := dk D_X4_init 4 rfl
  refine V_newa21 (n := 32) (pc2 := 9) hd3 ac_21 rfl (litI 32) (Nat.le_of_ble_eq_true rfl) ?_
  have h := h _ rfl
  obtain ⟨h5, h⟩ := h
  refine V_putR kc4 (pc2 := 12) 0 (dk D_X4_init 5 rfl) fl_4_9 (by decide) (Or.inl rfl) (Or.inr ⟨_, rfl⟩) rfl h5 ?_
  have h := h _ rfl
  exact V_return (dk D_X4_init 6 rfl) rfl h
def L_X4_clear : List (Nat × Instr × Nat) := [(0, .aload_n 0, 1), (1, .iconst 0, 1), (2, .putfield 15, 3), (5, .aload_n 0, 1), (6, .iconst 0, 1), (7, .putfield 19, 3), (10, .return_, 1)]
theorem D_X4_clear : dOk cX4_clear L_X4_clear = true := by decide +kernel
theorem w_X4_clear_0 {X : Cx} {d : Nat} {S : Mem} {Q : Res → Mem → Prop} (r0 : Nat) (h : (isK S r0 4) ∧ ∀ S2 : Mem, S2 = uI S r0 1 0 → ∀ S3 : Mem, S3 = uI S2 r0 2 0 → Q (.inl none) S3) : V X d MX4_clear 0 [(0, vR r0)] [] S Q := by
  refine V_aload_n (pc2 := 1) (dk D_X4_clear 0 rfl) rfl (V_lg 0 rfl) rfl ?_
  refine V_iconst (x := 0) (pc2 := 2) (dk D_X4_clear 1 rfl) (by decide) rfl ?_
  obtain ⟨h1, h⟩ := h
  refine V_putI kc4 (pc2 := 5) 1 (dk D_X4_clear 2 rfl) fl_4_15 (by decide) (Or.inl rfl) rfl rfl h1 ?_
  have h := h _ rfl
  refine V_aload_n (pc2 := 6) (dk D_X4_clear 3 rfl) rfl (V_lg 0 rfl) rfl ?_
  refine V_iconst (x := 0) (pc2 := 7) (dk D_X4_clear 4 rfl) (by decide) rfl ?_
  refine V_putI kc4 (pc2 := 10) 2 (dk D_X4_clear 5 rfl) fl_4_19 (by decide) (Or.inl rfl) rfl rfl h1 ?_
  have h := h _ rfl
  exact V_return (dk D_X4_clear 6 rfl) rfl h
def L_X4_add : List (Nat × Instr × Nat) := [(0, .aload_n 0, 1), (1, .dup, 1), (2, .getfield 19, 3), (5, .iconst 1, 1), (6, .iadd, 1), (7, .putfield 19, 3), (10, .aload_n 0, 1), (11, .getfield 15, 3), (14, .sipush 300, 3), (17, .if_icmp .lt 4, 3), (20, .return_, 1), (21, .iconst 2, 1), (22, .aload_n 0, 1), (23, .getfield 15, 3), (26, .imul, 1), (27, .iconst 1, 1), (28, .iadd, 1), (29, .aload_n 0, 1), (30, .getfield 9, 3), (33, .arraylength, 1), (34, .if_icmp .lt 21, 3), (37, .aload_n 0, 1), (38, .aload_n 0, 1), (39, .getfield 9, 3), (42, .iconst 2, 1), (43, .aload_n 0, 1), (44, .getfield 9, 3), (47, .arraylength, 1), (48, .imul, 1), (49, .invokestatic 22, 3), (52, .putfield 9, 3), (55, .aload_n 0, 1), (56, .getfield 9, 3), (59, .iconst 2, 1), (60, .aload_n 0, 1), (61, .getfield 15, 3), (64, .imul, 1), (65, .iload_n 1, 1), (66, .iastore, 1), (67, .aload_n 0, 1), (68, .getfield 9, 3), (71, .iconst 2, 1), (72, .aload_n 0, 1), (73, .getfield 15, 3), (76, .imul, 1), (77, .iconst 1, 1), (78, .iadd, 1), (79, .iload_n 2, 1), (80, .iastore, 1), (81, .aload_n 0, 1), (82, .dup, 1), (83, .getfield 15, 3), (86, .iconst 1, 1), (87, .iadd, 1), (88, .putfield 15, 3), (91, .return_, 1)]
theorem D_X4_add : dOk cX4_add L_X4_add = true := by decide +kernel
theorem w_X4_add_0 {X : Cx} {d : Nat} {S : Mem} {Q : Res → Mem → Prop} (r0 : Nat) (x1 : Int32) (x2 : Int32) (h : (isK S r0 4) ∧ ∀ S2 : Mem, S2 = uI S r0 2 ((gI S r0 2) + 1) → (((gI S2 r0 1) < 300 → (isK S (gR S r0 0) 21) ∧ ((((2 * (gI S2 r0 1)) + 1) < (nI (gN S (gR S r0 0))) → V X d MX4_add 55 [(0, vR r0), (1, vI x1), (2, vI x2)] [] S2 Q) ∧ (¬ ((2 * (gI S2 r0 1)) + 1) < (nI (gN S (gR S r0 0))) → ∃ e6 : Nat, e6 + 1 ≤ d ∧ C X e6 MJ7_copyOf_59c91 [vR (gR S r0 0), vI (2 * (nI (gN S (gR S r0 0))))] S2 (RR fun p9 S10 => (isK S10 r0 4) ∧ ∀ S12 : Mem, S12 = uR S10 r0 0 p9 → V X d MX4_add 55 [(0, vR r0), (1, vI x1), (2, vI x2)] [] S12 Q)))) ∧ (¬ (gI S2 r0 1) < 300 → Q (.inl none) S2))) : V X d MX4_add 0 [(0, vR r0), (1, vI x1), (2, vI x2)] [] S Q := by
  refine V_aload_n (pc2 := 1) (dk D_X4_add 0 rfl) rfl (V_lg 0 rfl) rfl ?_
  refine V_dup (pc2 := 2) (dk D_X4_add 1 rfl) rfl rfl ?_
  obtain ⟨h1, h⟩ := h
  refine V_getI kc4 (pc2 := 5) 2 (dk D_X4_add 2 rfl) fl_4_19 (by decide) (fun _ => rfl) rfl h1 ?_
  refine V_iconst (x := 1) (pc2 := 6) (dk D_X4_add 3 rfl) (by decide) rfl ?_
  refine V_iadd (pc2 := 7) (dk D_X4_add 4 rfl) rfl ?_
  refine V_putI kc4 (pc2 := 10) 2 (dk D_X4_add 5 rfl) fl_4_19 (by decide) (Or.inl rfl) rfl rfl h1 ?_
  have h := h _ rfl
  refine V_aload_n (pc2 := 11) (dk D_X4_add 6 rfl) rfl (V_lg 0 rfl) rfl ?_
  refine V_getI kc4 (pc2 := 14) 1 (dk D_X4_add 7 rfl) fl_4_15 (by decide) (fun _ => rfl) rfl h1 ?_
  refine V_sipush (x := 300) (pc2 := 17) (dk D_X4_add 8 rfl) (by decide) rfl ?_
  refine V_cmplt (tgt := 21) (pc2 := 20) (dk D_X4_add 9 rfl) (by decide) rfl (fun q3 => ?_) (fun q3 => ?_)
  · have h := h.1 q3
    refine V_iconst (x := 2) (pc2 := 22) (dk D_X4_add 11 rfl) (by decide) rfl ?_
    refine V_aload_n (pc2 := 23) (dk D_X4_add 12 rfl) rfl (V_lg 0 rfl) rfl ?_
    refine V_getI kc4 (pc2 := 26) 1 (dk D_X4_add 13 rfl) fl_4_15 (by decide) (fun _ => rfl) rfl h1 ?_
    refine V_imul (pc2 := 27) (dk D_X4_add 14 rfl) rfl ?_
    refine V_iconst (x := 1) (pc2 := 28) (dk D_X4_add 15 rfl) (by decide) rfl ?_
    refine V_iadd (pc2 := 29) (dk D_X4_add 16 rfl) rfl ?_
    refine V_aload_n (pc2 := 30) (dk D_X4_add 17 rfl) rfl (V_lg 0 rfl) rfl ?_
    refine V_getR kc4 (pc2 := 33) 0 (dk D_X4_add 18 rfl) fl_4_9 (by decide) (fun _ => rfl) rfl h1 ?_
    obtain ⟨h4, h⟩ := h
    refine V_alenI (pc2 := 34) (dk D_X4_add 19 rfl) rfl h4 ?_
    refine V_cmplt (tgt := 55) (pc2 := 37) (dk D_X4_add 20 rfl) (by decide) rfl (fun q5 => ?_) (fun q5 => ?_)
    · have h := h.1 q5
      exact h
    · have h := h.2 q5
      refine V_aload_n (pc2 := 38) (dk D_X4_add 21 rfl) rfl (V_lg 0 rfl) rfl ?_
      refine V_aload_n (pc2 := 39) (dk D_X4_add 22 rfl) rfl (V_lg 0 rfl) rfl ?_
      refine V_getR kc4 (pc2 := 42) 0 (dk D_X4_add 23 rfl) fl_4_9 (by decide) (fun _ => rfl) rfl h1 ?_
      refine V_iconst (x := 2) (pc2 := 43) (dk D_X4_add 24 rfl) (by decide) rfl ?_
      refine V_aload_n (pc2 := 44) (dk D_X4_add 25 rfl) rfl (V_lg 0 rfl) rfl ?_
      refine V_getR kc4 (pc2 := 47) 0 (dk D_X4_add 26 rfl) fl_4_9 (by decide) (fun _ => rfl) rfl h1 ?_
      refine V_alenI (pc2 := 48) (dk D_X4_add 27 rfl) rfl h4 ?_
      refine V_imul (pc2 := 49) (dk D_X4_add 28 rfl) rfl ?_
      obtain ⟨e6, he7, hc8⟩ := h
      refine V_callS (as := [_, _]) (st := [_]) (M' := MJ7_copyOf_59c91) (pc2 := 52) (dk D_X4_add 29 rfl) ml_4_22 mv_J7_copyOf_59c91 rfl rfl (Nat.le_of_ble_eq_true rfl) rfl he7 hc8 (RR.k fun p9 S10 h => ?_)
      obtain ⟨h11, h⟩ := h
      refine V_putR kc4 (pc2 := 55) 0 (dk D_X4_add 30 rfl) fl_4_9 (by decide) (Or.inl rfl) (Or.inr ⟨_, rfl⟩) rfl h11 ?_
      have h := h _ rfl
      exact h
  · have h := h.2 q3
    exact V_return (dk D_X4_add 10 rfl) rfl h
theorem w_X4_add_55 {X : Cx} {d : Nat} {S : Mem} {Q : Res → Mem → Prop} (r0 : Nat) (x1 : Int32) (x2 : Int32) (h : (isK S r0 4) ∧ (isK S (gR S r0 0) 21) ∧ (vp_in (2 * (gI S r0 1)) (gN S (gR S r0 0))) ∧ ∀ S4 : Mem, S4 = uI S (gR S r0 0) (((2 * (gI S r0 1)) : Int32).toNatClampNeg) x1 → (vp_in ((2 * (gI S4 r0 1)) + 1) (gN S (gR S r0 0))) ∧ ∀ S6 : Mem, S6 = uI S4 (gR S r0 0) ((((2 * (gI S4 r0 1)) + 1) : Int32).toNatClampNeg) x2 → ∀ S7 : Mem, S7 = uI S6 r0 1 ((gI S6 r0 1) + 1) → Q (.inl none) S7) : V X d MX4_add 55 [(0, vR r0), (1, vI x1), (2, vI x2)] [] S Q := by
  refine V_aload_n (pc2 := 56) (dk D_X4_add 31 rfl) rfl (V_lg 0 rfl) rfl ?_
  obtain ⟨h1, h⟩ := h
  refine V_getR kc4 (pc2 := 59) 0 (dk D_X4_add 32 rfl) fl_4_9 (by decide) (fun _ => rfl) rfl h1 ?_
  refine V_iconst (x := 2) (pc2 := 60) (dk D_X4_add 33 rfl) (by decide) rfl ?_
  refine V_aload_n (pc2 := 61) (dk D_X4_add 34 rfl) rfl (V_lg 0 rfl) rfl ?_
  refine V_getI kc4 (pc2 := 64) 1 (dk D_X4_add 35 rfl) fl_4_15 (by decide) (fun _ => rfl) rfl h1 ?_
  refine V_imul (pc2 := 65) (dk D_X4_add 36 rfl) rfl ?_
  refine V_iload_n (pc2 := 66) (dk D_X4_add 37 rfl) rfl (V_lg 1 rfl) rfl ?_
  obtain ⟨h2, h⟩ := h
  obtain ⟨h3, h⟩ := h
  refine V_iast (pc2 := 67) (dk D_X4_add 38 rfl) rfl h2 h3 ?_
  have h := h _ rfl
  refine V_aload_n (pc2 := 68) (dk D_X4_add 39 rfl) rfl (V_lg 0 rfl) rfl ?_
  refine V_getR kc4 (pc2 := 71) 0 (dk D_X4_add 40 rfl) fl_4_9 (by decide) (fun _ => rfl) rfl h1 ?_
  refine V_iconst (x := 2) (pc2 := 72) (dk D_X4_add 41 rfl) (by decide) rfl ?_
  refine V_aload_n (pc2 := 73) (dk D_X4_add 42 rfl) rfl (V_lg 0 rfl) rfl ?_
  refine V_getI kc4 (pc2 := 76) 1 (dk D_X4_add 43 rfl) fl_4_15 (by decide) (fun _ => rfl) rfl h1 ?_
  refine V_imul (pc2 := 77) (dk D_X4_add 44 rfl) rfl ?_
  refine V_iconst (x := 1) (pc2 := 78) (dk D_X4_add 45 rfl) (by decide) rfl ?_
  refine V_iadd (pc2 := 79) (dk D_X4_add 46 rfl) rfl ?_
  refine V_iload_n (pc2 := 80) (dk D_X4_add 47 rfl) rfl (V_lg 2 rfl) rfl ?_
  obtain ⟨h5, h⟩ := h
  refine V_iast (pc2 := 81) (dk D_X4_add 48 rfl) rfl h2 h5 ?_
  have h := h _ rfl
  refine V_aload_n (pc2 := 82) (dk D_X4_add 49 rfl) rfl (V_lg 0 rfl) rfl ?_
  refine V_dup (pc2 := 83) (dk D_X4_add 50 rfl) rfl rfl ?_
  refine V_getI kc4 (pc2 := 86) 1 (dk D_X4_add 51 rfl) fl_4_15 (by decide) (fun _ => rfl) rfl h1 ?_
  refine V_iconst (x := 1) (pc2 := 87) (dk D_X4_add 52 rfl) (by decide) rfl ?_
  refine V_iadd (pc2 := 88) (dk D_X4_add 53 rfl) rfl ?_
  refine V_putI kc4 (pc2 := 91) 1 (dk D_X4_add 54 rfl) fl_4_15 (by decide) (Or.inl rfl) rfl rfl h1 ?_
  have h := h _ rfl
  exact V_return (dk D_X4_add 55 rfl) rfl h
def L_X4_total : List (Nat × Instr × Nat) := [(0, .aload_n 0, 1), (1, .getfield 19, 3), (4, .ireturn, 1)]
theorem D_X4_total : dOk cX4_total L_X4_total = true := by decide +kernel
theorem w_X4_total_0 {X : Cx} {d : Nat} {S : Mem} {Q : Res → Mem → Prop} (r0 : Nat) (h : (isK S r0 4) ∧ Q (.inl (some (vI (gI S r0 2)))) S) : V X d MX4_total 0 [(0, vR r0)] [] S Q := by
  refine V_aload_n (pc2 := 1) (dk D_X4_total 0 rfl) rfl (V_lg 0 rfl) rfl ?_
  obtain ⟨h1, h⟩ := h
  refine V_getI kc4 (pc2 := 4) 2 (dk D_X4_total 1 rfl) fl_4_19 (by decide) (fun _ => rfl) rfl h1 ?_
  exact V_ireturn (dk D_X4_total 2 rfl) rfl h
def L_X4_kept : List (Nat × Instr × Nat) := [(0, .aload_n 0, 1), (1, .getfield 15, 3), (4, .ireturn, 1)]
theorem D_X4_kept : dOk cX4_kept L_X4_kept = true := by decide +kernel
theorem w_X4_kept_0 {X : Cx} {d : Nat} {S : Mem} {Q : Res → Mem → Prop} (r0 : Nat) (h : (isK S r0 4) ∧ Q (.inl (some (vI (gI S r0 1)))) S) : V X d MX4_kept 0 [(0, vR r0)] [] S Q := by
  refine V_aload_n (pc2 := 1) (dk D_X4_kept 0 rfl) rfl (V_lg 0 rfl) rfl ?_
  obtain ⟨h1, h⟩ := h
  refine V_getI kc4 (pc2 := 4) 1 (dk D_X4_kept 1 rfl) fl_4_15 (by decide) (fun _ => rfl) rfl h1 ?_
  exact V_ireturn (dk D_X4_kept 2 rfl) rfl h
def L_X4_get : List (Nat × Instr × Nat) := [(0, .iconst 2, 1), (1, .iload_n 1, 1), (2, .imul, 1), (3, .iload_n 2, 1), (4, .iadd, 1), (5, .istore_n 3, 1), (6, .iload_n 3, 1), (7, .ifCond .lt 12, 3), (10, .iload_n 3, 1), (11, .aload_n 0, 1), (12, .getfield 9, 3), (15, .arraylength, 1), (16, .if_icmp .lt 8, 3), (19, .bipush (-9), 2), (21, .goto 9, 3), (24, .aload_n 0, 1), (25, .getfield 9, 3), (28, .iload_n 3, 1), (29, .iaload, 1), (30, .ireturn, 1)]
theorem D_X4_get : dOk cX4_get L_X4_get = true := by decide +kernel
theorem w_X4_get_0 {X : Cx} {d : Nat} {S : Mem} {Q : Res → Mem → Prop} (r0 : Nat) (x1 : Int32) (x2 : Int32) (h : ((((2 * x1) + x2) < 0 → V X d MX4_get 19 [(0, vR r0), (1, vI x1), (2, vI x2), (3, vI ((2 * x1) + x2))] [] S Q) ∧ (¬ ((2 * x1) + x2) < 0 → (isK S r0 4) ∧ (isK S (gR S r0 0) 21) ∧ ((((2 * x1) + x2) < (nI (gN S (gR S r0 0))) → (vp_in ((2 * x1) + x2) (gN S (gR S r0 0))) ∧ V X d MX4_get 30 [(0, vR r0), (1, vI x1), (2, vI x2), (3, vI ((2 * x1) + x2))] [vI (gI S (gR S r0 0) (((2 * x1) + x2) : Int32).toNatClampNeg)] S Q) ∧ (¬ ((2 * x1) + x2) < (nI (gN S (gR S r0 0))) → V X d MX4_get 19 [(0, vR r0), (1, vI x1), (2, vI x2), (3, vI ((2 * x1) + x2))] [] S Q))))) : V X d MX4_get 0 [(0, vR r0), (1, vI x1), (2, vI x2)] [] S Q := by
  refine V_iconst (x := 2) (pc2 := 1) (dk D_X4_get 0 rfl) (by decide) rfl ?_
  refine V_iload_n (pc2 := 2) (dk D_X4_get 1 rfl) rfl (V_lg 1 rfl) rfl ?_
  refine V_imul (pc2 := 3) (dk D_X4_get 2 rfl) rfl ?_
  refine V_iload_n (pc2 := 4) (dk D_X4_get 3 rfl) rfl (V_lg 2 rfl) rfl ?_
  refine V_iadd (pc2 := 5) (dk D_X4_get 4 rfl) rfl ?_
  refine V_istore_n (pc2 := 6) (lv2 := [(0, _), (1, _), (2, _), (3, _)]) (dk D_X4_get 5 rfl) rfl (by decide) rfl rfl ?_
  refine V_iload_n (pc2 := 7) (dk D_X4_get 6 rfl) rfl (V_lg 3 rfl) rfl ?_
  refine V_iflt (tgt := 19) (pc2 := 10) (dk D_X4_get 7 rfl) (by decide) rfl (fun q1 => ?_) (fun q1 => ?_)
  · have h := h.1 q1
    exact h
  · have h := h.2 q1
    refine V_iload_n (pc2 := 11) (dk D_X4_get 8 rfl) rfl (V_lg 3 rfl) rfl ?_
    refine V_aload_n (pc2 := 12) (dk D_X4_get 9 rfl) rfl (V_lg 0 rfl) rfl ?_
    obtain ⟨h2, h⟩ := h
    refine V_getR kc4 (pc2 := 15) 0 (dk D_X4_get 10 rfl) fl_4_9 (by decide) (fun _ => rfl) rfl h2 ?_
    obtain ⟨h3, h⟩ := h
    refine V_alenI (pc2 := 16) (dk D_X4_get 11 rfl) rfl h3 ?_
    refine V_cmplt (tgt := 24) (pc2 := 19) (dk D_X4_get 12 rfl) (by decide) rfl (fun q4 => ?_) (fun q4 => ?_)
    · have h := h.1 q4
      refine V_aload_n (pc2 := 25) (dk D_X4_get 15 rfl) rfl (V_lg 0 rfl) rfl ?_
      refine V_getR kc4 (pc2 := 28) 0 (dk D_X4_get 16 rfl) fl_4_9 (by decide) (fun _ => rfl) rfl h2 ?_
      refine V_iload_n (pc2 := 29) (dk D_X4_get 17 rfl) rfl (V_lg 3 rfl) rfl ?_
      obtain ⟨h5, h⟩ := h
      refine V_iald (pc2 := 30) (dk D_X4_get 18 rfl) rfl h3 h5 ?_
      exact h
    · have h := h.2 q4
      exact h
theorem w_X4_get_19 {X : Cx} {d : Nat} {S : Mem} {Q : Res → Mem → Prop} (r0 : Nat) (x1 : Int32) (x2 : Int32) (x3 : Int32) (h : V X d MX4_get 30 [(0, vR r0), (1, vI x1), (2, vI x2), (3, vI x3)] [vI (-9)] S Q) : V X d MX4_get 19 [(0, vR r0), (1, vI x1), (2, vI x2), (3, vI x3)] [] S Q := by
  refine V_bipush (x := (-9)) (pc2 := 21) (dk D_X4_get 13 rfl) (by decide) rfl ?_
  refine V_goto (tgt := 30) (dk D_X4_get 14 rfl) (by decide) ?_
  exact h
theorem w_X4_get_30 {X : Cx} {d : Nat} {S : Mem} {Q : Res → Mem → Prop} (r0 : Nat) (x1 : Int32) (x2 : Int32) (x3 : Int32) (t0 : Int32) (h : Q (.inl (some (vI t0))) S) : V X d MX4_get 30 [(0, vR r0), (1, vI x1), (2, vI x2), (3, vI x3)] [vI t0] S Q := by
  exact V_ireturn (dk D_X4_get 19 rfl) rfl h
def L_X4_mixInto : List (Nat × Instr × Nat) := [(0, .lload_n 1, 1), (1, .lstore_n 3, 1), (2, .iconst 0, 1), (3, .istore 5, 2), (5, .iload 5, 2), (7, .iconst 2, 1), (8, .aload_n 0, 1), (9, .getfield 15, 3), (12, .imul, 1), (13, .if_icmp .ge 34, 3), (16, .iload 5, 2), (18, .aload_n 0, 1), (19, .getfield 9, 3), (22, .arraylength, 1), (23, .if_icmp .ge 24, 3), (26, .ldc2_w 28, 3), (29, .lload_n 3, 1), (30, .lmul, 1), (31, .aload_n 0, 1), (32, .getfield 9, 3), (35, .iload 5, 2), (37, .iaload, 1), (38, .i2l, 1), (39, .ladd, 1), (40, .lstore_n 3, 1), (41, .iinc 5 1, 3), (44, .goto (-39), 3), (47, .lload_n 3, 1), (48, .lreturn, 1)]
theorem D_X4_mixInto : dOk cX4_mixInto L_X4_mixInto = true := by decide +kernel
theorem w_X4_mixInto_0 {X : Cx} {d : Nat} {S : Mem} {Q : Res → Mem → Prop} (r0 : Nat) (l1 : Int64) (h : V X d MX4_mixInto 5 [(0, vR r0), (1, vL l1), (3, vL l1), (5, vI 0)] [] S Q) : V X d MX4_mixInto 0 [(0, vR r0), (1, vL l1)] [] S Q := by
  refine V_lload_n (pc2 := 1) (dk D_X4_mixInto 0 rfl) rfl (V_lg 1 rfl) rfl ?_
  refine V_lstore_n (pc2 := 2) (lv2 := [(0, _), (1, _), (3, _)]) (dk D_X4_mixInto 1 rfl) rfl (by decide) rfl rfl ?_
  refine V_iconst (x := 0) (pc2 := 3) (dk D_X4_mixInto 2 rfl) (by decide) rfl ?_
  refine V_istore (pc2 := 5) (lv2 := [(0, _), (1, _), (3, _), (5, _)]) (dk D_X4_mixInto 3 rfl) (by decide) rfl rfl ?_
  exact h
theorem w_X4_mixInto_5 {X : Cx} {d : Nat} {S : Mem} {Q : Res → Mem → Prop} (r0 : Nat) (l1 : Int64) (l3 : Int64) (x5 : Int32) (h : (isK S r0 4) ∧ (((2 * (gI S r0 1)) ≤ x5 → V X d MX4_mixInto 47 [(0, vR r0), (1, vL l1), (3, vL l3), (5, vI x5)] [] S Q) ∧ (¬ (2 * (gI S r0 1)) ≤ x5 → (isK S (gR S r0 0) 21) ∧ (((nI (gN S (gR S r0 0))) ≤ x5 → V X d MX4_mixInto 47 [(0, vR r0), (1, vL l1), (3, vL l3), (5, vI x5)] [] S Q) ∧ (¬ (nI (gN S (gR S r0 0))) ≤ x5 → (vp_in x5 (gN S (gR S r0 0))) ∧ V X d MX4_mixInto 5 [(0, vR r0), (1, vL l1), (3, vL ((31 * l3) + (((gI S (gR S r0 0) (x5 : Int32).toNatClampNeg) : Int32).toInt64))), (5, vI (x5 + 1))] [] S Q))))) : V X d MX4_mixInto 5 [(0, vR r0), (1, vL l1), (3, vL l3), (5, vI x5)] [] S Q := by
  refine V_iload (pc2 := 7) (dk D_X4_mixInto 4 rfl) (V_lg 3 rfl) rfl ?_
  refine V_iconst (x := 2) (pc2 := 8) (dk D_X4_mixInto 5 rfl) (by decide) rfl ?_
  refine V_aload_n (pc2 := 9) (dk D_X4_mixInto 6 rfl) rfl (V_lg 0 rfl) rfl ?_
  obtain ⟨h1, h⟩ := h
  refine V_getI kc4 (pc2 := 12) 1 (dk D_X4_mixInto 7 rfl) fl_4_15 (by decide) (fun _ => rfl) rfl h1 ?_
  refine V_imul (pc2 := 13) (dk D_X4_mixInto 8 rfl) rfl ?_
  refine V_cmpge (tgt := 47) (pc2 := 16) (dk D_X4_mixInto 9 rfl) (by decide) rfl (fun q2 => ?_) (fun q2 => ?_)
  · have h := h.1 q2
    exact h
  · have h := h.2 q2
    refine V_iload (pc2 := 18) (dk D_X4_mixInto 10 rfl) (V_lg 3 rfl) rfl ?_
    refine V_aload_n (pc2 := 19) (dk D_X4_mixInto 11 rfl) rfl (V_lg 0 rfl) rfl ?_
    refine V_getR kc4 (pc2 := 22) 0 (dk D_X4_mixInto 12 rfl) fl_4_9 (by decide) (fun _ => rfl) rfl h1 ?_
    obtain ⟨h3, h⟩ := h
    refine V_alenI (pc2 := 23) (dk D_X4_mixInto 13 rfl) rfl h3 ?_
    refine V_cmpge (tgt := 47) (pc2 := 26) (dk D_X4_mixInto 14 rfl) (by decide) rfl (fun q4 => ?_) (fun q4 => ?_)
    · have h := h.1 q4
      exact h
    · have h := h.2 q4
      refine V_ldc2 (x := 31) (pc2 := 29) (dk D_X4_mixInto 15 rfl) kl_4_28 rfl ?_
      refine V_lload_n (pc2 := 30) (dk D_X4_mixInto 16 rfl) rfl (V_lg 2 rfl) rfl ?_
      refine V_lmul (pc2 := 31) (dk D_X4_mixInto 17 rfl) rfl ?_
      refine V_aload_n (pc2 := 32) (dk D_X4_mixInto 18 rfl) rfl (V_lg 0 rfl) rfl ?_
      refine V_getR kc4 (pc2 := 35) 0 (dk D_X4_mixInto 19 rfl) fl_4_9 (by decide) (fun _ => rfl) rfl h1 ?_
      refine V_iload (pc2 := 37) (dk D_X4_mixInto 20 rfl) (V_lg 3 rfl) rfl ?_
      obtain ⟨h5, h⟩ := h
      refine V_iald (pc2 := 38) (dk D_X4_mixInto 21 rfl) rfl h3 h5 ?_
      refine V_i2l (pc2 := 39) (dk D_X4_mixInto 22 rfl) rfl ?_
      refine V_ladd (pc2 := 40) (dk D_X4_mixInto 23 rfl) rfl ?_
      refine V_lstore_n (pc2 := 41) (lv2 := [(0, _), (1, _), (3, _), (5, _)]) (dk D_X4_mixInto 24 rfl) rfl (by decide) rfl rfl ?_
      refine V_iinc (y := _ + 1) (pc2 := 44) (lv2 := [(0, _), (1, _), (3, _), (5, _)]) (dk D_X4_mixInto 25 rfl) (V_lg 3 rfl) rfl (by decide) rfl rfl ?_
      refine V_goto (tgt := 5) (dk D_X4_mixInto 26 rfl) (by decide) ?_
      exact h
theorem w_X4_mixInto_47 {X : Cx} {d : Nat} {S : Mem} {Q : Res → Mem → Prop} (r0 : Nat) (l1 : Int64) (l3 : Int64) (x5 : Int32) (h : Q (.inl (some (vL l3))) S) : V X d MX4_mixInto 47 [(0, vR r0), (1, vL l1), (3, vL l3), (5, vI x5)] [] S Q := by
  refine V_lload_n (pc2 := 48) (dk D_X4_mixInto 27 rfl) rfl (V_lg 2 rfl) rfl ?_
  exact V_lreturn (dk D_X4_mixInto 28 rfl) rfl h
