def L_J0_length_8abf5 : List (Nat × Instr × Nat) := [(0, .aload_n 0, 1), (1, .getfield 9, 3), (4, .arraylength, 1), (5, .aload_n 0, 1), (6, .invokevirtual 335, 3), (9, .ishr, 1), (10, .ireturn, 1)]
theorem D_J0_length_8abf5 : dOk cJ0_length_8abf5 L_J0_length_8abf5 = true := by decide +kernel
theorem w_J0_length_8abf5_0 {X : Cx} {d : Nat} {S : Mem} {Q : Res → Mem → Prop} (r0 : Nat) (h : (2 ≤ r0 ∧ r0 < 27) ∧ (28 ≤ (r0 + 26) ∧ (r0 + 26) < 53) ∧ (2 ≤ r0 ∧ r0 < 27) ∧ ∃ e3 : Nat, e3 + 1 ≤ d ∧ C X e3 MJ0_coder_7d493 [vR r0] S (RI fun y6 S7 => Q (.inl (some (vI ((nI (stN (r0 + 26))) >>> (y6 &&& 31))))) S7)) : V X d MJ0_length_8abf5 0 [(0, vR r0)] [] S Q := by
  refine V_aload_n (pc2 := 1) (dk D_J0_length_8abf5 0 rfl) rfl (V_lg 0 rfl) rfl ?_
  obtain ⟨h1, h⟩ := h
  refine V_txv h1.1 h1.2 (dk D_J0_length_8abf5 1 rfl) fl_17_9 (pc2 := 4) rfl ?_
  obtain ⟨h2, h⟩ := h
  refine V_txl h2.1 h2.2 (pc2 := 5) (dk D_J0_length_8abf5 2 rfl) rfl ?_
  refine V_aload_n (pc2 := 6) (dk D_J0_length_8abf5 3 rfl) rfl (V_lg 0 rfl) rfl ?_
  obtain ⟨h8, h⟩ := h
  obtain ⟨e3, he4, hc5⟩ := h
  refine V_callT h8.1 h8.2 (as := []) (st := [_]) (M' := MJ0_coder_7d493) (pc2 := 9) rfl (dk D_J0_length_8abf5 4 rfl) ml_17_335 mv_J0_coder_7d493 rfl rfl (Nat.le_of_ble_eq_true rfl) rfl he4 hc5 (RI.k fun y6 S7 h => ?_)
  refine V_ishr (pc2 := 10) (dk D_J0_length_8abf5 5 rfl) rfl ?_
  exact V_ireturn (dk D_J0_length_8abf5 6 rfl) rfl h
def L_J0_charAt_5068e : List (Nat × Instr × Nat) := [(0, .aload_n 0, 1), (1, .invokevirtual 492, 3), (4, .ifCond .eq 12, 3), (7, .aload_n 0, 1), (8, .getfield 9, 3), (11, .iload_n 1, 1), (12, .invokestatic 495, 3), (15, .ireturn, 1), (16, .aload_n 0, 1), (17, .getfield 9, 3), (20, .iload_n 1, 1), (21, .invokestatic 498, 3), (24, .ireturn, 1)]
theorem D_J0_charAt_5068e : dOk cJ0_charAt_5068e L_J0_charAt_5068e = true := by decide +kernel
theorem w_J0_charAt_5068e_0 {X : Cx} {d : Nat} {S : Mem} {Q : Res → Mem → Prop} (r0 : Nat) (x1 : Int32) (h : (2 ≤ r0 ∧ r0 < 27) ∧ ∃ e1 : Nat, e1 + 1 ≤ d ∧ C X e1 MJ0_isLatin1_aae02 [vR r0] S (RI fun y4 S5 => ((y4 = 0 → False) ∧ (¬ y4 = 0 → (2 ≤ r0 ∧ r0 < 27) ∧ ∃ e10 : Nat, e10 + 1 ≤ d ∧ C X e10 MJ1_charAt_3b067 [vR (r0 + 26), vI x1] S5 (RI fun y13 S14 => (narrow .char (.int y13) = .int y13) ∧ Q (.inl (some (vI y13))) S14))))) : V X d MJ0_charAt_5068e 0 [(0, vR r0), (1, vI x1)] [] S Q := by
  refine V_aload_n (pc2 := 1) (dk D_J0_charAt_5068e 0 rfl) rfl (V_lg 0 rfl) rfl ?_
  obtain ⟨h6, h⟩ := h
  obtain ⟨e1, he2, hc3⟩ := h
  refine V_callT h6.1 h6.2 (as := []) (st := []) (M' := MJ0_isLatin1_aae02) (pc2 := 4) rfl (dk D_J0_charAt_5068e 1 rfl) ml_17_492 mv_J0_isLatin1_aae02 rfl rfl (Nat.le_of_ble_eq_true rfl) rfl he2 hc3 (RI.k fun y4 S5 h => ?_)
  refine V_ifeq (tgt := 16) (pc2 := 7) (dk D_J0_charAt_5068e 2 rfl) (by decide) rfl (fun q7 => ?_) (fun q7 => ?_)
  · have h := h.1 q7
    exact False.elim h
  · have h := h.2 q7
    refine V_aload_n (pc2 := 8) (dk D_J0_charAt_5068e 3 rfl) rfl (V_lg 0 rfl) rfl ?_
    obtain ⟨h9, h⟩ := h
    refine V_txv h9.1 h9.2 (dk D_J0_charAt_5068e 4 rfl) fl_17_9 (pc2 := 11) rfl ?_
    refine V_iload_n (pc2 := 12) (dk D_J0_charAt_5068e 5 rfl) rfl (V_lg 1 rfl) rfl ?_
    obtain ⟨e10, he11, hc12⟩ := h
    refine V_callS (as := [_, _]) (st := []) (M' := MJ1_charAt_3b067) (pc2 := 15) (dk D_J0_charAt_5068e 6 rfl) ml_17_495 mv_J1_charAt_3b067 rfl rfl (Nat.le_of_ble_eq_true rfl) rfl he11 hc12 (RI.k fun y13 S14 h => ?_)
    obtain ⟨h15, h⟩ := h
    exact V_breturn .char (dk D_J0_charAt_5068e 7 rfl) rfl h15 h
def L_J0_coder_7d493 : List (Nat × Instr × Nat) := [(0, .getstatic 38, 3), (3, .ifCond .eq 10, 3), (6, .aload_n 0, 1), (7, .getfield 15, 3), (10, .goto 4, 3), (13, .iconst 1, 1), (14, .ireturn, 1)]
theorem D_J0_coder_7d493 : dOk cJ0_coder_7d493 L_J0_coder_7d493 = true := by decide +kernel
theorem w_J0_coder_7d493_0 {X : Cx} {d : Nat} {S : Mem} {Q : Res → Mem → Prop} (r0 : Nat) (h : (((1 : Int32) = 0 → V X d MJ0_coder_7d493 14 [(0, vR r0)] [vI 1] S Q) ∧ (¬ (1 : Int32) = 0 → (2 ≤ r0 ∧ r0 < 27) ∧ V X d MJ0_coder_7d493 14 [(0, vR r0)] [vI 0] S Q))) : V X d MJ0_coder_7d493 0 [(0, vR r0)] [] S Q := by
  refine V_compact (pc2 := 3) (dk D_J0_coder_7d493 0 rfl) fl_17_38 rfl ?_
  refine V_ifeq (tgt := 13) (pc2 := 6) (dk D_J0_coder_7d493 1 rfl) (by decide) rfl (fun q1 => ?_) (fun q1 => ?_)
  · have h := h.1 q1
    refine V_iconst (x := 1) (pc2 := 14) (dk D_J0_coder_7d493 5 rfl) (by decide) rfl ?_
    exact h
  · have h := h.2 q1
    refine V_aload_n (pc2 := 7) (dk D_J0_coder_7d493 2 rfl) rfl (V_lg 0 rfl) rfl ?_
    obtain ⟨h2, h⟩ := h
    refine V_txc h2.1 h2.2 (dk D_J0_coder_7d493 3 rfl) fl_17_15 (pc2 := 10) rfl ?_
    refine V_goto (tgt := 14) (dk D_J0_coder_7d493 4 rfl) (by decide) ?_
    exact h
theorem w_J0_coder_7d493_14 {X : Cx} {d : Nat} {S : Mem} {Q : Res → Mem → Prop} (r0 : Nat) (t0 : Int32) (h : (narrow .byte (.int t0) = .int t0) ∧ Q (.inl (some (vI t0))) S) : V X d MJ0_coder_7d493 14 [(0, vR r0)] [vI t0] S Q := by
  obtain ⟨h1, h⟩ := h
  exact V_breturn .byte (dk D_J0_coder_7d493 6 rfl) rfl h1 h
def L_J0_isLatin1_aae02 : List (Nat × Instr × Nat) := [(0, .getstatic 38, 3), (3, .ifCond .eq 14, 3), (6, .aload_n 0, 1), (7, .getfield 15, 3), (10, .ifCond .ne 7, 3), (13, .iconst 1, 1), (14, .goto 4, 3), (17, .iconst 0, 1), (18, .ireturn, 1)]
theorem D_J0_isLatin1_aae02 : dOk cJ0_isLatin1_aae02 L_J0_isLatin1_aae02 = true := by decide +kernel
theorem w_J0_isLatin1_aae02_0 {X : Cx} {d : Nat} {S : Mem} {Q : Res → Mem → Prop} (r0 : Nat) (h : (((1 : Int32) = 0 → V X d MJ0_isLatin1_aae02 17 [(0, vR r0)] [] S Q) ∧ (¬ (1 : Int32) = 0 → (2 ≤ r0 ∧ r0 < 27) ∧ ((¬ (0 : Int32) = 0 → V X d MJ0_isLatin1_aae02 17 [(0, vR r0)] [] S Q) ∧ ((0 : Int32) = 0 → V X d MJ0_isLatin1_aae02 18 [(0, vR r0)] [vI 1] S Q))))) : V X d MJ0_isLatin1_aae02 0 [(0, vR r0)] [] S Q := by
  refine V_compact (pc2 := 3) (dk D_J0_isLatin1_aae02 0 rfl) fl_17_38 rfl ?_
  refine V_ifeq (tgt := 17) (pc2 := 6) (dk D_J0_isLatin1_aae02 1 rfl) (by decide) rfl (fun q1 => ?_) (fun q1 => ?_)
  · have h := h.1 q1
    exact h
  · have h := h.2 q1
    refine V_aload_n (pc2 := 7) (dk D_J0_isLatin1_aae02 2 rfl) rfl (V_lg 0 rfl) rfl ?_
    obtain ⟨h2, h⟩ := h
    refine V_txc h2.1 h2.2 (dk D_J0_isLatin1_aae02 3 rfl) fl_17_15 (pc2 := 10) rfl ?_
    refine V_ifne (tgt := 17) (pc2 := 13) (dk D_J0_isLatin1_aae02 4 rfl) (by decide) rfl (fun q3 => ?_) (fun q3 => ?_)
    · have h := h.1 q3
      exact h
    · have h := h.2 q3
      refine V_iconst (x := 1) (pc2 := 14) (dk D_J0_isLatin1_aae02 5 rfl) (by decide) rfl ?_
      refine V_goto (tgt := 18) (dk D_J0_isLatin1_aae02 6 rfl) (by decide) ?_
      exact h
theorem w_J0_isLatin1_aae02_18 {X : Cx} {d : Nat} {S : Mem} {Q : Res → Mem → Prop} (r0 : Nat) (t0 : Int32) (h : (t0 = 0 ∨ t0 = 1) ∧ Q (.inl (some (vI t0))) S) : V X d MJ0_isLatin1_aae02 18 [(0, vR r0)] [vI t0] S Q := by
  obtain ⟨h1, h⟩ := h
  exact V_zreturn (dk D_J0_isLatin1_aae02 8 rfl) rfl h1 h
def L_J0_checkIndex_df160 : List (Nat × Instr × Nat) := [(0, .iload_n 0, 1), (1, .iload_n 1, 1), (2, .getstatic 1053, 3), (5, .invokestatic 1059, 3), (8, .pop, 1), (9, .return_, 1)]
theorem D_J0_checkIndex_df160 : dOk cJ0_checkIndex_df160 L_J0_checkIndex_df160 = true := by decide +kernel
theorem w_J0_checkIndex_df160_0 {X : Cx} {d : Nat} {S : Mem} {Q : Res → Mem → Prop} (x0 : Int32) (x1 : Int32) (h : ∀ r1 : Nat, r1 = 0 ∨ r1 = 55 → ∃ e3 : Nat, e3 + 1 ≤ d ∧ C X e3 MJ3_checkIndex_8e157 [vI x0, vI x1, vR r1] S (RI fun y6 S7 => Q (.inl none) S7)) : V X d MJ0_checkIndex_df160 0 [(0, vI x0), (1, vI x1)] [] S Q := by
  refine V_iload_n (pc2 := 1) (dk D_J0_checkIndex_df160 0 rfl) rfl (V_lg 0 rfl) rfl ?_
  refine V_iload_n (pc2 := 2) (dk D_J0_checkIndex_df160 1 rfl) rfl (V_lg 1 rfl) rfl ?_
  refine V_sio (pc2 := 5) (dk D_J0_checkIndex_df160 2 rfl) fl_17_1053 rfl (fun r1 hr2 => ?_)
  have h := h r1 hr2
  obtain ⟨e3, he4, hc5⟩ := h
  refine V_callS (as := [_, _, _]) (st := []) (M' := MJ3_checkIndex_8e157) (pc2 := 8) (dk D_J0_checkIndex_df160 3 rfl) ml_17_1059 mv_J3_checkIndex_8e157 rfl rfl (Nat.le_of_ble_eq_true rfl) rfl he4 hc5 (RI.k fun y6 S7 h => ?_)
  refine V_pop (pc2 := 9) (dk D_J0_checkIndex_df160 4 rfl) rfl rfl ?_
  exact V_return (dk D_J0_checkIndex_df160 5 rfl) rfl h
def L_J1_charAt_3b067 : List (Nat × Instr × Nat) := [(0, .iload_n 1, 1), (1, .aload_n 0, 1), (2, .arraylength, 1), (3, .invokestatic 9, 3), (6, .aload_n 0, 1), (7, .iload_n 1, 1), (8, .baload, 1), (9, .sipush 255, 3), (12, .iand, 1), (13, .i2c, 1), (14, .ireturn, 1)]
theorem D_J1_charAt_3b067 : dOk cJ1_charAt_3b067 L_J1_charAt_3b067 = true := by decide +kernel
theorem w_J1_charAt_3b067_0 {X : Cx} {d : Nat} {S : Mem} {Q : Res → Mem → Prop} (r0 : Nat) (x1 : Int32) (h : (28 ≤ r0 ∧ r0 < 53) ∧ ∃ e2 : Nat, e2 + 1 ≤ d ∧ C X e2 MJ0_checkIndex_df160 [vI x1, vI (nI (stN r0))] S (RV fun  S5 => (28 ≤ r0 ∧ r0 < 53) ∧ (vp_in x1 (stN r0)) ∧ (narrow .char (.int (((((stB r0 (x1 : Int32).toNatClampNeg) &&& 255) : Int32).toUInt32 % 65536).toInt32)) = .int (((((stB r0 (x1 : Int32).toNatClampNeg) &&& 255) : Int32).toUInt32 % 65536).toInt32)) ∧ Q (.inl (some (vI (((((stB r0 (x1 : Int32).toNatClampNeg) &&& 255) : Int32).toUInt32 % 65536).toInt32)))) S5)) : V X d MJ1_charAt_3b067 0 [(0, vR r0), (1, vI x1)] [] S Q := by
  refine V_iload_n (pc2 := 1) (dk D_J1_charAt_3b067 0 rfl) rfl (V_lg 1 rfl) rfl ?_
  refine V_aload_n (pc2 := 2) (dk D_J1_charAt_3b067 1 rfl) rfl (V_lg 0 rfl) rfl ?_
  obtain ⟨h1, h⟩ := h
  refine V_txl h1.1 h1.2 (pc2 := 3) (dk D_J1_charAt_3b067 2 rfl) rfl ?_
  obtain ⟨e2, he3, hc4⟩ := h
  refine V_callS (as := [_, _]) (st := []) (M' := MJ0_checkIndex_df160) (pc2 := 6) (dk D_J1_charAt_3b067 3 rfl) ml_18_9 mv_J0_checkIndex_df160 rfl rfl (Nat.le_of_ble_eq_true rfl) rfl he3 hc4 (RV.k fun  S5 h => ?_)
  refine V_aload_n (pc2 := 7) (dk D_J1_charAt_3b067 4 rfl) rfl (V_lg 0 rfl) rfl ?_
  refine V_iload_n (pc2 := 8) (dk D_J1_charAt_3b067 5 rfl) rfl (V_lg 1 rfl) rfl ?_
  obtain ⟨h6, h⟩ := h
  obtain ⟨h7, h⟩ := h
  refine V_txb h6.1 h6.2 (pc2 := 9) (dk D_J1_charAt_3b067 6 rfl) rfl h7 (stN_lt _) ?_
  refine V_sipush (x := 255) (pc2 := 12) (dk D_J1_charAt_3b067 7 rfl) (by decide) rfl ?_
  refine V_iand (pc2 := 13) (dk D_J1_charAt_3b067 8 rfl) rfl ?_
  refine V_i2c (pc2 := 14) (dk D_J1_charAt_3b067 9 rfl) rfl ?_
  obtain ⟨h8, h⟩ := h
  exact V_breturn .char (dk D_J1_charAt_3b067 10 rfl) rfl h8 h
def L_J3_checkIndex_8e157 : List (Nat × Instr × Nat) := [(0, .iload_n 0, 1), (1, .ifCond .lt 8, 3), (4, .iload_n 0, 1), (5, .iload_n 1, 1), (6, .if_icmp .lt 10, 3), (9, .aload_n 2, 1), (10, .iload_n 0, 1), (11, .iload_n 1, 1), (12, .invokestatic 95, 3), (15, .athrow, 1), (16, .iload_n 0, 1), (17, .ireturn, 1)]
theorem D_J3_checkIndex_8e157 : dOk cJ3_checkIndex_8e157 L_J3_checkIndex_8e157 = true := by decide +kernel
theorem w_J3_checkIndex_8e157_0 {X : Cx} {d : Nat} {S : Mem} {Q : Res → Mem → Prop} (x0 : Int32) (x1 : Int32) (r2 : Nat) (h : ((x0 < 0 → V X d MJ3_checkIndex_8e157 9 [(0, vI x0), (1, vI x1), (2, vR r2)] [] S Q) ∧ (¬ x0 < 0 → ((x0 < x1 → Q (.inl (some (vI x0))) S) ∧ (¬ x0 < x1 → V X d MJ3_checkIndex_8e157 9 [(0, vI x0), (1, vI x1), (2, vR r2)] [] S Q))))) : V X d MJ3_checkIndex_8e157 0 [(0, vI x0), (1, vI x1), (2, vR r2)] [] S Q := by
  refine V_iload_n (pc2 := 1) (dk D_J3_checkIndex_8e157 0 rfl) rfl (V_lg 0 rfl) rfl ?_
  refine V_iflt (tgt := 9) (pc2 := 4) (dk D_J3_checkIndex_8e157 1 rfl) (by decide) rfl (fun q1 => ?_) (fun q1 => ?_)
  · have h := h.1 q1
    exact h
  · have h := h.2 q1
    refine V_iload_n (pc2 := 5) (dk D_J3_checkIndex_8e157 2 rfl) rfl (V_lg 0 rfl) rfl ?_
    refine V_iload_n (pc2 := 6) (dk D_J3_checkIndex_8e157 3 rfl) rfl (V_lg 1 rfl) rfl ?_
    refine V_cmplt (tgt := 16) (pc2 := 9) (dk D_J3_checkIndex_8e157 4 rfl) (by decide) rfl (fun q2 => ?_) (fun q2 => ?_)
    · have h := h.1 q2
      refine V_iload_n (pc2 := 17) (dk D_J3_checkIndex_8e157 10 rfl) rfl (V_lg 0 rfl) rfl ?_
      exact V_ireturn (dk D_J3_checkIndex_8e157 11 rfl) rfl h
    · have h := h.2 q2
      exact h
def L_E2_init : List (Nat × Instr × Nat) := [(0, .aload_n 0, 1), (1, .invokespecial 1, 3), (4, .aload_n 0, 1), (5, .aload_n 0, 1), (6, .putfield 7, 3), (9, .aload_n 0, 1), (10, .getstatic 13, 3), (13, .putfield 17, 3), (16, .aload_n 0, 1), (17, .getstatic 20, 3), (20, .putfield 24, 3), (23, .iload 4, 2), (25, .ifCond .eq 11, 3), (28, .aload_n 0, 1), (29, .invokevirtual 27, 3), (32, .pop, 1), (33, .goto 8, 3), (36, .aload_n 0, 1), (37, .aconst_null, 1), (38, .putfield 17, 3), (41, .aload_n 0, 1), (42, .aload_n 1, 1), (43, .putfield 31, 3), (46, .aload_n 0, 1), (47, .aload_n 2, 1), (48, .putfield 7, 3), (51, .iload_n 3, 1), (52, .ifCond .ne 8, 3), (55, .aload_n 0, 1), (56, .aconst_null, 1), (57, .putfield 24, 3), (60, .return_, 1)]
theorem D_E2_init : dOk cE2_init L_E2_init = true := by decide +kernel
theorem w_E2_init_0 {X : Cx} {d : Nat} {S : Mem} {Q : Res → Mem → Prop} (r0 : Nat) (r1 : Nat) (r2 : Nat) (x3 : Int32) (x4 : Int32) (h : (1 ≤ d) ∧ (r0 ≠ 0) ∧ (isK S r0 12) ∧ ∀ S4 : Mem, S4 = uR S r0 0 r0 → ∀ r5 : Nat, r5 = 0 ∨ r5 = 53 → ∀ S7 : Mem, S7 = uR S4 r0 1 r5 → ∀ r8 : Nat, r8 = 0 ∨ r8 = 54 → ∀ S10 : Mem, S10 = uR S7 r0 2 r8 → ((x4 = 0 → ∀ S12 : Mem, S12 = uR S10 r0 1 0 → V X d ME2_init 41 [(0, vR r0), (1, vR r1), (2, vR r2), (3, vI x3), (4, vI x4)] [] S12 Q) ∧ (¬ x4 = 0 → False))) : V X d ME2_init 0 [(0, vR r0), (1, vR r1), (2, vR r2), (3, vI x3), (4, vI x4)] [] S Q := by
  refine V_aload_n (pc2 := 1) (dk D_E2_init 0 rfl) rfl (V_lg 0 rfl) rfl ?_
  obtain ⟨h1, h⟩ := h
  obtain ⟨h2, h⟩ := h
  refine V_obj (pc2 := 4) (dk D_E2_init 1 rfl) ml_22_1 oi_i oi_c rfl (Nat.le_of_ble_eq_true rfl) h1 h2 ?_
  refine V_aload_n (pc2 := 5) (dk D_E2_init 2 rfl) rfl (V_lg 0 rfl) rfl ?_
  refine V_aload_n (pc2 := 6) (dk D_E2_init 3 rfl) rfl (V_lg 0 rfl) rfl ?_
  obtain ⟨h3, h⟩ := h
  refine V_putR kc12 (pc2 := 9) 0 (dk D_E2_init 4 rfl) fl_22_7 (by decide) (Or.inl rfl) (Or.inl ⟨_, rfl⟩) rfl h3 ?_
  have h := h _ rfl
  refine V_aload_n (pc2 := 10) (dk D_E2_init 5 rfl) rfl (V_lg 0 rfl) rfl ?_
  refine V_unas (pc2 := 13) (dk D_E2_init 6 rfl) fl_22_13 rfl (fun r5 hr6 => ?_)
  have h := h r5 hr6
  refine V_putR kc12 (pc2 := 16) 1 (dk D_E2_init 7 rfl) fl_22_17 (by decide) (Or.inl rfl) (Or.inr ⟨_, rfl⟩) rfl h3 ?_
  have h := h _ rfl
  refine V_aload_n (pc2 := 17) (dk D_E2_init 8 rfl) rfl (V_lg 0 rfl) rfl ?_
  refine V_supp (pc2 := 20) (dk D_E2_init 9 rfl) fl_22_20 rfl (fun r8 hr9 => ?_)
  have h := h r8 hr9
  refine V_putR kc12 (pc2 := 23) 2 (dk D_E2_init 10 rfl) fl_22_24 (by decide) (Or.inl rfl) (Or.inl ⟨_, rfl⟩) rfl h3 ?_
  have h := h _ rfl
  refine V_iload (pc2 := 25) (dk D_E2_init 11 rfl) (V_lg 4 rfl) rfl ?_
  refine V_ifeq (tgt := 36) (pc2 := 28) (dk D_E2_init 12 rfl) (by decide) rfl (fun q11 => ?_) (fun q11 => ?_)
  · have h := h.1 q11
    refine V_aload_n (pc2 := 37) (dk D_E2_init 17 rfl) rfl (V_lg 0 rfl) rfl ?_
    refine V_null (pc2 := 38) (dk D_E2_init 18 rfl) rfl ?_
    refine V_putR kc12 (pc2 := 41) 1 (dk D_E2_init 19 rfl) fl_22_17 (by decide) (Or.inl rfl) (Or.inr ⟨_, rfl⟩) rfl h3 ?_
    have h := h _ rfl
    exact h
  · have h := h.2 q11
    exact False.elim h
theorem w_E2_init_41 {X : Cx} {d : Nat} {S : Mem} {Q : Res → Mem → Prop} (r0 : Nat) (r1 : Nat) (r2 : Nat) (x3 : Int32) (x4 : Int32) (h : (isK S r0 12) ∧ ∀ S2 : Mem, S2 = uR S r0 3 r1 → ∀ S3 : Mem, S3 = uR S2 r0 0 r2 → ((¬ x3 = 0 → V X d ME2_init 60 [(0, vR r0), (1, vR r1), (2, vR r2), (3, vI x3), (4, vI x4)] [] S3 Q) ∧ (x3 = 0 → ∀ S5 : Mem, S5 = uR S3 r0 2 0 → V X d ME2_init 60 [(0, vR r0), (1, vR r1), (2, vR r2), (3, vI x3), (4, vI x4)] [] S5 Q))) : V X d ME2_init 41 [(0, vR r0), (1, vR r1), (2, vR r2), (3, vI x3), (4, vI x4)] [] S Q := by
  refine V_aload_n (pc2 := 42) (dk D_E2_init 20 rfl) rfl (V_lg 0 rfl) rfl ?_
  refine V_aload_n (pc2 := 43) (dk D_E2_init 21 rfl) rfl (V_lg 1 rfl) rfl ?_
  obtain ⟨h1, h⟩ := h
  refine V_putR kc12 (pc2 := 46) 3 (dk D_E2_init 22 rfl) fl_22_31 (by decide) (Or.inl rfl) (Or.inl ⟨_, rfl⟩) rfl h1 ?_
  have h := h _ rfl
  refine V_aload_n (pc2 := 47) (dk D_E2_init 23 rfl) rfl (V_lg 0 rfl) rfl ?_
  refine V_aload_n (pc2 := 48) (dk D_E2_init 24 rfl) rfl (V_lg 2 rfl) rfl ?_
  refine V_putR kc12 (pc2 := 51) 0 (dk D_E2_init 25 rfl) fl_22_7 (by decide) (Or.inl rfl) (Or.inl ⟨_, rfl⟩) rfl h1 ?_
  have h := h _ rfl
  refine V_iload_n (pc2 := 52) (dk D_E2_init 26 rfl) rfl (V_lg 3 rfl) rfl ?_
  refine V_ifne (tgt := 60) (pc2 := 55) (dk D_E2_init 27 rfl) (by decide) rfl (fun q4 => ?_) (fun q4 => ?_)
  · have h := h.1 q4
    exact h
  · have h := h.2 q4
    refine V_aload_n (pc2 := 56) (dk D_E2_init 28 rfl) rfl (V_lg 0 rfl) rfl ?_
    refine V_null (pc2 := 57) (dk D_E2_init 29 rfl) rfl ?_
    refine V_putR kc12 (pc2 := 60) 2 (dk D_E2_init 30 rfl) fl_22_24 (by decide) (Or.inl rfl) (Or.inl ⟨_, rfl⟩) rfl h1 ?_
    have h := h _ rfl
    exact h
theorem w_E2_init_60 {X : Cx} {d : Nat} {S : Mem} {Q : Res → Mem → Prop} (r0 : Nat) (r1 : Nat) (r2 : Nat) (x3 : Int32) (x4 : Int32) (h : Q (.inl none) S) : V X d ME2_init 60 [(0, vR r0), (1, vR r1), (2, vR r2), (3, vI x3), (4, vI x4)] [] S Q := by
  exact V_return (dk D_E2_init 31 rfl) rfl h
def L_E1_init : List (Nat × Instr × Nat) := [(0, .aload_n 0, 1), (1, .aload_n 1, 1), (2, .aload_n 2, 1), (3, .iload_n 3, 1), (4, .iload 4, 2), (6, .invokespecial 16, 3), (9, .return_, 1)]
theorem D_E1_init : dOk cE1_init L_E1_init = true := by decide +kernel
theorem w_E1_init_0 {X : Cx} {d : Nat} {S : Mem} {Q : Res → Mem → Prop} (r0 : Nat) (r1 : Nat) (r2 : Nat) (x3 : Int32) (x4 : Int32) (h : (r0 ≠ 0) ∧ ∃ e1 : Nat, e1 + 1 ≤ d ∧ C X e1 ME2_init [vR r0, vR r1, vR r2, vI x3, vI x4] S (RV fun  S4 => Q (.inl none) S4)) : V X d ME1_init 0 [(0, vR r0), (1, vR r1), (2, vR r2), (3, vI x3), (4, vI x4)] [] S Q := by
  refine V_aload_n (pc2 := 1) (dk D_E1_init 0 rfl) rfl (V_lg 0 rfl) rfl ?_
  refine V_aload_n (pc2 := 2) (dk D_E1_init 1 rfl) rfl (V_lg 1 rfl) rfl ?_
  refine V_aload_n (pc2 := 3) (dk D_E1_init 2 rfl) rfl (V_lg 2 rfl) rfl ?_
  refine V_iload_n (pc2 := 4) (dk D_E1_init 3 rfl) rfl (V_lg 3 rfl) rfl ?_
  refine V_iload (pc2 := 6) (dk D_E1_init 4 rfl) (V_lg 4 rfl) rfl ?_
  obtain ⟨h5, h⟩ := h
  obtain ⟨e1, he2, hc3⟩ := h
  refine V_callI (as := [_, _, _, _]) (st := []) (M' := ME2_init) (pc2 := 9) (dk D_E1_init 5 rfl) ml_21_16 mv_E2_init rfl rfl rfl (Nat.le_of_ble_eq_true rfl) rfl he2 h5 hc3 (RV.k fun  S4 h => ?_)
  exact V_return (dk D_E1_init 6 rfl) rfl h
def L_E0_init : List (Nat × Instr × Nat) := [(0, .aload_n 0, 1), (1, .aload_n 1, 1), (2, .aload_n 2, 1), (3, .iload_n 3, 1), (4, .iload 4, 2), (6, .invokespecial 16, 3), (9, .return_, 1)]
theorem D_E0_init : dOk cE0_init L_E0_init = true := by decide +kernel
theorem w_E0_init_0 {X : Cx} {d : Nat} {S : Mem} {Q : Res → Mem → Prop} (r0 : Nat) (r1 : Nat) (r2 : Nat) (x3 : Int32) (x4 : Int32) (h : (r0 ≠ 0) ∧ ∃ e1 : Nat, e1 + 1 ≤ d ∧ C X e1 ME1_init [vR r0, vR r1, vR r2, vI x3, vI x4] S (RV fun  S4 => Q (.inl none) S4)) : V X d ME0_init 0 [(0, vR r0), (1, vR r1), (2, vR r2), (3, vI x3), (4, vI x4)] [] S Q := by
  refine V_aload_n (pc2 := 1) (dk D_E0_init 0 rfl) rfl (V_lg 0 rfl) rfl ?_
  refine V_aload_n (pc2 := 2) (dk D_E0_init 1 rfl) rfl (V_lg 1 rfl) rfl ?_
  refine V_aload_n (pc2 := 3) (dk D_E0_init 2 rfl) rfl (V_lg 2 rfl) rfl ?_
  refine V_iload_n (pc2 := 4) (dk D_E0_init 3 rfl) rfl (V_lg 3 rfl) rfl ?_
  refine V_iload (pc2 := 6) (dk D_E0_init 4 rfl) (V_lg 4 rfl) rfl ?_
  obtain ⟨h5, h⟩ := h
  obtain ⟨e1, he2, hc3⟩ := h
  refine V_callI (as := [_, _, _, _]) (st := []) (M' := ME1_init) (pc2 := 9) (dk D_E0_init 5 rfl) ml_20_16 mv_E1_init rfl rfl rfl (Nat.le_of_ble_eq_true rfl) rfl he2 h5 hc3 (RV.k fun  S4 h => ?_)
  exact V_return (dk D_E0_init 6 rfl) rfl h
def L_X12_init : List (Nat × Instr × Nat) := [(0, .aload_n 0, 1), (1, .aconst_null, 1), (2, .aconst_null, 1), (3, .iconst 0, 1), (4, .iconst 0, 1), (5, .invokespecial 1, 3), (8, .return_, 1)]
theorem D_X12_init : dOk cX12_init L_X12_init = true := by decide +kernel
theorem w_X12_init_0 {X : Cx} {d : Nat} {S : Mem} {Q : Res → Mem → Prop} (r0 : Nat) (h : (r0 ≠ 0) ∧ ∃ e1 : Nat, e1 + 1 ≤ d ∧ C X e1 ME0_init [vR r0, vR 0, vR 0, vI 0, vI 0] S (RV fun  S4 => Q (.inl none) S4)) : V X d MX12_init 0 [(0, vR r0)] [] S Q := by
  refine V_aload_n (pc2 := 1) (dk D_X12_init 0 rfl) rfl (V_lg 0 rfl) rfl ?_
  refine V_null (pc2 := 2) (dk D_X12_init 1 rfl) rfl ?_
  refine V_null (pc2 := 3) (dk D_X12_init 2 rfl) rfl ?_
  refine V_iconst (x := 0) (pc2 := 4) (dk D_X12_init 3 rfl) (by decide) rfl ?_
  refine V_iconst (x := 0) (pc2 := 5) (dk D_X12_init 4 rfl) (by decide) rfl ?_
  obtain ⟨h5, h⟩ := h
  obtain ⟨e1, he2, hc3⟩ := h
  refine V_callI (as := [_, _, _, _]) (st := []) (M' := ME0_init) (pc2 := 8) (dk D_X12_init 5 rfl) ml_12_1 mv_E0_init rfl rfl rfl (Nat.le_of_ble_eq_true rfl) rfl he2 h5 hc3 (RV.k fun  S4 h => ?_)
  exact V_return (dk D_X12_init 6 rfl) rfl h
def L_X9_init : List (Nat × Instr × Nat) := [(0, .aload_n 0, 1), (1, .invokespecial 1, 3), (4, .aload_n 0, 1), (5, .bipush 23, 2), (7, .newarray .long, 2), (9, .putfield 9, 3), (12, .aload_n 0, 1), (13, .bipush 64, 2), (15, .newarray .int, 2), (17, .putfield 13, 3), (20, .aload_n 0, 1), (21, .bipush 64, 2), (23, .newarray .int, 2), (25, .putfield 17, 3), (28, .aload_n 0, 1), (29, .bipush 64, 2), (31, .newarray .long, 2), (33, .putfield 20, 3), (36, .aload_n 0, 1), (37, .aload_n 1, 1), (38, .putfield 23, 3), (41, .lconst 0, 1), (42, .lstore_n 2, 1), (43, .iconst 0, 1), (44, .istore 4, 2), (46, .iconst 0, 1), (47, .istore 5, 2), (49, .iload 5, 2), (51, .ldc 27, 2), (53, .invokevirtual 29, 3), (56, .if_icmp .ge 63, 3), (59, .ldc 27, 2), (61, .iload 5, 2), (63, .invokevirtual 35, 3), (66, .istore 6, 2), (68, .iload 6, 2), (70, .bipush 32, 2), (72, .if_icmp .eq 21, 3), (75, .lload_n 2, 1), (76, .ldc2_w 39, 3), (79, .lmul, 1), (80, .iload 6, 2), (82, .bipush 97, 2), (84, .isub, 1), (85, .iconst 1, 1), (86, .iadd, 1), (87, .i2l, 1), (88, .ladd, 1), (89, .lstore_n 2, 1), (90, .goto 23, 3), (93, .iload 4, 2), (95, .bipush 23, 2), (97, .if_icmp .ge 16, 3), (100, .aload_n 0, 1), (101, .getfield 9, 3), (104, .iload 4, 2), (106, .lload_n 2, 1), (107, .lastore, 1), (108, .iinc 4 1, 3), (111, .lconst 0, 1), (112, .lstore_n 2, 1), (113, .iinc 5 1, 3), (116, .goto (-67), 3), (119, .return_, 1)]
theorem D_X9_init : dOk cX9_init L_X9_init = true := by decide +kernel
theorem w_X9_init_0 {X : Cx} {d : Nat} {S : Mem} {Q : Res → Mem → Prop} (r0 : Nat) (r1 : Nat) (h : (1 ≤ d) ∧ (r0 ≠ 0) ∧ ∀ S4 : Mem, S4 = nw S 22 23 23 → (isK S4 r0 9) ∧ ∀ S6 : Mem, S6 = uR S4 r0 1 (tp S) → ∀ S8 : Mem, S8 = nw S6 21 64 64 → ∀ S9 : Mem, S9 = uR S8 r0 2 (tp S6) → ∀ S11 : Mem, S11 = nw S9 21 64 64 → ∀ S12 : Mem, S12 = uR S11 r0 3 (tp S9) → ∀ S14 : Mem, S14 = nw S12 22 64 64 → ∀ S15 : Mem, S15 = uR S14 r0 4 (tp S12) → ∀ S16 : Mem, S16 = uR S15 r0 0 r1 → V X d MX9_init 49 [(0, vR r0), (1, vR r1), (2, vL 0), (4, vI 0), (5, vI 0)] [] S16 Q) : V X d MX9_init 0 [(0, vR r0), (1, vR r1)] [] S Q := by
  refine V_aload_n (pc2 := 1) (dk D_X9_init 0 rfl) rfl (V_lg 0 rfl) rfl ?_
  obtain ⟨h1, h⟩ := h
  obtain ⟨h2, h⟩ := h
  refine V_obj (pc2 := 4) (dk D_X9_init 1 rfl) ml_9_1 oi_i oi_c rfl (Nat.le_of_ble_eq_true rfl) h1 h2 ?_
  refine V_aload_n (pc2 := 5) (dk D_X9_init 2 rfl) rfl (V_lg 0 rfl) rfl ?_
  refine V_bipush (x := 23) (pc2 := 7) (dk D_X9_init 3 rfl) (by decide) rfl ?_
  have hd3 : decode MX9_init.2.1 7 = .ok (.newarray .long, 2) := dk D_X9_init 4 rfl
  refine V_newa22 (n := 23) (pc2 := 9) hd3 ac_22 rfl (litI 23) (Nat.le_of_ble_eq_true rfl) ?_
  have h := h _ rfl
  obtain ⟨h5, h⟩ := h
  refine V_putR kc9 (pc2 := 12) 1 (dk D_X9_init 5 rfl) fl_9_9 (by decide) (Or.inr ⟨rfl, rfl, rfl⟩) (Or.inr ⟨_, rfl⟩) rfl h5 ?_
  have h := h _ rfl
  refine V_aload_n (pc2 := 13) (dk D_X9_init 6 rfl) rfl (V_lg 0 rfl) rfl ?_
  refine V_bipush (x := 64) (pc2 := 15) (dk D_X9_init 7 rfl) (by decide) rfl ?_
  have hd7 : decode MX9_init.2.1 15 = .ok (.newarray .int, 2) := dk D_X9_init 8 rfl
  refine V_newa21 (n := 64) (pc2 := 17) hd7 ac_21 rfl (litI 64) (Nat.le_of_ble_eq_true rfl) ?_
  have h := h _ rfl
  refine V_putR kc9 (pc2 := 20) 2 (dk D_X9_init 9 rfl) fl_9_13 (by decide) (Or.inl rfl) (Or.inr ⟨_, rfl⟩) rfl (isK_nw h5) ?_
  have h := h _ rfl
  refine V_aload_n (pc2 := 21) (dk D_X9_init 10 rfl) rfl (V_lg 0 rfl) rfl ?_
  refine V_bipush (x := 64) (pc2 := 23) (dk D_X9_init 11 rfl) (by decide) rfl ?_
  have hd10 : decode MX9_init.2.1 23 = .ok (.newarray .int, 2) := dk D_X9_init 12 rfl
  refine V_newa21 (n := 64) (pc2 := 25) hd10 ac_21 rfl (litI 64) (Nat.le_of_ble_eq_true rfl) ?_
  have h := h _ rfl
  refine V_putR kc9 (pc2 := 28) 3 (dk D_X9_init 13 rfl) fl_9_17 (by decide) (Or.inl rfl) (Or.inr ⟨_, rfl⟩) rfl (isK_nw (isK_nw h5)) ?_
  have h := h _ rfl
  refine V_aload_n (pc2 := 29) (dk D_X9_init 14 rfl) rfl (V_lg 0 rfl) rfl ?_
  refine V_bipush (x := 64) (pc2 := 31) (dk D_X9_init 15 rfl) (by decide) rfl ?_
  have hd13 : decode MX9_init.2.1 31 = .ok (.newarray .long, 2) := dk D_X9_init 16 rfl
  refine V_newa22 (n := 64) (pc2 := 33) hd13 ac_22 rfl (litI 64) (Nat.le_of_ble_eq_true rfl) ?_
  have h := h _ rfl
  refine V_putR kc9 (pc2 := 36) 4 (dk D_X9_init 17 rfl) fl_9_20 (by decide) (Or.inl rfl) (Or.inr ⟨_, rfl⟩) rfl (isK_nw (isK_nw (isK_nw h5))) ?_
  have h := h _ rfl
  refine V_aload_n (pc2 := 37) (dk D_X9_init 18 rfl) rfl (V_lg 0 rfl) rfl ?_
  refine V_aload_n (pc2 := 38) (dk D_X9_init 19 rfl) rfl (V_lg 1 rfl) rfl ?_
  refine V_putR kc9 (pc2 := 41) 0 (dk D_X9_init 20 rfl) fl_9_23 (by decide) (Or.inr ⟨rfl, rfl, rfl⟩) (Or.inl ⟨_, rfl⟩) rfl (isK_nw (isK_nw (isK_nw h5))) ?_
  have h := h _ rfl
  refine V_lconst (x := 0) (pc2 := 42) (dk D_X9_init 21 rfl) (by decide) rfl ?_
  refine V_lstore_n (pc2 := 43) (lv2 := [(0, _), (1, _), (2, _)]) (dk D_X9_init 22 rfl) rfl (by decide) rfl rfl ?_
  refine V_iconst (x := 0) (pc2 := 44) (dk D_X9_init 23 rfl) (by decide) rfl ?_
  refine V_istore (pc2 := 46) (lv2 := [(0, _), (1, _), (2, _), (4, _)]) (dk D_X9_init 24 rfl) (by decide) rfl rfl ?_
  refine V_iconst (x := 0) (pc2 := 47) (dk D_X9_init 25 rfl) (by decide) rfl ?_
  refine V_istore (pc2 := 49) (lv2 := [(0, _), (1, _), (2, _), (4, _), (5, _)]) (dk D_X9_init 26 rfl) (by decide) rfl rfl ?_
  exact h
theorem w_X9_init_49 {X : Cx} {d : Nat} {S : Mem} {Q : Res → Mem → Prop} (r0 : Nat) (r1 : Nat) (l2 : Int64) (x4 : Int32) (x5 : Int32) (h : ∃ e1 : Nat, e1 + 1 ≤ d ∧ C X e1 MJ0_length_8abf5 [vR 2] S (RI fun y4 S5 => ((y4 ≤ x5 → Q (.inl none) S5) ∧ (¬ y4 ≤ x5 → ∃ e7 : Nat, e7 + 1 ≤ d ∧ C X e7 MJ0_charAt_5068e [vR 2, vI x5] S5 (RI fun y10 S11 => ((y10 = 32 → ((23 ≤ x4 → V X d MX9_init 113 [(0, vR r0), (1, vR r1), (2, vL l2), (4, vI x4), (5, vI x5), (6, vI y10)] [] S11 Q) ∧ (¬ 23 ≤ x4 → (isK S11 r0 9) ∧ (isK S11 (gR S11 r0 1) 22) ∧ (vp_in x4 (gN S11 (gR S11 r0 1))) ∧ ∀ S17 : Mem, S17 = uL S11 (gR S11 r0 1) ((x4 : Int32).toNatClampNeg) l2 → V X d MX9_init 113 [(0, vR r0), (1, vR r1), (2, vL 0), (4, vI (x4 + 1)), (5, vI x5), (6, vI y10)] [] S17 Q))) ∧ (¬ y10 = 32 → V X d MX9_init 113 [(0, vR r0), (1, vR r1), (2, vL ((l2 * 32) + ((((y10 - 97) + 1) : Int32).toInt64))), (4, vI x4), (5, vI x5), (6, vI y10)] [] S11 Q))))))) : V X d MX9_init 49 [(0, vR r0), (1, vR r1), (2, vL l2), (4, vI x4), (5, vI x5)] [] S Q := by
  refine V_iload (pc2 := 51) (dk D_X9_init 27 rfl) (V_lg 4 rfl) rfl ?_
  refine V_ldcs 0 (pc2 := 53) (dk D_X9_init 28 rfl) rfl rfl ?_
  obtain ⟨e1, he2, hc3⟩ := h
  refine V_callT (by decide) (by decide) (as := []) (st := [_]) (M' := MJ0_length_8abf5) (pc2 := 56) rfl (dk D_X9_init 29 rfl) ml_9_29 mv_J0_length_8abf5 rfl rfl (Nat.le_of_ble_eq_true rfl) rfl he2 hc3 (RI.k fun y4 S5 h => ?_)
  refine V_cmpge (tgt := 119) (pc2 := 59) (dk D_X9_init 30 rfl) (by decide) rfl (fun q6 => ?_) (fun q6 => ?_)
  · have h := h.1 q6
    exact V_return (dk D_X9_init 63 rfl) rfl h
  · have h := h.2 q6
    refine V_ldcs 0 (pc2 := 61) (dk D_X9_init 31 rfl) rfl rfl ?_
    refine V_iload (pc2 := 63) (dk D_X9_init 32 rfl) (V_lg 4 rfl) rfl ?_
    obtain ⟨e7, he8, hc9⟩ := h
    refine V_callT (by decide) (by decide) (as := [_]) (st := []) (M' := MJ0_charAt_5068e) (pc2 := 66) rfl (dk D_X9_init 33 rfl) ml_9_35 mv_J0_charAt_5068e rfl rfl (Nat.le_of_ble_eq_true rfl) rfl he8 hc9 (RI.k fun y10 S11 h => ?_)
    refine V_istore (pc2 := 68) (lv2 := [(0, _), (1, _), (2, _), (4, _), (5, _), (6, _)]) (dk D_X9_init 34 rfl) (by decide) rfl rfl ?_
    refine V_iload (pc2 := 70) (dk D_X9_init 35 rfl) (V_lg 5 rfl) rfl ?_
    refine V_bipush (x := 32) (pc2 := 72) (dk D_X9_init 36 rfl) (by decide) rfl ?_
    refine V_cmpeq (tgt := 93) (pc2 := 75) (dk D_X9_init 37 rfl) (by decide) rfl (fun q12 => ?_) (fun q12 => ?_)
    · have h := h.1 q12
      refine V_iload (pc2 := 95) (dk D_X9_init 50 rfl) (V_lg 3 rfl) rfl ?_
      refine V_bipush (x := 23) (pc2 := 97) (dk D_X9_init 51 rfl) (by decide) rfl ?_
      refine V_cmpge (tgt := 113) (pc2 := 100) (dk D_X9_init 52 rfl) (by decide) rfl (fun q13 => ?_) (fun q13 => ?_)
      · have h := h.1 q13
        exact h
      · have h := h.2 q13
        refine V_aload_n (pc2 := 101) (dk D_X9_init 53 rfl) rfl (V_lg 0 rfl) rfl ?_
        obtain ⟨h14, h⟩ := h
        refine V_getR kc9 (pc2 := 104) 1 (dk D_X9_init 54 rfl) fl_9_9 (by decide) (fun _ => rfl) rfl h14 ?_
        refine V_iload (pc2 := 106) (dk D_X9_init 55 rfl) (V_lg 3 rfl) rfl ?_
        refine V_lload_n (pc2 := 107) (dk D_X9_init 56 rfl) rfl (V_lg 2 rfl) rfl ?_
        obtain ⟨h15, h⟩ := h
        obtain ⟨h16, h⟩ := h
        refine V_last (pc2 := 108) (dk D_X9_init 57 rfl) rfl h15 h16 ?_
        have h := h _ rfl
        refine V_iinc (y := _ + 1) (pc2 := 111) (lv2 := [(0, _), (1, _), (2, _), (4, _), (5, _), (6, _)]) (dk D_X9_init 58 rfl) (V_lg 3 rfl) rfl (by decide) rfl rfl ?_
        refine V_lconst (x := 0) (pc2 := 112) (dk D_X9_init 59 rfl) (by decide) rfl ?_
        refine V_lstore_n (pc2 := 113) (lv2 := [(0, _), (1, _), (2, _), (4, _), (5, _), (6, _)]) (dk D_X9_init 60 rfl) rfl (by decide) rfl rfl ?_
        exact h
    · have h := h.2 q12
      refine V_lload_n (pc2 := 76) (dk D_X9_init 38 rfl) rfl (V_lg 2 rfl) rfl ?_
      refine V_ldc2 (x := 32) (pc2 := 79) (dk D_X9_init 39 rfl) kl_9_39 rfl ?_
      refine V_lmul (pc2 := 80) (dk D_X9_init 40 rfl) rfl ?_
      refine V_iload (pc2 := 82) (dk D_X9_init 41 rfl) (V_lg 5 rfl) rfl ?_
      refine V_bipush (x := 97) (pc2 := 84) (dk D_X9_init 42 rfl) (by decide) rfl ?_
      refine V_isub (pc2 := 85) (dk D_X9_init 43 rfl) rfl ?_
      refine V_iconst (x := 1) (pc2 := 86) (dk D_X9_init 44 rfl) (by decide) rfl ?_
      refine V_iadd (pc2 := 87) (dk D_X9_init 45 rfl) rfl ?_
      refine V_i2l (pc2 := 88) (dk D_X9_init 46 rfl) rfl ?_
      refine V_ladd (pc2 := 89) (dk D_X9_init 47 rfl) rfl ?_
      refine V_lstore_n (pc2 := 90) (lv2 := [(0, _), (1, _), (2, _), (4, _), (5, _), (6, _)]) (dk D_X9_init 48 rfl) rfl (by decide) rfl rfl ?_
      refine V_goto (tgt := 113) (dk D_X9_init 49 rfl) (by decide) ?_
      exact h
theorem w_X9_init_113 {X : Cx} {d : Nat} {S : Mem} {Q : Res → Mem → Prop} (r0 : Nat) (r1 : Nat) (l2 : Int64) (x4 : Int32) (x5 : Int32) (x6 : Int32) (h : V X d MX9_init 49 [(0, vR r0), (1, vR r1), (2, vL l2), (4, vI x4), (5, vI (x5 + 1))] [] S Q) : V X d MX9_init 113 [(0, vR r0), (1, vR r1), (2, vL l2), (4, vI x4), (5, vI x5), (6, vI x6)] [] S Q := by
  refine V_iinc (y := _ + 1) (pc2 := 116) (lv2 := [(0, _), (1, _), (2, _), (4, _), (5, _), (6, _)]) (dk D_X9_init 61 rfl) (V_lg 4 rfl) rfl (by decide) rfl rfl ?_
  refine V_goto (tgt := 49) (dk D_X9_init 62 rfl) (by decide) ?_
  refine V_pick [0, 1, 2, 3, 4] (lv2 := [(0, _), (1, _), (2, _), (4, _), (5, _)]) rfl ?_
  exact h
def L_X13_fail : List (Nat × Instr × Nat) := [(0, .aload_n 0, 1), (1, .getfield 10, 3), (4, .iload_n 1, 1), (5, .putfield 328, 3), (8, .aload_n 0, 1), (9, .getfield 10, 3), (12, .athrow, 1)]
theorem D_X13_fail : dOk cX13_fail L_X13_fail = true := by decide +kernel
