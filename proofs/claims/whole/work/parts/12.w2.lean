def L_X2_init : List (Nat × Instr × Nat) := [(0, .aload_n 0, 1), (1, .invokespecial 3, 3), (4, .aload_n 0, 1), (5, .bipush 64, 2), (7, .newarray .int, 2), (9, .putfield 11, 3), (12, .aload_n 0, 1), (13, .bipush 40, 2), (15, .newarray .int, 2), (17, .putfield 15, 3), (20, .aload_n 0, 1), (21, .bipush 40, 2), (23, .newarray .int, 2), (25, .putfield 18, 3), (28, .aload_n 0, 1), (29, .bipush 40, 2), (31, .newarray .int, 2), (33, .putfield 21, 3), (36, .return_, 1)]
theorem D_X2_init : dOk cX2_init L_X2_init = true := by decide +kernel
theorem w_X2_init_0 {X : Cx} {d : Nat} {S : Mem} {Q : Res → Mem → Prop} (r0 : Nat) (h : (1 ≤ d) ∧ (r0 ≠ 0) ∧ ∀ S4 : Mem, S4 = nw S 21 64 64 → (isK S4 r0 2) ∧ ∀ S6 : Mem, S6 = uR S4 r0 0 (tp S) → ∀ S8 : Mem, S8 = nw S6 21 40 40 → ∀ S9 : Mem, S9 = uR S8 r0 5 (tp S6) → ∀ S11 : Mem, S11 = nw S9 21 40 40 → ∀ S12 : Mem, S12 = uR S11 r0 6 (tp S9) → ∀ S14 : Mem, S14 = nw S12 21 40 40 → ∀ S15 : Mem, S15 = uR S14 r0 7 (tp S12) → Q (.inl none) S15) : V X d MX2_init 0 [(0, vR r0)] [] S Q := by
  refine V_aload_n (pc2 := 1) (dk D_X2_init 0 rfl) rfl (V_lg 0 rfl) rfl ?_
  obtain ⟨h1, h⟩ := h
  obtain ⟨h2, h⟩ := h
  refine V_obj (pc2 := 4) (dk D_X2_init 1 rfl) ml_2_3 oi_i oi_c rfl (Nat.le_of_ble_eq_true rfl) h1 h2 ?_
  refine V_aload_n (pc2 := 5) (dk D_X2_init 2 rfl) rfl (V_lg 0 rfl) rfl ?_
  refine V_bipush (x := 64) (pc2 := 7) (dk D_X2_init 3 rfl) (by decide) rfl ?_
  have hd3 : decode MX2_init.2.1 7 = .ok (.newarray .int, 2) := dk D_X2_init 4 rfl
  refine V_newa21 (n := 64) (pc2 := 9) hd3 ac_21 rfl (litI 64) (Nat.le_of_ble_eq_true rfl) ?_
  have h := h _ rfl
  obtain ⟨h5, h⟩ := h
  refine V_putR kc2 (pc2 := 12) 0 (dk D_X2_init 5 rfl) fl_2_11 (by decide) (Or.inl rfl) (Or.inr ⟨_, rfl⟩) rfl h5 ?_
  have h := h _ rfl
  refine V_aload_n (pc2 := 13) (dk D_X2_init 6 rfl) rfl (V_lg 0 rfl) rfl ?_
  refine V_bipush (x := 40) (pc2 := 15) (dk D_X2_init 7 rfl) (by decide) rfl ?_
  have hd7 : decode MX2_init.2.1 15 = .ok (.newarray .int, 2) := dk D_X2_init 8 rfl
  refine V_newa21 (n := 40) (pc2 := 17) hd7 ac_21 rfl (litI 40) (Nat.le_of_ble_eq_true rfl) ?_
  have h := h _ rfl
  refine V_putR kc2 (pc2 := 20) 5 (dk D_X2_init 9 rfl) fl_2_15 (by decide) (Or.inr ⟨rfl, rfl, rfl⟩) (Or.inr ⟨_, rfl⟩) rfl (isK_nw h5) ?_
  have h := h _ rfl
  refine V_aload_n (pc2 := 21) (dk D_X2_init 10 rfl) rfl (V_lg 0 rfl) rfl ?_
  refine V_bipush (x := 40) (pc2 := 23) (dk D_X2_init 11 rfl) (by decide) rfl ?_
  have hd10 : decode MX2_init.2.1 23 = .ok (.newarray .int, 2) := dk D_X2_init 12 rfl
  refine V_newa21 (n := 40) (pc2 := 25) hd10 ac_21 rfl (litI 40) (Nat.le_of_ble_eq_true rfl) ?_
  have h := h _ rfl
  refine V_putR kc2 (pc2 := 28) 6 (dk D_X2_init 13 rfl) fl_2_18 (by decide) (Or.inr ⟨rfl, rfl, rfl⟩) (Or.inr ⟨_, rfl⟩) rfl (isK_nw (isK_nw h5)) ?_
  have h := h _ rfl
  refine V_aload_n (pc2 := 29) (dk D_X2_init 14 rfl) rfl (V_lg 0 rfl) rfl ?_
  refine V_bipush (x := 40) (pc2 := 31) (dk D_X2_init 15 rfl) (by decide) rfl ?_
  have hd13 : decode MX2_init.2.1 31 = .ok (.newarray .int, 2) := dk D_X2_init 16 rfl
  refine V_newa21 (n := 40) (pc2 := 33) hd13 ac_21 rfl (litI 40) (Nat.le_of_ble_eq_true rfl) ?_
  have h := h _ rfl
  refine V_putR kc2 (pc2 := 36) 7 (dk D_X2_init 17 rfl) fl_2_21 (by decide) (Or.inr ⟨rfl, rfl, rfl⟩) (Or.inr ⟨_, rfl⟩) rfl (isK_nw (isK_nw (isK_nw h5))) ?_
  have h := h _ rfl
  exact V_return (dk D_X2_init 18 rfl) rfl h
def L_X2_clear : List (Nat × Instr × Nat) := [(0, .aload_n 0, 1), (1, .iconst 1, 1), (2, .putfield 24, 3), (5, .aload_n 0, 1), (6, .iconst 0, 1), (7, .invokevirtual 28, 3), (10, .return_, 1)]
theorem D_X2_clear : dOk cX2_clear L_X2_clear = true := by decide +kernel
theorem w_X2_clear_0 {X : Cx} {d : Nat} {S : Mem} {Q : Res → Mem → Prop} (r0 : Nat) (h : (isK S r0 2) ∧ ∀ S2 : Mem, S2 = uI S r0 1 1 → ∃ e3 : Nat, e3 + 1 ≤ d ∧ C X e3 MX2_comeOut [vR r0, vI 0] S2 (RV fun  S6 => Q (.inl none) S6)) : V X d MX2_clear 0 [(0, vR r0)] [] S Q := by
  refine V_aload_n (pc2 := 1) (dk D_X2_clear 0 rfl) rfl (V_lg 0 rfl) rfl ?_
  refine V_iconst (x := 1) (pc2 := 2) (dk D_X2_clear 1 rfl) (by decide) rfl ?_
  obtain ⟨h1, h⟩ := h
  refine V_putI kc2 (pc2 := 5) 1 (dk D_X2_clear 2 rfl) fl_2_24 (by decide) (Or.inl rfl) rfl rfl h1 ?_
  have h := h _ rfl
  refine V_aload_n (pc2 := 6) (dk D_X2_clear 3 rfl) rfl (V_lg 0 rfl) rfl ?_
  refine V_iconst (x := 0) (pc2 := 7) (dk D_X2_clear 4 rfl) (by decide) rfl ?_
  obtain ⟨e3, he4, hc5⟩ := h
  refine V_callV (as := [_]) (st := []) (M' := MX2_comeOut) (ci := 2) (pc2 := 10) (dk D_X2_clear 5 rfl) ml_2_28 mv_X2_comeOut rfl rfl (by decide) rfl (Nat.le_of_ble_eq_true rfl) rfl he4 h1 hc5 (RV.k fun  S6 h => ?_)
  exact V_return (dk D_X2_clear 6 rfl) rfl h
def L_X2_comeOut : List (Nat × Instr × Nat) := [(0, .aload_n 0, 1), (1, .iload_n 1, 1), (2, .putfield 32, 3), (5, .aload_n 0, 1), (6, .iconst 0, 1), (7, .putfield 35, 3), (10, .return_, 1)]
theorem D_X2_comeOut : dOk cX2_comeOut L_X2_comeOut = true := by decide +kernel
theorem w_X2_comeOut_0 {X : Cx} {d : Nat} {S : Mem} {Q : Res → Mem → Prop} (r0 : Nat) (x1 : Int32) (h : (isK S r0 2) ∧ ∀ S2 : Mem, S2 = uI S r0 2 x1 → ∀ S3 : Mem, S3 = uI S2 r0 3 0 → Q (.inl none) S3) : V X d MX2_comeOut 0 [(0, vR r0), (1, vI x1)] [] S Q := by
  refine V_aload_n (pc2 := 1) (dk D_X2_comeOut 0 rfl) rfl (V_lg 0 rfl) rfl ?_
  refine V_iload_n (pc2 := 2) (dk D_X2_comeOut 1 rfl) rfl (V_lg 1 rfl) rfl ?_
  obtain ⟨h1, h⟩ := h
  refine V_putI kc2 (pc2 := 5) 2 (dk D_X2_comeOut 2 rfl) fl_2_32 (by decide) (Or.inl rfl) rfl rfl h1 ?_
  have h := h _ rfl
  refine V_aload_n (pc2 := 6) (dk D_X2_comeOut 3 rfl) rfl (V_lg 0 rfl) rfl ?_
  refine V_iconst (x := 0) (pc2 := 7) (dk D_X2_comeOut 4 rfl) (by decide) rfl ?_
  refine V_putZ kc2 (pc2 := 10) 3 (dk D_X2_comeOut 5 rfl) fl_2_35 (by decide) (Or.inl rfl) rfl rfl h1 (Or.inl rfl) ?_
  have h := h _ rfl
  exact V_return (dk D_X2_comeOut 6 rfl) rfl h
def L_X2_make : List (Nat × Instr × Nat) := [(0, .aload_n 0, 1), (1, .getfield 24, 3), (4, .bipush 8, 2), (6, .imul, 1), (7, .istore 6, 2), (9, .iload 6, 2), (11, .bipush 8, 2), (13, .iadd, 1), (14, .aload_n 0, 1), (15, .getfield 11, 3), (18, .arraylength, 1), (19, .if_icmp .le 21, 3), (22, .aload_n 0, 1), (23, .aload_n 0, 1), (24, .getfield 11, 3), (27, .iconst 2, 1), (28, .aload_n 0, 1), (29, .getfield 11, 3), (32, .arraylength, 1), (33, .imul, 1), (34, .invokestatic 39, 3), (37, .putfield 11, 3), (40, .aload_n 0, 1), (41, .getfield 11, 3), (44, .iload 6, 2), (46, .iconst 0, 1), (47, .iadd, 1), (48, .iload_n 1, 1), (49, .iastore, 1), (50, .aload_n 0, 1), (51, .getfield 11, 3), (54, .iload 6, 2), (56, .iconst 1, 1), (57, .iadd, 1), (58, .iload_n 2, 1), (59, .iastore, 1), (60, .aload_n 0, 1), (61, .getfield 11, 3), (64, .iload 6, 2), (66, .iconst 2, 1), (67, .iadd, 1), (68, .iload_n 3, 1), (69, .iastore, 1), (70, .aload_n 0, 1), (71, .getfield 11, 3), (74, .iload 6, 2), (76, .iconst 3, 1), (77, .iadd, 1), (78, .iload 4, 2), (80, .iastore, 1), (81, .aload_n 0, 1), (82, .getfield 11, 3), (85, .iload 6, 2), (87, .iconst 4, 1), (88, .iadd, 1), (89, .iload 5, 2), (91, .iastore, 1), (92, .aload_n 0, 1), (93, .getfield 11, 3), (96, .iload 6, 2), (98, .iconst 5, 1), (99, .iadd, 1), (100, .iconst 0, 1), (101, .iastore, 1), (102, .aload_n 0, 1), (103, .getfield 11, 3), (106, .iload 6, 2), (108, .bipush 6, 2), (110, .iadd, 1), (111, .iconst 0, 1), (112, .iastore, 1), (113, .aload_n 0, 1), (114, .getfield 11, 3), (117, .iload 6, 2), (119, .bipush 7, 2), (121, .iadd, 1), (122, .iconst 0, 1), (123, .iastore, 1), (124, .aload_n 0, 1), (125, .dup, 1), (126, .getfield 24, 3), (129, .iconst 1, 1), (130, .iadd, 1), (131, .putfield 24, 3), (134, .aload_n 0, 1), (135, .getfield 24, 3), (138, .iconst 1, 1), (139, .isub, 1), (140, .ireturn, 1)]
theorem D_X2_make : dOk cX2_make L_X2_make = true := by decide +kernel
theorem w_X2_make_0 {X : Cx} {d : Nat} {S : Mem} {Q : Res → Mem → Prop} (r0 : Nat) (x1 : Int32) (x2 : Int32) (x3 : Int32) (x4 : Int32) (x5 : Int32) (h : (isK S r0 2) ∧ (isK S (gR S r0 0) 21) ∧ (((((gI S r0 1) * 8) + 8) ≤ (nI (gN S (gR S r0 0))) → V X d MX2_make 40 [(0, vR r0), (1, vI x1), (2, vI x2), (3, vI x3), (4, vI x4), (5, vI x5), (6, vI ((gI S r0 1) * 8))] [] S Q) ∧ (¬ (((gI S r0 1) * 8) + 8) ≤ (nI (gN S (gR S r0 0))) → ∃ e4 : Nat, e4 + 1 ≤ d ∧ C X e4 MJ7_copyOf_59c91 [vR (gR S r0 0), vI (2 * (nI (gN S (gR S r0 0))))] S (RR fun p7 S8 => (isK S8 r0 2) ∧ ∀ S10 : Mem, S10 = uR S8 r0 0 p7 → V X d MX2_make 40 [(0, vR r0), (1, vI x1), (2, vI x2), (3, vI x3), (4, vI x4), (5, vI x5), (6, vI ((gI S r0 1) * 8))] [] S10 Q)))) : V X d MX2_make 0 [(0, vR r0), (1, vI x1), (2, vI x2), (3, vI x3), (4, vI x4), (5, vI x5)] [] S Q := by
  refine V_aload_n (pc2 := 1) (dk D_X2_make 0 rfl) rfl (V_lg 0 rfl) rfl ?_
  obtain ⟨h1, h⟩ := h
  refine V_getI kc2 (pc2 := 4) 1 (dk D_X2_make 1 rfl) fl_2_24 (by decide) (fun _ => rfl) rfl h1 ?_
  refine V_bipush (x := 8) (pc2 := 6) (dk D_X2_make 2 rfl) (by decide) rfl ?_
  refine V_imul (pc2 := 7) (dk D_X2_make 3 rfl) rfl ?_
  refine V_istore (pc2 := 9) (lv2 := [(0, _), (1, _), (2, _), (3, _), (4, _), (5, _), (6, _)]) (dk D_X2_make 4 rfl) (by decide) rfl rfl ?_
  refine V_iload (pc2 := 11) (dk D_X2_make 5 rfl) (V_lg 6 rfl) rfl ?_
  refine V_bipush (x := 8) (pc2 := 13) (dk D_X2_make 6 rfl) (by decide) rfl ?_
  refine V_iadd (pc2 := 14) (dk D_X2_make 7 rfl) rfl ?_
  refine V_aload_n (pc2 := 15) (dk D_X2_make 8 rfl) rfl (V_lg 0 rfl) rfl ?_
  refine V_getR kc2 (pc2 := 18) 0 (dk D_X2_make 9 rfl) fl_2_11 (by decide) (fun _ => rfl) rfl h1 ?_
  obtain ⟨h2, h⟩ := h
  refine V_alenI (pc2 := 19) (dk D_X2_make 10 rfl) rfl h2 ?_
  refine V_cmple (tgt := 40) (pc2 := 22) (dk D_X2_make 11 rfl) (by decide) rfl (fun q3 => ?_) (fun q3 => ?_)
  · have h := h.1 q3
    exact h
  · have h := h.2 q3
    refine V_aload_n (pc2 := 23) (dk D_X2_make 12 rfl) rfl (V_lg 0 rfl) rfl ?_
    refine V_aload_n (pc2 := 24) (dk D_X2_make 13 rfl) rfl (V_lg 0 rfl) rfl ?_
    refine V_getR kc2 (pc2 := 27) 0 (dk D_X2_make 14 rfl) fl_2_11 (by decide) (fun _ => rfl) rfl h1 ?_
    refine V_iconst (x := 2) (pc2 := 28) (dk D_X2_make 15 rfl) (by decide) rfl ?_
    refine V_aload_n (pc2 := 29) (dk D_X2_make 16 rfl) rfl (V_lg 0 rfl) rfl ?_
    refine V_getR kc2 (pc2 := 32) 0 (dk D_X2_make 17 rfl) fl_2_11 (by decide) (fun _ => rfl) rfl h1 ?_
    refine V_alenI (pc2 := 33) (dk D_X2_make 18 rfl) rfl h2 ?_
    refine V_imul (pc2 := 34) (dk D_X2_make 19 rfl) rfl ?_
    obtain ⟨e4, he5, hc6⟩ := h
    refine V_callS (as := [_, _]) (st := [_]) (M' := MJ7_copyOf_59c91) (pc2 := 37) (dk D_X2_make 20 rfl) ml_2_39 mv_J7_copyOf_59c91 rfl rfl (Nat.le_of_ble_eq_true rfl) rfl he5 hc6 (RR.k fun p7 S8 h => ?_)
    obtain ⟨h9, h⟩ := h
    refine V_putR kc2 (pc2 := 40) 0 (dk D_X2_make 21 rfl) fl_2_11 (by decide) (Or.inl rfl) (Or.inr ⟨_, rfl⟩) rfl h9 ?_
    have h := h _ rfl
    exact h
theorem w_X2_make_40 {X : Cx} {d : Nat} {S : Mem} {Q : Res → Mem → Prop} (r0 : Nat) (x1 : Int32) (x2 : Int32) (x3 : Int32) (x4 : Int32) (x5 : Int32) (x6 : Int32) (h : (isK S r0 2) ∧ (isK S (gR S r0 0) 21) ∧ (vp_in (x6 + 0) (gN S (gR S r0 0))) ∧ ∀ S4 : Mem, S4 = uI S (gR S r0 0) (((x6 + 0) : Int32).toNatClampNeg) x1 → (vp_in (x6 + 1) (gN S (gR S r0 0))) ∧ ∀ S6 : Mem, S6 = uI S4 (gR S r0 0) (((x6 + 1) : Int32).toNatClampNeg) x2 → (vp_in (x6 + 2) (gN S (gR S r0 0))) ∧ ∀ S8 : Mem, S8 = uI S6 (gR S r0 0) (((x6 + 2) : Int32).toNatClampNeg) x3 → (vp_in (x6 + 3) (gN S (gR S r0 0))) ∧ ∀ S10 : Mem, S10 = uI S8 (gR S r0 0) (((x6 + 3) : Int32).toNatClampNeg) x4 → (vp_in (x6 + 4) (gN S (gR S r0 0))) ∧ ∀ S12 : Mem, S12 = uI S10 (gR S r0 0) (((x6 + 4) : Int32).toNatClampNeg) x5 → (vp_in (x6 + 5) (gN S (gR S r0 0))) ∧ ∀ S14 : Mem, S14 = uI S12 (gR S r0 0) (((x6 + 5) : Int32).toNatClampNeg) 0 → (vp_in (x6 + 6) (gN S (gR S r0 0))) ∧ ∀ S16 : Mem, S16 = uI S14 (gR S r0 0) (((x6 + 6) : Int32).toNatClampNeg) 0 → (vp_in (x6 + 7) (gN S (gR S r0 0))) ∧ ∀ S18 : Mem, S18 = uI S16 (gR S r0 0) (((x6 + 7) : Int32).toNatClampNeg) 0 → ∀ S19 : Mem, S19 = uI S18 r0 1 ((gI S18 r0 1) + 1) → Q (.inl (some (vI ((gI S19 r0 1) - 1)))) S19) : V X d MX2_make 40 [(0, vR r0), (1, vI x1), (2, vI x2), (3, vI x3), (4, vI x4), (5, vI x5), (6, vI x6)] [] S Q := by
  refine V_aload_n (pc2 := 41) (dk D_X2_make 22 rfl) rfl (V_lg 0 rfl) rfl ?_
  obtain ⟨h1, h⟩ := h
  refine V_getR kc2 (pc2 := 44) 0 (dk D_X2_make 23 rfl) fl_2_11 (by decide) (fun _ => rfl) rfl h1 ?_
  refine V_iload (pc2 := 46) (dk D_X2_make 24 rfl) (V_lg 6 rfl) rfl ?_
  refine V_iconst (x := 0) (pc2 := 47) (dk D_X2_make 25 rfl) (by decide) rfl ?_
  refine V_iadd (pc2 := 48) (dk D_X2_make 26 rfl) rfl ?_
  refine V_iload_n (pc2 := 49) (dk D_X2_make 27 rfl) rfl (V_lg 1 rfl) rfl ?_
  obtain ⟨h2, h⟩ := h
  obtain ⟨h3, h⟩ := h
  refine V_iast (pc2 := 50) (dk D_X2_make 28 rfl) rfl h2 h3 ?_
  have h := h _ rfl
  refine V_aload_n (pc2 := 51) (dk D_X2_make 29 rfl) rfl (V_lg 0 rfl) rfl ?_
  refine V_getR kc2 (pc2 := 54) 0 (dk D_X2_make 30 rfl) fl_2_11 (by decide) (fun _ => rfl) rfl h1 ?_
  refine V_iload (pc2 := 56) (dk D_X2_make 31 rfl) (V_lg 6 rfl) rfl ?_
  refine V_iconst (x := 1) (pc2 := 57) (dk D_X2_make 32 rfl) (by decide) rfl ?_
  refine V_iadd (pc2 := 58) (dk D_X2_make 33 rfl) rfl ?_
  refine V_iload_n (pc2 := 59) (dk D_X2_make 34 rfl) rfl (V_lg 2 rfl) rfl ?_
  obtain ⟨h5, h⟩ := h
  refine V_iast (pc2 := 60) (dk D_X2_make 35 rfl) rfl h2 h5 ?_
  have h := h _ rfl
  refine V_aload_n (pc2 := 61) (dk D_X2_make 36 rfl) rfl (V_lg 0 rfl) rfl ?_
  refine V_getR kc2 (pc2 := 64) 0 (dk D_X2_make 37 rfl) fl_2_11 (by decide) (fun _ => rfl) rfl h1 ?_
  refine V_iload (pc2 := 66) (dk D_X2_make 38 rfl) (V_lg 6 rfl) rfl ?_
  refine V_iconst (x := 2) (pc2 := 67) (dk D_X2_make 39 rfl) (by decide) rfl ?_
  refine V_iadd (pc2 := 68) (dk D_X2_make 40 rfl) rfl ?_
  refine V_iload_n (pc2 := 69) (dk D_X2_make 41 rfl) rfl (V_lg 3 rfl) rfl ?_
  obtain ⟨h7, h⟩ := h
  refine V_iast (pc2 := 70) (dk D_X2_make 42 rfl) rfl h2 h7 ?_
  have h := h _ rfl
  refine V_aload_n (pc2 := 71) (dk D_X2_make 43 rfl) rfl (V_lg 0 rfl) rfl ?_
  refine V_getR kc2 (pc2 := 74) 0 (dk D_X2_make 44 rfl) fl_2_11 (by decide) (fun _ => rfl) rfl h1 ?_
  refine V_iload (pc2 := 76) (dk D_X2_make 45 rfl) (V_lg 6 rfl) rfl ?_
  refine V_iconst (x := 3) (pc2 := 77) (dk D_X2_make 46 rfl) (by decide) rfl ?_
  refine V_iadd (pc2 := 78) (dk D_X2_make 47 rfl) rfl ?_
  refine V_iload (pc2 := 80) (dk D_X2_make 48 rfl) (V_lg 4 rfl) rfl ?_
  obtain ⟨h9, h⟩ := h
  refine V_iast (pc2 := 81) (dk D_X2_make 49 rfl) rfl h2 h9 ?_
  have h := h _ rfl
  refine V_aload_n (pc2 := 82) (dk D_X2_make 50 rfl) rfl (V_lg 0 rfl) rfl ?_
  refine V_getR kc2 (pc2 := 85) 0 (dk D_X2_make 51 rfl) fl_2_11 (by decide) (fun _ => rfl) rfl h1 ?_
  refine V_iload (pc2 := 87) (dk D_X2_make 52 rfl) (V_lg 6 rfl) rfl ?_
  refine V_iconst (x := 4) (pc2 := 88) (dk D_X2_make 53 rfl) (by decide) rfl ?_
  refine V_iadd (pc2 := 89) (dk D_X2_make 54 rfl) rfl ?_
  refine V_iload (pc2 := 91) (dk D_X2_make 55 rfl) (V_lg 5 rfl) rfl ?_
  obtain ⟨h11, h⟩ := h
  refine V_iast (pc2 := 92) (dk D_X2_make 56 rfl) rfl h2 h11 ?_
  have h := h _ rfl
  refine V_aload_n (pc2 := 93) (dk D_X2_make 57 rfl) rfl (V_lg 0 rfl) rfl ?_
  refine V_getR kc2 (pc2 := 96) 0 (dk D_X2_make 58 rfl) fl_2_11 (by decide) (fun _ => rfl) rfl h1 ?_
  refine V_iload (pc2 := 98) (dk D_X2_make 59 rfl) (V_lg 6 rfl) rfl ?_
  refine V_iconst (x := 5) (pc2 := 99) (dk D_X2_make 60 rfl) (by decide) rfl ?_
  refine V_iadd (pc2 := 100) (dk D_X2_make 61 rfl) rfl ?_
  refine V_iconst (x := 0) (pc2 := 101) (dk D_X2_make 62 rfl) (by decide) rfl ?_
  obtain ⟨h13, h⟩ := h
  refine V_iast (pc2 := 102) (dk D_X2_make 63 rfl) rfl h2 h13 ?_
  have h := h _ rfl
  refine V_aload_n (pc2 := 103) (dk D_X2_make 64 rfl) rfl (V_lg 0 rfl) rfl ?_
  refine V_getR kc2 (pc2 := 106) 0 (dk D_X2_make 65 rfl) fl_2_11 (by decide) (fun _ => rfl) rfl h1 ?_
  refine V_iload (pc2 := 108) (dk D_X2_make 66 rfl) (V_lg 6 rfl) rfl ?_
  refine V_bipush (x := 6) (pc2 := 110) (dk D_X2_make 67 rfl) (by decide) rfl ?_
  refine V_iadd (pc2 := 111) (dk D_X2_make 68 rfl) rfl ?_
  refine V_iconst (x := 0) (pc2 := 112) (dk D_X2_make 69 rfl) (by decide) rfl ?_
  obtain ⟨h15, h⟩ := h
  refine V_iast (pc2 := 113) (dk D_X2_make 70 rfl) rfl h2 h15 ?_
  have h := h _ rfl
  refine V_aload_n (pc2 := 114) (dk D_X2_make 71 rfl) rfl (V_lg 0 rfl) rfl ?_
  refine V_getR kc2 (pc2 := 117) 0 (dk D_X2_make 72 rfl) fl_2_11 (by decide) (fun _ => rfl) rfl h1 ?_
  refine V_iload (pc2 := 119) (dk D_X2_make 73 rfl) (V_lg 6 rfl) rfl ?_
  refine V_bipush (x := 7) (pc2 := 121) (dk D_X2_make 74 rfl) (by decide) rfl ?_
  refine V_iadd (pc2 := 122) (dk D_X2_make 75 rfl) rfl ?_
  refine V_iconst (x := 0) (pc2 := 123) (dk D_X2_make 76 rfl) (by decide) rfl ?_
  obtain ⟨h17, h⟩ := h
  refine V_iast (pc2 := 124) (dk D_X2_make 77 rfl) rfl h2 h17 ?_
  have h := h _ rfl
  refine V_aload_n (pc2 := 125) (dk D_X2_make 78 rfl) rfl (V_lg 0 rfl) rfl ?_
  refine V_dup (pc2 := 126) (dk D_X2_make 79 rfl) rfl rfl ?_
  refine V_getI kc2 (pc2 := 129) 1 (dk D_X2_make 80 rfl) fl_2_24 (by decide) (fun _ => rfl) rfl h1 ?_
  refine V_iconst (x := 1) (pc2 := 130) (dk D_X2_make 81 rfl) (by decide) rfl ?_
  refine V_iadd (pc2 := 131) (dk D_X2_make 82 rfl) rfl ?_
  refine V_putI kc2 (pc2 := 134) 1 (dk D_X2_make 83 rfl) fl_2_24 (by decide) (Or.inl rfl) rfl rfl h1 ?_
  have h := h _ rfl
  refine V_aload_n (pc2 := 135) (dk D_X2_make 84 rfl) rfl (V_lg 0 rfl) rfl ?_
  refine V_getI kc2 (pc2 := 138) 1 (dk D_X2_make 85 rfl) fl_2_24 (by decide) (fun _ => rfl) rfl h1 ?_
  refine V_iconst (x := 1) (pc2 := 139) (dk D_X2_make 86 rfl) (by decide) rfl ?_
  refine V_isub (pc2 := 140) (dk D_X2_make 87 rfl) rfl ?_
  exact V_ireturn (dk D_X2_make 88 rfl) rfl h
def L_X2_putBeneath : List (Nat × Instr × Nat) := [(0, .aload_n 0, 1), (1, .iload_n 1, 1), (2, .bipush 6, 2), (4, .invokevirtual 45, 3), (7, .istore_n 3, 1), (8, .iload_n 3, 1), (9, .ifCond .ne 13, 3), (12, .aload_n 0, 1), (13, .iload_n 1, 1), (14, .iconst 5, 1), (15, .iload_n 2, 1), (16, .invokevirtual 49, 3), (19, .goto 11, 3), (22, .aload_n 0, 1), (23, .iload_n 3, 1), (24, .bipush 7, 2), (26, .iload_n 2, 1), (27, .invokevirtual 49, 3), (30, .aload_n 0, 1), (31, .iload_n 1, 1), (32, .bipush 6, 2), (34, .iload_n 2, 1), (35, .invokevirtual 49, 3), (38, .return_, 1)]
theorem D_X2_putBeneath : dOk cX2_putBeneath L_X2_putBeneath = true := by decide +kernel
theorem w_X2_putBeneath_0 {X : Cx} {d : Nat} {S : Mem} {Q : Res → Mem → Prop} (r0 : Nat) (x1 : Int32) (x2 : Int32) (h : (isK S r0 2) ∧ ∃ e1 : Nat, e1 + 1 ≤ d ∧ C X e1 MX2_get [vR r0, vI x1, vI 6] S (RI fun y4 S5 => ((¬ y4 = 0 → (isK S5 r0 2) ∧ ∃ e8 : Nat, e8 + 1 ≤ d ∧ C X e8 MX2_put [vR r0, vI y4, vI 7, vI x2] S5 (RV fun  S11 => V X d MX2_putBeneath 30 [(0, vR r0), (1, vI x1), (2, vI x2), (3, vI y4)] [] S11 Q)) ∧ (y4 = 0 → (isK S5 r0 2) ∧ ∃ e13 : Nat, e13 + 1 ≤ d ∧ C X e13 MX2_put [vR r0, vI x1, vI 5, vI x2] S5 (RV fun  S16 => V X d MX2_putBeneath 30 [(0, vR r0), (1, vI x1), (2, vI x2), (3, vI y4)] [] S16 Q))))) : V X d MX2_putBeneath 0 [(0, vR r0), (1, vI x1), (2, vI x2)] [] S Q := by
  refine V_aload_n (pc2 := 1) (dk D_X2_putBeneath 0 rfl) rfl (V_lg 0 rfl) rfl ?_
  refine V_iload_n (pc2 := 2) (dk D_X2_putBeneath 1 rfl) rfl (V_lg 1 rfl) rfl ?_
  refine V_bipush (x := 6) (pc2 := 4) (dk D_X2_putBeneath 2 rfl) (by decide) rfl ?_
  obtain ⟨h6, h⟩ := h
  obtain ⟨e1, he2, hc3⟩ := h
  refine V_callV (as := [_, _]) (st := []) (M' := MX2_get) (ci := 2) (pc2 := 7) (dk D_X2_putBeneath 3 rfl) ml_2_45 mv_X2_get rfl rfl (by decide) rfl (Nat.le_of_ble_eq_true rfl) rfl he2 h6 hc3 (RI.k fun y4 S5 h => ?_)
  refine V_istore_n (pc2 := 8) (lv2 := [(0, _), (1, _), (2, _), (3, _)]) (dk D_X2_putBeneath 4 rfl) rfl (by decide) rfl rfl ?_
  refine V_iload_n (pc2 := 9) (dk D_X2_putBeneath 5 rfl) rfl (V_lg 3 rfl) rfl ?_
  refine V_ifne (tgt := 22) (pc2 := 12) (dk D_X2_putBeneath 6 rfl) (by decide) rfl (fun q7 => ?_) (fun q7 => ?_)
  · have h := h.1 q7
    refine V_aload_n (pc2 := 23) (dk D_X2_putBeneath 13 rfl) rfl (V_lg 0 rfl) rfl ?_
    refine V_iload_n (pc2 := 24) (dk D_X2_putBeneath 14 rfl) rfl (V_lg 3 rfl) rfl ?_
    refine V_bipush (x := 7) (pc2 := 26) (dk D_X2_putBeneath 15 rfl) (by decide) rfl ?_
    refine V_iload_n (pc2 := 27) (dk D_X2_putBeneath 16 rfl) rfl (V_lg 2 rfl) rfl ?_
    obtain ⟨h12, h⟩ := h
    obtain ⟨e8, he9, hc10⟩ := h
    refine V_callV (as := [_, _, _]) (st := []) (M' := MX2_put) (ci := 2) (pc2 := 30) (dk D_X2_putBeneath 17 rfl) ml_2_49 mv_X2_put rfl rfl (by decide) rfl (Nat.le_of_ble_eq_true rfl) rfl he9 h12 hc10 (RV.k fun  S11 h => ?_)
    exact h
  · have h := h.2 q7
    refine V_aload_n (pc2 := 13) (dk D_X2_putBeneath 7 rfl) rfl (V_lg 0 rfl) rfl ?_
    refine V_iload_n (pc2 := 14) (dk D_X2_putBeneath 8 rfl) rfl (V_lg 1 rfl) rfl ?_
    refine V_iconst (x := 5) (pc2 := 15) (dk D_X2_putBeneath 9 rfl) (by decide) rfl ?_
    refine V_iload_n (pc2 := 16) (dk D_X2_putBeneath 10 rfl) rfl (V_lg 2 rfl) rfl ?_
    obtain ⟨h17, h⟩ := h
    obtain ⟨e13, he14, hc15⟩ := h
    refine V_callV (as := [_, _, _]) (st := []) (M' := MX2_put) (ci := 2) (pc2 := 19) (dk D_X2_putBeneath 11 rfl) ml_2_49 mv_X2_put rfl rfl (by decide) rfl (Nat.le_of_ble_eq_true rfl) rfl he14 h17 hc15 (RV.k fun  S16 h => ?_)
    refine V_goto (tgt := 30) (dk D_X2_putBeneath 12 rfl) (by decide) ?_
    exact h
theorem w_X2_putBeneath_30 {X : Cx} {d : Nat} {S : Mem} {Q : Res → Mem → Prop} (r0 : Nat) (x1 : Int32) (x2 : Int32) (x3 : Int32) (h : (isK S r0 2) ∧ ∃ e1 : Nat, e1 + 1 ≤ d ∧ C X e1 MX2_put [vR r0, vI x1, vI 6, vI x2] S (RV fun  S4 => Q (.inl none) S4)) : V X d MX2_putBeneath 30 [(0, vR r0), (1, vI x1), (2, vI x2), (3, vI x3)] [] S Q := by
  refine V_aload_n (pc2 := 31) (dk D_X2_putBeneath 18 rfl) rfl (V_lg 0 rfl) rfl ?_
  refine V_iload_n (pc2 := 32) (dk D_X2_putBeneath 19 rfl) rfl (V_lg 1 rfl) rfl ?_
  refine V_bipush (x := 6) (pc2 := 34) (dk D_X2_putBeneath 20 rfl) (by decide) rfl ?_
  refine V_iload_n (pc2 := 35) (dk D_X2_putBeneath 21 rfl) rfl (V_lg 2 rfl) rfl ?_
  obtain ⟨h5, h⟩ := h
  obtain ⟨e1, he2, hc3⟩ := h
  refine V_callV (as := [_, _, _]) (st := []) (M' := MX2_put) (ci := 2) (pc2 := 38) (dk D_X2_putBeneath 22 rfl) ml_2_49 mv_X2_put rfl rfl (by decide) rfl (Nat.le_of_ble_eq_true rfl) rfl he2 h5 hc3 (RV.k fun  S4 h => ?_)
  exact V_return (dk D_X2_putBeneath 23 rfl) rfl h
def L_X2_number : List (Nat × Instr × Nat) := [(0, .aload_n 0, 1), (1, .iload_n 1, 1), (2, .iconst 0, 1), (3, .invokevirtual 45, 3), (6, .ireturn, 1)]
theorem D_X2_number : dOk cX2_number L_X2_number = true := by decide +kernel
theorem w_X2_number_0 {X : Cx} {d : Nat} {S : Mem} {Q : Res → Mem → Prop} (r0 : Nat) (x1 : Int32) (h : (isK S r0 2) ∧ ∃ e1 : Nat, e1 + 1 ≤ d ∧ C X e1 MX2_get [vR r0, vI x1, vI 0] S (RI fun y4 S5 => Q (.inl (some (vI y4))) S5)) : V X d MX2_number 0 [(0, vR r0), (1, vI x1)] [] S Q := by
  refine V_aload_n (pc2 := 1) (dk D_X2_number 0 rfl) rfl (V_lg 0 rfl) rfl ?_
  refine V_iload_n (pc2 := 2) (dk D_X2_number 1 rfl) rfl (V_lg 1 rfl) rfl ?_
  refine V_iconst (x := 0) (pc2 := 3) (dk D_X2_number 2 rfl) (by decide) rfl ?_
  obtain ⟨h6, h⟩ := h
  obtain ⟨e1, he2, hc3⟩ := h
  refine V_callV (as := [_, _]) (st := []) (M' := MX2_get) (ci := 2) (pc2 := 6) (dk D_X2_number 3 rfl) ml_2_45 mv_X2_get rfl rfl (by decide) rfl (Nat.le_of_ble_eq_true rfl) rfl he2 h6 hc3 (RI.k fun y4 S5 h => ?_)
  exact V_ireturn (dk D_X2_number 4 rfl) rfl h
def L_X2_value : List (Nat × Instr × Nat) := [(0, .aload_n 0, 1), (1, .iload_n 1, 1), (2, .iconst 1, 1), (3, .invokevirtual 45, 3), (6, .ireturn, 1)]
theorem D_X2_value : dOk cX2_value L_X2_value = true := by decide +kernel
theorem w_X2_value_0 {X : Cx} {d : Nat} {S : Mem} {Q : Res → Mem → Prop} (r0 : Nat) (x1 : Int32) (h : (isK S r0 2) ∧ ∃ e1 : Nat, e1 + 1 ≤ d ∧ C X e1 MX2_get [vR r0, vI x1, vI 1] S (RI fun y4 S5 => Q (.inl (some (vI y4))) S5)) : V X d MX2_value 0 [(0, vR r0), (1, vI x1)] [] S Q := by
  refine V_aload_n (pc2 := 1) (dk D_X2_value 0 rfl) rfl (V_lg 0 rfl) rfl ?_
  refine V_iload_n (pc2 := 2) (dk D_X2_value 1 rfl) rfl (V_lg 1 rfl) rfl ?_
  refine V_iconst (x := 1) (pc2 := 3) (dk D_X2_value 2 rfl) (by decide) rfl ?_
  obtain ⟨h6, h⟩ := h
  obtain ⟨e1, he2, hc3⟩ := h
  refine V_callV (as := [_, _]) (st := []) (M' := MX2_get) (ci := 2) (pc2 := 6) (dk D_X2_value 3 rfl) ml_2_45 mv_X2_get rfl rfl (by decide) rfl (Nat.le_of_ble_eq_true rfl) rfl he2 h6 hc3 (RI.k fun y4 S5 h => ?_)
  exact V_ireturn (dk D_X2_value 4 rfl) rfl h
def L_X2_listed : List (Nat × Instr × Nat) := [(0, .aload_n 0, 1), (1, .getfield 35, 3), (4, .ifCond .ne 23, 3), (7, .aload_n 0, 1), (8, .iconst 1, 1), (9, .putfield 35, 3), (12, .aload_n 0, 1), (13, .iconst 0, 1), (14, .putfield 53, 3), (17, .aload_n 0, 1), (18, .aload_n 0, 1), (19, .getfield 32, 3), (22, .iconst 0, 1), (23, .iconst 0, 1), (24, .invokevirtual 56, 3), (27, .aload_n 0, 1), (28, .getfield 53, 3), (31, .ireturn, 1)]
theorem D_X2_listed : dOk cX2_listed L_X2_listed = true := by decide +kernel
theorem w_X2_listed_0 {X : Cx} {d : Nat} {S : Mem} {Q : Res → Mem → Prop} (r0 : Nat) (h : (isK S r0 2) ∧ ((¬ (gI S r0 3) = 0 → V X d MX2_listed 27 [(0, vR r0)] [] S Q) ∧ ((gI S r0 3) = 0 → ∀ S3 : Mem, S3 = uI S r0 3 1 → ∀ S4 : Mem, S4 = uI S3 r0 4 0 → ∃ e5 : Nat, e5 + 1 ≤ d ∧ C X e5 MX2_visit [vR r0, vI (gI S4 r0 2), vI 0, vI 0] S4 (RV fun  S8 => V X d MX2_listed 27 [(0, vR r0)] [] S8 Q)))) : V X d MX2_listed 0 [(0, vR r0)] [] S Q := by
  refine V_aload_n (pc2 := 1) (dk D_X2_listed 0 rfl) rfl (V_lg 0 rfl) rfl ?_
  obtain ⟨h1, h⟩ := h
  refine V_getI kc2 (pc2 := 4) 3 (dk D_X2_listed 1 rfl) fl_2_35 (by decide) (fun _ => rfl) rfl h1 ?_
  refine V_ifne (tgt := 27) (pc2 := 7) (dk D_X2_listed 2 rfl) (by decide) rfl (fun q2 => ?_) (fun q2 => ?_)
  · have h := h.1 q2
    exact h
  · have h := h.2 q2
    refine V_aload_n (pc2 := 8) (dk D_X2_listed 3 rfl) rfl (V_lg 0 rfl) rfl ?_
    refine V_iconst (x := 1) (pc2 := 9) (dk D_X2_listed 4 rfl) (by decide) rfl ?_
    refine V_putZ kc2 (pc2 := 12) 3 (dk D_X2_listed 5 rfl) fl_2_35 (by decide) (Or.inl rfl) rfl rfl h1 (Or.inr rfl) ?_
    have h := h _ rfl
    refine V_aload_n (pc2 := 13) (dk D_X2_listed 6 rfl) rfl (V_lg 0 rfl) rfl ?_
    refine V_iconst (x := 0) (pc2 := 14) (dk D_X2_listed 7 rfl) (by decide) rfl ?_
    refine V_putI kc2 (pc2 := 17) 4 (dk D_X2_listed 8 rfl) fl_2_53 (by decide) (Or.inl rfl) rfl rfl h1 ?_
    have h := h _ rfl
    refine V_aload_n (pc2 := 18) (dk D_X2_listed 9 rfl) rfl (V_lg 0 rfl) rfl ?_
    refine V_aload_n (pc2 := 19) (dk D_X2_listed 10 rfl) rfl (V_lg 0 rfl) rfl ?_
    refine V_getI kc2 (pc2 := 22) 2 (dk D_X2_listed 11 rfl) fl_2_32 (by decide) (fun _ => rfl) rfl h1 ?_
    refine V_iconst (x := 0) (pc2 := 23) (dk D_X2_listed 12 rfl) (by decide) rfl ?_
    refine V_iconst (x := 0) (pc2 := 24) (dk D_X2_listed 13 rfl) (by decide) rfl ?_
    obtain ⟨e5, he6, hc7⟩ := h
    refine V_callV (as := [_, _, _]) (st := []) (M' := MX2_visit) (ci := 2) (pc2 := 27) (dk D_X2_listed 14 rfl) ml_2_56 mv_X2_visit rfl rfl (by decide) rfl (Nat.le_of_ble_eq_true rfl) rfl he6 h1 hc7 (RV.k fun  S8 h => ?_)
    exact h
theorem w_X2_listed_27 {X : Cx} {d : Nat} {S : Mem} {Q : Res → Mem → Prop} (r0 : Nat) (h : (isK S r0 2) ∧ Q (.inl (some (vI (gI S r0 4)))) S) : V X d MX2_listed 27 [(0, vR r0)] [] S Q := by
  refine V_aload_n (pc2 := 28) (dk D_X2_listed 15 rfl) rfl (V_lg 0 rfl) rfl ?_
  obtain ⟨h1, h⟩ := h
  refine V_getI kc2 (pc2 := 31) 4 (dk D_X2_listed 16 rfl) fl_2_53 (by decide) (fun _ => rfl) rfl h1 ?_
  exact V_ireturn (dk D_X2_listed 17 rfl) rfl h
def L_X2_visit : List (Nat × Instr × Nat) := [(0, .iload_n 1, 1), (1, .ifCond .eq 18, 3), (4, .aload_n 0, 1), (5, .getfield 53, 3), (8, .bipush 40, 2), (10, .if_icmp .ge 9, 3), (13, .iload_n 2, 1), (14, .bipush 40, 2), (16, .if_icmp .lt 4, 3), (19, .return_, 1), (20, .aload_n 0, 1), (21, .getfield 15, 3), (24, .aload_n 0, 1), (25, .getfield 53, 3), (28, .iload_n 1, 1), (29, .iastore, 1), (30, .aload_n 0, 1), (31, .getfield 18, 3), (34, .aload_n 0, 1), (35, .getfield 53, 3), (38, .iload_n 2, 1), (39, .iastore, 1), (40, .aload_n 0, 1), (41, .getfield 21, 3), (44, .aload_n 0, 1), (45, .getfield 53, 3), (48, .iload_n 3, 1), (49, .iastore, 1), (50, .aload_n 0, 1), (51, .dup, 1), (52, .getfield 53, 3), (55, .iconst 1, 1), (56, .iadd, 1), (57, .putfield 53, 3), (60, .aload_n 0, 1), (61, .aload_n 0, 1), (62, .iload_n 1, 1), (63, .iconst 4, 1), (64, .invokevirtual 45, 3), (67, .iload_n 2, 1), (68, .iconst 1, 1), (69, .iadd, 1), (70, .iconst 1, 1), (71, .invokevirtual 56, 3), (74, .aload_n 0, 1), (75, .iload_n 1, 1), (76, .iconst 5, 1), (77, .invokevirtual 45, 3), (80, .istore 4, 2), (82, .iconst 0, 1), (83, .istore 5, 2), (85, .iload 5, 2), (87, .bipush 40, 2), (89, .if_icmp .ge 34, 3), (92, .iload 4, 2), (94, .ifCond .eq 29, 3), (97, .aload_n 0, 1), (98, .iload 4, 2), (100, .iload_n 2, 1), (101, .iconst 1, 1), (102, .iadd, 1), (103, .iconst 2, 1), (104, .invokevirtual 56, 3), (107, .aload_n 0, 1), (108, .iload 4, 2), (110, .bipush 7, 2), (112, .invokevirtual 45, 3), (115, .istore 4, 2), (117, .iinc 5 1, 3), (120, .goto (-35), 3), (123, .return_, 1)]
theorem D_X2_visit : dOk cX2_visit L_X2_visit = true := by decide +kernel
theorem w_X2_visit_0 {X : Cx} {d : Nat} {S : Mem} {Q : Res → Mem → Prop} (r0 : Nat) (x1 : Int32) (x2 : Int32) (x3 : Int32) (h : ((x1 = 0 → V X d MX2_visit 19 [(0, vR r0), (1, vI x1), (2, vI x2), (3, vI x3)] [] S Q) ∧ (¬ x1 = 0 → (isK S r0 2) ∧ ((40 ≤ (gI S r0 4) → V X d MX2_visit 19 [(0, vR r0), (1, vI x1), (2, vI x2), (3, vI x3)] [] S Q) ∧ (¬ 40 ≤ (gI S r0 4) → ((x2 < 40 → (isK S (gR S r0 5) 21) ∧ (vp_in (gI S r0 4) (gN S (gR S r0 5))) ∧ ∀ S7 : Mem, S7 = uI S (gR S r0 5) (((gI S r0 4) : Int32).toNatClampNeg) x1 → (isK S (gR S r0 6) 21) ∧ (vp_in (gI S7 r0 4) (gN S (gR S r0 6))) ∧ ∀ S10 : Mem, S10 = uI S7 (gR S r0 6) (((gI S7 r0 4) : Int32).toNatClampNeg) x2 → (isK S (gR S r0 7) 21) ∧ (vp_in (gI S10 r0 4) (gN S (gR S r0 7))) ∧ ∀ S13 : Mem, S13 = uI S10 (gR S r0 7) (((gI S10 r0 4) : Int32).toNatClampNeg) x3 → ∀ S14 : Mem, S14 = uI S13 r0 4 ((gI S13 r0 4) + 1) → ∃ e15 : Nat, e15 + 1 ≤ d ∧ C X e15 MX2_get [vR r0, vI x1, vI 4] S14 (RI fun y18 S19 => (isK S19 r0 2) ∧ ∃ e20 : Nat, e20 + 1 ≤ d ∧ C X e20 MX2_visit [vR r0, vI y18, vI (x2 + 1), vI 1] S19 (RV fun  S23 => (isK S23 r0 2) ∧ ∃ e25 : Nat, e25 + 1 ≤ d ∧ C X e25 MX2_get [vR r0, vI x1, vI 5] S23 (RI fun y28 S29 => V X d MX2_visit 85 [(0, vR r0), (1, vI x1), (2, vI x2), (3, vI x3), (4, vI y28), (5, vI 0)] [] S29 Q)))) ∧ (¬ x2 < 40 → V X d MX2_visit 19 [(0, vR r0), (1, vI x1), (2, vI x2), (3, vI x3)] [] S Q))))))) : V X d MX2_visit 0 [(0, vR r0), (1, vI x1), (2, vI x2), (3, vI x3)] [] S Q := by
  refine V_iload_n (pc2 := 1) (dk D_X2_visit 0 rfl) rfl (V_lg 1 rfl) rfl ?_
  refine V_ifeq (tgt := 19) (pc2 := 4) (dk D_X2_visit 1 rfl) (by decide) rfl (fun q1 => ?_) (fun q1 => ?_)
  · have h := h.1 q1
    exact h
  · have h := h.2 q1
    refine V_aload_n (pc2 := 5) (dk D_X2_visit 2 rfl) rfl (V_lg 0 rfl) rfl ?_
    obtain ⟨h2, h⟩ := h
    refine V_getI kc2 (pc2 := 8) 4 (dk D_X2_visit 3 rfl) fl_2_53 (by decide) (fun _ => rfl) rfl h2 ?_
    refine V_bipush (x := 40) (pc2 := 10) (dk D_X2_visit 4 rfl) (by decide) rfl ?_
    refine V_cmpge (tgt := 19) (pc2 := 13) (dk D_X2_visit 5 rfl) (by decide) rfl (fun q3 => ?_) (fun q3 => ?_)
    · have h := h.1 q3
      exact h
    · have h := h.2 q3
      refine V_iload_n (pc2 := 14) (dk D_X2_visit 6 rfl) rfl (V_lg 2 rfl) rfl ?_
      refine V_bipush (x := 40) (pc2 := 16) (dk D_X2_visit 7 rfl) (by decide) rfl ?_
      refine V_cmplt (tgt := 20) (pc2 := 19) (dk D_X2_visit 8 rfl) (by decide) rfl (fun q4 => ?_) (fun q4 => ?_)
      · have h := h.1 q4
        refine V_aload_n (pc2 := 21) (dk D_X2_visit 10 rfl) rfl (V_lg 0 rfl) rfl ?_
        refine V_getR kc2 (pc2 := 24) 5 (dk D_X2_visit 11 rfl) fl_2_15 (by decide) (fun _ => rfl) rfl h2 ?_
        refine V_aload_n (pc2 := 25) (dk D_X2_visit 12 rfl) rfl (V_lg 0 rfl) rfl ?_
        refine V_getI kc2 (pc2 := 28) 4 (dk D_X2_visit 13 rfl) fl_2_53 (by decide) (fun _ => rfl) rfl h2 ?_
        refine V_iload_n (pc2 := 29) (dk D_X2_visit 14 rfl) rfl (V_lg 1 rfl) rfl ?_
        obtain ⟨h5, h⟩ := h
        obtain ⟨h6, h⟩ := h
        refine V_iast (pc2 := 30) (dk D_X2_visit 15 rfl) rfl h5 h6 ?_
        have h := h _ rfl
        refine V_aload_n (pc2 := 31) (dk D_X2_visit 16 rfl) rfl (V_lg 0 rfl) rfl ?_
        refine V_getR kc2 (pc2 := 34) 6 (dk D_X2_visit 17 rfl) fl_2_18 (by decide) (fun _ => rfl) rfl h2 ?_
        refine V_aload_n (pc2 := 35) (dk D_X2_visit 18 rfl) rfl (V_lg 0 rfl) rfl ?_
        refine V_getI kc2 (pc2 := 38) 4 (dk D_X2_visit 19 rfl) fl_2_53 (by decide) (fun _ => rfl) rfl h2 ?_
        refine V_iload_n (pc2 := 39) (dk D_X2_visit 20 rfl) rfl (V_lg 2 rfl) rfl ?_
        obtain ⟨h8, h⟩ := h
        obtain ⟨h9, h⟩ := h
        refine V_iast (pc2 := 40) (dk D_X2_visit 21 rfl) rfl h8 h9 ?_
        have h := h _ rfl
        refine V_aload_n (pc2 := 41) (dk D_X2_visit 22 rfl) rfl (V_lg 0 rfl) rfl ?_
        refine V_getR kc2 (pc2 := 44) 7 (dk D_X2_visit 23 rfl) fl_2_21 (by decide) (fun _ => rfl) rfl h2 ?_
        refine V_aload_n (pc2 := 45) (dk D_X2_visit 24 rfl) rfl (V_lg 0 rfl) rfl ?_
        refine V_getI kc2 (pc2 := 48) 4 (dk D_X2_visit 25 rfl) fl_2_53 (by decide) (fun _ => rfl) rfl h2 ?_
        refine V_iload_n (pc2 := 49) (dk D_X2_visit 26 rfl) rfl (V_lg 3 rfl) rfl ?_
        obtain ⟨h11, h⟩ := h
        obtain ⟨h12, h⟩ := h
        refine V_iast (pc2 := 50) (dk D_X2_visit 27 rfl) rfl h11 h12 ?_
        have h := h _ rfl
        refine V_aload_n (pc2 := 51) (dk D_X2_visit 28 rfl) rfl (V_lg 0 rfl) rfl ?_
        refine V_dup (pc2 := 52) (dk D_X2_visit 29 rfl) rfl rfl ?_
        refine V_getI kc2 (pc2 := 55) 4 (dk D_X2_visit 30 rfl) fl_2_53 (by decide) (fun _ => rfl) rfl h2 ?_
        refine V_iconst (x := 1) (pc2 := 56) (dk D_X2_visit 31 rfl) (by decide) rfl ?_
        refine V_iadd (pc2 := 57) (dk D_X2_visit 32 rfl) rfl ?_
        refine V_putI kc2 (pc2 := 60) 4 (dk D_X2_visit 33 rfl) fl_2_53 (by decide) (Or.inl rfl) rfl rfl h2 ?_
        have h := h _ rfl
        refine V_aload_n (pc2 := 61) (dk D_X2_visit 34 rfl) rfl (V_lg 0 rfl) rfl ?_
        refine V_aload_n (pc2 := 62) (dk D_X2_visit 35 rfl) rfl (V_lg 0 rfl) rfl ?_
        refine V_iload_n (pc2 := 63) (dk D_X2_visit 36 rfl) rfl (V_lg 1 rfl) rfl ?_
        refine V_iconst (x := 4) (pc2 := 64) (dk D_X2_visit 37 rfl) (by decide) rfl ?_
        obtain ⟨e15, he16, hc17⟩ := h
        refine V_callV (as := [_, _]) (st := [_]) (M' := MX2_get) (ci := 2) (pc2 := 67) (dk D_X2_visit 38 rfl) ml_2_45 mv_X2_get rfl rfl (by decide) rfl (Nat.le_of_ble_eq_true rfl) rfl he16 h2 hc17 (RI.k fun y18 S19 h => ?_)
        refine V_iload_n (pc2 := 68) (dk D_X2_visit 39 rfl) rfl (V_lg 2 rfl) rfl ?_
        refine V_iconst (x := 1) (pc2 := 69) (dk D_X2_visit 40 rfl) (by decide) rfl ?_
        refine V_iadd (pc2 := 70) (dk D_X2_visit 41 rfl) rfl ?_
        refine V_iconst (x := 1) (pc2 := 71) (dk D_X2_visit 42 rfl) (by decide) rfl ?_
        obtain ⟨h24, h⟩ := h
        obtain ⟨e20, he21, hc22⟩ := h
        refine V_callV (as := [_, _, _]) (st := []) (M' := MX2_visit) (ci := 2) (pc2 := 74) (dk D_X2_visit 43 rfl) ml_2_56 mv_X2_visit rfl rfl (by decide) rfl (Nat.le_of_ble_eq_true rfl) rfl he21 h24 hc22 (RV.k fun  S23 h => ?_)
        refine V_aload_n (pc2 := 75) (dk D_X2_visit 44 rfl) rfl (V_lg 0 rfl) rfl ?_
        refine V_iload_n (pc2 := 76) (dk D_X2_visit 45 rfl) rfl (V_lg 1 rfl) rfl ?_
        refine V_iconst (x := 5) (pc2 := 77) (dk D_X2_visit 46 rfl) (by decide) rfl ?_
        obtain ⟨h30, h⟩ := h
        obtain ⟨e25, he26, hc27⟩ := h
        refine V_callV (as := [_, _]) (st := []) (M' := MX2_get) (ci := 2) (pc2 := 80) (dk D_X2_visit 47 rfl) ml_2_45 mv_X2_get rfl rfl (by decide) rfl (Nat.le_of_ble_eq_true rfl) rfl he26 h30 hc27 (RI.k fun y28 S29 h => ?_)
        refine V_istore (pc2 := 82) (lv2 := [(0, _), (1, _), (2, _), (3, _), (4, _)]) (dk D_X2_visit 48 rfl) (by decide) rfl rfl ?_
        refine V_iconst (x := 0) (pc2 := 83) (dk D_X2_visit 49 rfl) (by decide) rfl ?_
        refine V_istore (pc2 := 85) (lv2 := [(0, _), (1, _), (2, _), (3, _), (4, _), (5, _)]) (dk D_X2_visit 50 rfl) (by decide) rfl rfl ?_
        exact h
      · have h := h.2 q4
        exact h
theorem w_X2_visit_19 {X : Cx} {d : Nat} {S : Mem} {Q : Res → Mem → Prop} (r0 : Nat) (x1 : Int32) (x2 : Int32) (x3 : Int32) (h : Q (.inl none) S) : V X d MX2_visit 19 [(0, vR r0), (1, vI x1), (2, vI x2), (3, vI x3)] [] S Q := by
  exact V_return (dk D_X2_visit 9 rfl) rfl h
theorem w_X2_visit_85 {X : Cx} {d : Nat} {S : Mem} {Q : Res → Mem → Prop} (r0 : Nat) (x1 : Int32) (x2 : Int32) (x3 : Int32) (x4 : Int32) (x5 : Int32) (h : ((40 ≤ x5 → V X d MX2_visit 123 [(0, vR r0), (1, vI x1), (2, vI x2), (3, vI x3), (4, vI x4), (5, vI x5)] [] S Q) ∧ (¬ 40 ≤ x5 → ((x4 = 0 → V X d MX2_visit 123 [(0, vR r0), (1, vI x1), (2, vI x2), (3, vI x3), (4, vI x4), (5, vI x5)] [] S Q) ∧ (¬ x4 = 0 → (isK S r0 2) ∧ ∃ e3 : Nat, e3 + 1 ≤ d ∧ C X e3 MX2_visit [vR r0, vI x4, vI (x2 + 1), vI 2] S (RV fun  S6 => (isK S6 r0 2) ∧ ∃ e8 : Nat, e8 + 1 ≤ d ∧ C X e8 MX2_get [vR r0, vI x4, vI 7] S6 (RI fun y11 S12 => V X d MX2_visit 85 [(0, vR r0), (1, vI x1), (2, vI x2), (3, vI x3), (4, vI y11), (5, vI (x5 + 1))] [] S12 Q))))))) : V X d MX2_visit 85 [(0, vR r0), (1, vI x1), (2, vI x2), (3, vI x3), (4, vI x4), (5, vI x5)] [] S Q := by
  refine V_iload (pc2 := 87) (dk D_X2_visit 51 rfl) (V_lg 5 rfl) rfl ?_
  refine V_bipush (x := 40) (pc2 := 89) (dk D_X2_visit 52 rfl) (by decide) rfl ?_
  refine V_cmpge (tgt := 123) (pc2 := 92) (dk D_X2_visit 53 rfl) (by decide) rfl (fun q1 => ?_) (fun q1 => ?_)
  · have h := h.1 q1
    exact h
  · have h := h.2 q1
    refine V_iload (pc2 := 94) (dk D_X2_visit 54 rfl) (V_lg 4 rfl) rfl ?_
    refine V_ifeq (tgt := 123) (pc2 := 97) (dk D_X2_visit 55 rfl) (by decide) rfl (fun q2 => ?_) (fun q2 => ?_)
    · have h := h.1 q2
      exact h
    · have h := h.2 q2
      refine V_aload_n (pc2 := 98) (dk D_X2_visit 56 rfl) rfl (V_lg 0 rfl) rfl ?_
      refine V_iload (pc2 := 100) (dk D_X2_visit 57 rfl) (V_lg 4 rfl) rfl ?_
      refine V_iload_n (pc2 := 101) (dk D_X2_visit 58 rfl) rfl (V_lg 2 rfl) rfl ?_
      refine V_iconst (x := 1) (pc2 := 102) (dk D_X2_visit 59 rfl) (by decide) rfl ?_
      refine V_iadd (pc2 := 103) (dk D_X2_visit 60 rfl) rfl ?_
      refine V_iconst (x := 2) (pc2 := 104) (dk D_X2_visit 61 rfl) (by decide) rfl ?_
      obtain ⟨h7, h⟩ := h
      obtain ⟨e3, he4, hc5⟩ := h
      refine V_callV (as := [_, _, _]) (st := []) (M' := MX2_visit) (ci := 2) (pc2 := 107) (dk D_X2_visit 62 rfl) ml_2_56 mv_X2_visit rfl rfl (by decide) rfl (Nat.le_of_ble_eq_true rfl) rfl he4 h7 hc5 (RV.k fun  S6 h => ?_)
      refine V_aload_n (pc2 := 108) (dk D_X2_visit 63 rfl) rfl (V_lg 0 rfl) rfl ?_
      refine V_iload (pc2 := 110) (dk D_X2_visit 64 rfl) (V_lg 4 rfl) rfl ?_
      refine V_bipush (x := 7) (pc2 := 112) (dk D_X2_visit 65 rfl) (by decide) rfl ?_
      obtain ⟨h13, h⟩ := h
      obtain ⟨e8, he9, hc10⟩ := h
      refine V_callV (as := [_, _]) (st := []) (M' := MX2_get) (ci := 2) (pc2 := 115) (dk D_X2_visit 66 rfl) ml_2_45 mv_X2_get rfl rfl (by decide) rfl (Nat.le_of_ble_eq_true rfl) rfl he9 h13 hc10 (RI.k fun y11 S12 h => ?_)
      refine V_istore (pc2 := 117) (lv2 := [(0, _), (1, _), (2, _), (3, _), (4, _), (5, _)]) (dk D_X2_visit 67 rfl) (by decide) rfl rfl ?_
      refine V_iinc (y := _ + 1) (pc2 := 120) (lv2 := [(0, _), (1, _), (2, _), (3, _), (4, _), (5, _)]) (dk D_X2_visit 68 rfl) (V_lg 5 rfl) rfl (by decide) rfl rfl ?_
      refine V_goto (tgt := 85) (dk D_X2_visit 69 rfl) (by decide) ?_
      exact h
theorem w_X2_visit_123 {X : Cx} {d : Nat} {S : Mem} {Q : Res → Mem → Prop} (r0 : Nat) (x1 : Int32) (x2 : Int32) (x3 : Int32) (x4 : Int32) (x5 : Int32) (h : Q (.inl none) S) : V X d MX2_visit 123 [(0, vR r0), (1, vI x1), (2, vI x2), (3, vI x3), (4, vI x4), (5, vI x5)] [] S Q := by
  exact V_return (dk D_X2_visit 70 rfl) rfl h
def L_X2_fact : List (Nat × Instr × Nat) := [(0, .iload_n 1, 1), (1, .ifCond .lt 17, 3), (4, .iload_n 1, 1), (5, .aload_n 0, 1), (6, .getfield 53, 3), (9, .if_icmp .ge 9, 3), (12, .iload_n 1, 1), (13, .bipush 40, 2), (15, .if_icmp .lt 5, 3), (18, .iconst (-1), 1), (19, .ireturn, 1), (20, .iload_n 2, 1), (21, .lookupswitch 41 #[(4, 27), (5, 34)], 27), (48, .aload_n 0, 1), (49, .getfield 18, 3), (52, .iload_n 1, 1), (53, .iaload, 1), (54, .ireturn, 1), (55, .aload_n 0, 1), (56, .getfield 21, 3), (59, .iload_n 1, 1), (60, .iaload, 1), (61, .ireturn, 1), (62, .aload_n 0, 1), (63, .aload_n 0, 1), (64, .getfield 15, 3), (67, .iload_n 1, 1), (68, .iaload, 1), (69, .iload_n 2, 1), (70, .invokevirtual 45, 3), (73, .ireturn, 1)]
theorem D_X2_fact : dOk cX2_fact L_X2_fact = true := by decide +kernel
theorem w_X2_fact_0 {X : Cx} {d : Nat} {S : Mem} {Q : Res → Mem → Prop} (r0 : Nat) (x1 : Int32) (x2 : Int32) (h : ((x1 < 0 → V X d MX2_fact 18 [(0, vR r0), (1, vI x1), (2, vI x2)] [] S Q) ∧ (¬ x1 < 0 → (isK S r0 2) ∧ (((gI S r0 4) ≤ x1 → V X d MX2_fact 18 [(0, vR r0), (1, vI x1), (2, vI x2)] [] S Q) ∧ (¬ (gI S r0 4) ≤ x1 → ((x1 < 40 → ((x2 = 4 → (isK S (gR S r0 6) 21) ∧ (vp_in x1 (gN S (gR S r0 6))) ∧ Q (.inl (some (vI (gI S (gR S r0 6) (x1 : Int32).toNatClampNeg)))) S) ∧ (x2 = 5 → (isK S (gR S r0 7) 21) ∧ (vp_in x1 (gN S (gR S r0 7))) ∧ Q (.inl (some (vI (gI S (gR S r0 7) (x1 : Int32).toNatClampNeg)))) S) ∧ (¬ (x2 = 4 ∨ x2 = 5) → (isK S (gR S r0 5) 21) ∧ (vp_in x1 (gN S (gR S r0 5))) ∧ ∃ e12 : Nat, e12 + 1 ≤ d ∧ C X e12 MX2_get [vR r0, vI (gI S (gR S r0 5) (x1 : Int32).toNatClampNeg), vI x2] S (RI fun y15 S16 => Q (.inl (some (vI y15))) S16)))) ∧ (¬ x1 < 40 → V X d MX2_fact 18 [(0, vR r0), (1, vI x1), (2, vI x2)] [] S Q))))))) : V X d MX2_fact 0 [(0, vR r0), (1, vI x1), (2, vI x2)] [] S Q := by
  refine V_iload_n (pc2 := 1) (dk D_X2_fact 0 rfl) rfl (V_lg 1 rfl) rfl ?_
  refine V_iflt (tgt := 18) (pc2 := 4) (dk D_X2_fact 1 rfl) (by decide) rfl (fun q1 => ?_) (fun q1 => ?_)
  · have h := h.1 q1
    exact h
  · have h := h.2 q1
    refine V_iload_n (pc2 := 5) (dk D_X2_fact 2 rfl) rfl (V_lg 1 rfl) rfl ?_
    refine V_aload_n (pc2 := 6) (dk D_X2_fact 3 rfl) rfl (V_lg 0 rfl) rfl ?_
    obtain ⟨h2, h⟩ := h
    refine V_getI kc2 (pc2 := 9) 4 (dk D_X2_fact 4 rfl) fl_2_53 (by decide) (fun _ => rfl) rfl h2 ?_
    refine V_cmpge (tgt := 18) (pc2 := 12) (dk D_X2_fact 5 rfl) (by decide) rfl (fun q3 => ?_) (fun q3 => ?_)
    · have h := h.1 q3
      exact h
    · have h := h.2 q3
      refine V_iload_n (pc2 := 13) (dk D_X2_fact 6 rfl) rfl (V_lg 1 rfl) rfl ?_
      refine V_bipush (x := 40) (pc2 := 15) (dk D_X2_fact 7 rfl) (by decide) rfl ?_
      refine V_cmplt (tgt := 20) (pc2 := 18) (dk D_X2_fact 8 rfl) (by decide) rfl (fun q4 => ?_) (fun q4 => ?_)
      · have h := h.1 q4
        refine V_iload_n (pc2 := 21) (dk D_X2_fact 11 rfl) rfl (V_lg 2 rfl) rfl ?_
        refine V_look (dk D_X2_fact 12 rfl) (by decide) [(4, 27, 48), (5, 34, 55)] 62 (by decide) (by decide) (by decide) ?_ ?_
        · simp only [List.forall_mem_cons]
          refine ⟨fun q5 => ?_, fun q5 => ?_, fun _ hq => absurd hq List.not_mem_nil⟩
          · have h := h.1 q5
            refine V_aload_n (pc2 := 49) (dk D_X2_fact 13 rfl) rfl (V_lg 0 rfl) rfl ?_
            refine V_getR kc2 (pc2 := 52) 6 (dk D_X2_fact 14 rfl) fl_2_18 (by decide) (fun _ => rfl) rfl h2 ?_
            refine V_iload_n (pc2 := 53) (dk D_X2_fact 15 rfl) rfl (V_lg 1 rfl) rfl ?_
            obtain ⟨h6, h⟩ := h
            obtain ⟨h7, h⟩ := h
            refine V_iald (pc2 := 54) (dk D_X2_fact 16 rfl) rfl h6 h7 ?_
            exact V_ireturn (dk D_X2_fact 17 rfl) rfl h
          · have h := h.2.1 q5
            refine V_aload_n (pc2 := 56) (dk D_X2_fact 18 rfl) rfl (V_lg 0 rfl) rfl ?_
            refine V_getR kc2 (pc2 := 59) 7 (dk D_X2_fact 19 rfl) fl_2_21 (by decide) (fun _ => rfl) rfl h2 ?_
            refine V_iload_n (pc2 := 60) (dk D_X2_fact 20 rfl) rfl (V_lg 1 rfl) rfl ?_
            obtain ⟨h8, h⟩ := h
            obtain ⟨h9, h⟩ := h
            refine V_iald (pc2 := 61) (dk D_X2_fact 21 rfl) rfl h8 h9 ?_
            exact V_ireturn (dk D_X2_fact 22 rfl) rfl h
        · intro q5
          simp only [List.forall_mem_cons] at q5
          have h := h.2.2 (by rintro (hk | hk) <;> simp_all)
          refine V_aload_n (pc2 := 63) (dk D_X2_fact 23 rfl) rfl (V_lg 0 rfl) rfl ?_
          refine V_aload_n (pc2 := 64) (dk D_X2_fact 24 rfl) rfl (V_lg 0 rfl) rfl ?_
          refine V_getR kc2 (pc2 := 67) 5 (dk D_X2_fact 25 rfl) fl_2_15 (by decide) (fun _ => rfl) rfl h2 ?_
          refine V_iload_n (pc2 := 68) (dk D_X2_fact 26 rfl) rfl (V_lg 1 rfl) rfl ?_
          obtain ⟨h10, h⟩ := h
          obtain ⟨h11, h⟩ := h
          refine V_iald (pc2 := 69) (dk D_X2_fact 27 rfl) rfl h10 h11 ?_
          refine V_iload_n (pc2 := 70) (dk D_X2_fact 28 rfl) rfl (V_lg 2 rfl) rfl ?_
          obtain ⟨e12, he13, hc14⟩ := h
          refine V_callV (as := [_, _]) (st := []) (M' := MX2_get) (ci := 2) (pc2 := 73) (dk D_X2_fact 29 rfl) ml_2_45 mv_X2_get rfl rfl (by decide) rfl (Nat.le_of_ble_eq_true rfl) rfl he13 h2 hc14 (RI.k fun y15 S16 h => ?_)
          exact V_ireturn (dk D_X2_fact 30 rfl) rfl h
      · have h := h.2 q4
        exact h
theorem w_X2_fact_18 {X : Cx} {d : Nat} {S : Mem} {Q : Res → Mem → Prop} (r0 : Nat) (x1 : Int32) (x2 : Int32) (h : Q (.inl (some (vI (-1)))) S) : V X d MX2_fact 18 [(0, vR r0), (1, vI x1), (2, vI x2)] [] S Q := by
  refine V_iconst (x := (-1)) (pc2 := 19) (dk D_X2_fact 9 rfl) (by decide) rfl ?_
  exact V_ireturn (dk D_X2_fact 10 rfl) rfl h
def L_X2_get : List (Nat × Instr × Nat) := [(0, .iload_n 1, 1), (1, .bipush 8, 2), (3, .imul, 1), (4, .iload_n 2, 1), (5, .iadd, 1), (6, .istore_n 3, 1), (7, .iload_n 3, 1), (8, .ifCond .lt 12, 3), (11, .iload_n 3, 1), (12, .aload_n 0, 1), (13, .getfield 11, 3), (16, .arraylength, 1), (17, .if_icmp .lt 7, 3), (20, .iconst 0, 1), (21, .goto 9, 3), (24, .aload_n 0, 1), (25, .getfield 11, 3), (28, .iload_n 3, 1), (29, .iaload, 1), (30, .ireturn, 1)]
theorem D_X2_get : dOk cX2_get L_X2_get = true := by decide +kernel
theorem w_X2_get_0 {X : Cx} {d : Nat} {S : Mem} {Q : Res → Mem → Prop} (r0 : Nat) (x1 : Int32) (x2 : Int32) (h : ((((x1 * 8) + x2) < 0 → V X d MX2_get 20 [(0, vR r0), (1, vI x1), (2, vI x2), (3, vI ((x1 * 8) + x2))] [] S Q) ∧ (¬ ((x1 * 8) + x2) < 0 → (isK S r0 2) ∧ (isK S (gR S r0 0) 21) ∧ ((((x1 * 8) + x2) < (nI (gN S (gR S r0 0))) → (vp_in ((x1 * 8) + x2) (gN S (gR S r0 0))) ∧ V X d MX2_get 30 [(0, vR r0), (1, vI x1), (2, vI x2), (3, vI ((x1 * 8) + x2))] [vI (gI S (gR S r0 0) (((x1 * 8) + x2) : Int32).toNatClampNeg)] S Q) ∧ (¬ ((x1 * 8) + x2) < (nI (gN S (gR S r0 0))) → V X d MX2_get 20 [(0, vR r0), (1, vI x1), (2, vI x2), (3, vI ((x1 * 8) + x2))] [] S Q))))) : V X d MX2_get 0 [(0, vR r0), (1, vI x1), (2, vI x2)] [] S Q := by
  refine V_iload_n (pc2 := 1) (dk D_X2_get 0 rfl) rfl (V_lg 1 rfl) rfl ?_
  refine V_bipush (x := 8) (pc2 := 3) (dk D_X2_get 1 rfl) (by decide) rfl ?_
  refine V_imul (pc2 := 4) (dk D_X2_get 2 rfl) rfl ?_
  refine V_iload_n (pc2 := 5) (dk D_X2_get 3 rfl) rfl (V_lg 2 rfl) rfl ?_
  refine V_iadd (pc2 := 6) (dk D_X2_get 4 rfl) rfl ?_
  refine V_istore_n (pc2 := 7) (lv2 := [(0, _), (1, _), (2, _), (3, _)]) (dk D_X2_get 5 rfl) rfl (by decide) rfl rfl ?_
  refine V_iload_n (pc2 := 8) (dk D_X2_get 6 rfl) rfl (V_lg 3 rfl) rfl ?_
  refine V_iflt (tgt := 20) (pc2 := 11) (dk D_X2_get 7 rfl) (by decide) rfl (fun q1 => ?_) (fun q1 => ?_)
  · have h := h.1 q1
    exact h
  · have h := h.2 q1
    refine V_iload_n (pc2 := 12) (dk D_X2_get 8 rfl) rfl (V_lg 3 rfl) rfl ?_
    refine V_aload_n (pc2 := 13) (dk D_X2_get 9 rfl) rfl (V_lg 0 rfl) rfl ?_
    obtain ⟨h2, h⟩ := h
    refine V_getR kc2 (pc2 := 16) 0 (dk D_X2_get 10 rfl) fl_2_11 (by decide) (fun _ => rfl) rfl h2 ?_
    obtain ⟨h3, h⟩ := h
    refine V_alenI (pc2 := 17) (dk D_X2_get 11 rfl) rfl h3 ?_
    refine V_cmplt (tgt := 24) (pc2 := 20) (dk D_X2_get 12 rfl) (by decide) rfl (fun q4 => ?_) (fun q4 => ?_)
    · have h := h.1 q4
      refine V_aload_n (pc2 := 25) (dk D_X2_get 15 rfl) rfl (V_lg 0 rfl) rfl ?_
      refine V_getR kc2 (pc2 := 28) 0 (dk D_X2_get 16 rfl) fl_2_11 (by decide) (fun _ => rfl) rfl h2 ?_
      refine V_iload_n (pc2 := 29) (dk D_X2_get 17 rfl) rfl (V_lg 3 rfl) rfl ?_
      obtain ⟨h5, h⟩ := h
      refine V_iald (pc2 := 30) (dk D_X2_get 18 rfl) rfl h3 h5 ?_
      exact h
    · have h := h.2 q4
      exact h
theorem w_X2_get_20 {X : Cx} {d : Nat} {S : Mem} {Q : Res → Mem → Prop} (r0 : Nat) (x1 : Int32) (x2 : Int32) (x3 : Int32) (h : V X d MX2_get 30 [(0, vR r0), (1, vI x1), (2, vI x2), (3, vI x3)] [vI 0] S Q) : V X d MX2_get 20 [(0, vR r0), (1, vI x1), (2, vI x2), (3, vI x3)] [] S Q := by
  refine V_iconst (x := 0) (pc2 := 21) (dk D_X2_get 13 rfl) (by decide) rfl ?_
  refine V_goto (tgt := 30) (dk D_X2_get 14 rfl) (by decide) ?_
  exact h
theorem w_X2_get_30 {X : Cx} {d : Nat} {S : Mem} {Q : Res → Mem → Prop} (r0 : Nat) (x1 : Int32) (x2 : Int32) (x3 : Int32) (t0 : Int32) (h : Q (.inl (some (vI t0))) S) : V X d MX2_get 30 [(0, vR r0), (1, vI x1), (2, vI x2), (3, vI x3)] [vI t0] S Q := by
  exact V_ireturn (dk D_X2_get 19 rfl) rfl h
def L_X2_put : List (Nat × Instr × Nat) := [(0, .iload_n 1, 1), (1, .bipush 8, 2), (3, .imul, 1), (4, .iload_n 2, 1), (5, .iadd, 1), (6, .istore 4, 2), (8, .iload 4, 2), (10, .ifCond .lt 21, 3), (13, .iload 4, 2), (15, .aload_n 0, 1), (16, .getfield 11, 3), (19, .arraylength, 1), (20, .if_icmp .ge 11, 3), (23, .aload_n 0, 1), (24, .getfield 11, 3), (27, .iload 4, 2), (29, .iload_n 3, 1), (30, .iastore, 1), (31, .return_, 1)]
theorem D_X2_put : dOk cX2_put L_X2_put = true := by decide +kernel
theorem w_X2_put_0 {X : Cx} {d : Nat} {S : Mem} {Q : Res → Mem → Prop} (r0 : Nat) (x1 : Int32) (x2 : Int32) (x3 : Int32) (h : ((((x1 * 8) + x2) < 0 → V X d MX2_put 31 [(0, vR r0), (1, vI x1), (2, vI x2), (3, vI x3), (4, vI ((x1 * 8) + x2))] [] S Q) ∧ (¬ ((x1 * 8) + x2) < 0 → (isK S r0 2) ∧ (isK S (gR S r0 0) 21) ∧ (((nI (gN S (gR S r0 0))) ≤ ((x1 * 8) + x2) → V X d MX2_put 31 [(0, vR r0), (1, vI x1), (2, vI x2), (3, vI x3), (4, vI ((x1 * 8) + x2))] [] S Q) ∧ (¬ (nI (gN S (gR S r0 0))) ≤ ((x1 * 8) + x2) → (vp_in ((x1 * 8) + x2) (gN S (gR S r0 0))) ∧ ∀ S6 : Mem, S6 = uI S (gR S r0 0) ((((x1 * 8) + x2) : Int32).toNatClampNeg) x3 → V X d MX2_put 31 [(0, vR r0), (1, vI x1), (2, vI x2), (3, vI x3), (4, vI ((x1 * 8) + x2))] [] S6 Q))))) : V X d MX2_put 0 [(0, vR r0), (1, vI x1), (2, vI x2), (3, vI x3)] [] S Q := by
  refine V_iload_n (pc2 := 1) (dk D_X2_put 0 rfl) rfl (V_lg 1 rfl) rfl ?_
  refine V_bipush (x := 8) (pc2 := 3) (dk D_X2_put 1 rfl) (by decide) rfl ?_
  refine V_imul (pc2 := 4) (dk D_X2_put 2 rfl) rfl ?_
  refine V_iload_n (pc2 := 5) (dk D_X2_put 3 rfl) rfl (V_lg 2 rfl) rfl ?_
  refine V_iadd (pc2 := 6) (dk D_X2_put 4 rfl) rfl ?_
  refine V_istore (pc2 := 8) (lv2 := [(0, _), (1, _), (2, _), (3, _), (4, _)]) (dk D_X2_put 5 rfl) (by decide) rfl rfl ?_
  refine V_iload (pc2 := 10) (dk D_X2_put 6 rfl) (V_lg 4 rfl) rfl ?_
  refine V_iflt (tgt := 31) (pc2 := 13) (dk D_X2_put 7 rfl) (by decide) rfl (fun q1 => ?_) (fun q1 => ?_)
  · have h := h.1 q1
    exact h
  · have h := h.2 q1
    refine V_iload (pc2 := 15) (dk D_X2_put 8 rfl) (V_lg 4 rfl) rfl ?_
    refine V_aload_n (pc2 := 16) (dk D_X2_put 9 rfl) rfl (V_lg 0 rfl) rfl ?_
    obtain ⟨h2, h⟩ := h
    refine V_getR kc2 (pc2 := 19) 0 (dk D_X2_put 10 rfl) fl_2_11 (by decide) (fun _ => rfl) rfl h2 ?_
    obtain ⟨h3, h⟩ := h
    refine V_alenI (pc2 := 20) (dk D_X2_put 11 rfl) rfl h3 ?_
    refine V_cmpge (tgt := 31) (pc2 := 23) (dk D_X2_put 12 rfl) (by decide) rfl (fun q4 => ?_) (fun q4 => ?_)
    · have h := h.1 q4
      exact h
    · have h := h.2 q4
      refine V_aload_n (pc2 := 24) (dk D_X2_put 13 rfl) rfl (V_lg 0 rfl) rfl ?_
      refine V_getR kc2 (pc2 := 27) 0 (dk D_X2_put 14 rfl) fl_2_11 (by decide) (fun _ => rfl) rfl h2 ?_
      refine V_iload (pc2 := 29) (dk D_X2_put 15 rfl) (V_lg 4 rfl) rfl ?_
      refine V_iload_n (pc2 := 30) (dk D_X2_put 16 rfl) rfl (V_lg 3 rfl) rfl ?_
      obtain ⟨h5, h⟩ := h
      refine V_iast (pc2 := 31) (dk D_X2_put 17 rfl) rfl h3 h5 ?_
      have h := h _ rfl
      exact h
theorem w_X2_put_31 {X : Cx} {d : Nat} {S : Mem} {Q : Res → Mem → Prop} (r0 : Nat) (x1 : Int32) (x2 : Int32) (x3 : Int32) (x4 : Int32) (h : Q (.inl none) S) : V X d MX2_put 31 [(0, vR r0), (1, vI x1), (2, vI x2), (3, vI x3), (4, vI x4)] [] S Q := by
  exact V_return (dk D_X2_put 18 rfl) rfl h
