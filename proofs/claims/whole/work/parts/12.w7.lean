def L_X7_init : List (Nat × Instr × Nat) := [(0, .aload_n 0, 1), (1, .invokespecial 3, 3), (4, .aload_n 0, 1), (5, .new 9, 3), (8, .dup, 1), (9, .invokespecial 11, 3), (12, .putfield 12, 3), (15, .aload_n 0, 1), (16, .bipush 12, 2), (18, .anewarray 18, 3), (21, .putfield 20, 3), (24, .return_, 1)]
theorem D_X7_init : dOk cX7_init L_X7_init = true := by decide +kernel
theorem w_X7_init_0 {X : Cx} {d : Nat} {S : Mem} {Q : Res → Mem → Prop} (r0 : Nat) (h : (1 ≤ d) ∧ (r0 ≠ 0) ∧ ∀ S3 : Mem, S3 = nw S 1 0 3 → ((tp S) ≠ 0) ∧ ∃ e4 : Nat, e4 + 1 ≤ d ∧ C X e4 MX1_init [vR (tp S)] S3 (RV fun  S7 => (isK S7 r0 7) ∧ ∀ S10 : Mem, S10 = uR S7 r0 0 (tp S) → ∀ S11 : Mem, S11 = nw S10 24 12 12 → ∀ S12 : Mem, S12 = uR S11 r0 1 (tp S10) → Q (.inl none) S12)) : V X d MX7_init 0 [(0, vR r0)] [] S Q := by
  refine V_aload_n (pc2 := 1) (dk D_X7_init 0 rfl) rfl (V_lg 0 rfl) rfl ?_
  obtain ⟨h1, h⟩ := h
  obtain ⟨h2, h⟩ := h
  refine V_obj (pc2 := 4) (dk D_X7_init 1 rfl) ml_7_3 oi_i oi_c rfl (Nat.le_of_ble_eq_true rfl) h1 h2 ?_
  refine V_aload_n (pc2 := 5) (dk D_X7_init 2 rfl) rfl (V_lg 0 rfl) rfl ?_
  refine V_newC kc1 (pc2 := 8) (dk D_X7_init 3 rfl) cl_7_9 it_1 ii_1 (by decide) rfl ?_
  have h := h _ rfl
  refine V_dup (pc2 := 9) (dk D_X7_init 4 rfl) rfl rfl ?_
  obtain ⟨h8, h⟩ := h
  obtain ⟨e4, he5, hc6⟩ := h
  refine V_callIN (as := []) (st := [_, _]) (M' := MX1_init) (pc2 := 12) (dk D_X7_init 5 rfl) ml_7_11 mv_X1_init rfl rfl rfl (Nat.le_of_ble_eq_true rfl) rfl he5 h8 hc6 (RV.k fun  S7 h => ?_)
  obtain ⟨h9, h⟩ := h
  refine V_putR kc7 (pc2 := 15) 0 (dk D_X7_init 6 rfl) fl_7_12 (by decide) (Or.inr ⟨rfl, rfl, rfl⟩) (Or.inl ⟨_, rfl⟩) rfl h9 ?_
  have h := h _ rfl
  refine V_aload_n (pc2 := 16) (dk D_X7_init 7 rfl) rfl (V_lg 0 rfl) rfl ?_
  refine V_bipush (x := 12) (pc2 := 18) (dk D_X7_init 8 rfl) (by decide) rfl ?_
  refine V_anewO (M := MX7_init) (k := 24) (t0 := 4) (n := 12) (pc2 := 21) (by decide) (by decide) rfl rfl (dk D_X7_init 9 rfl) cl_7_18 ao_24 rfl (litI 12) (Nat.le_of_ble_eq_true rfl) ?_
  have h := h _ rfl
  refine V_putR kc7 (pc2 := 24) 1 (dk D_X7_init 10 rfl) fl_7_20 (by decide) (Or.inr ⟨rfl, rfl, rfl⟩) (Or.inr ⟨_, rfl⟩) rfl (isK_nw h9) ?_
  have h := h _ rfl
  exact V_return (dk D_X7_init 11 rfl) rfl h
def L_X7_clear : List (Nat × Instr × Nat) := [(0, .aload_n 0, 1), (1, .getfield 12, 3), (4, .invokevirtual 24, 3), (7, .aload_n 0, 1), (8, .iconst 0, 1), (9, .putfield 27, 3), (12, .aload_n 0, 1), (13, .bipush (-9), 2), (15, .putfield 31, 3), (18, .return_, 1)]
theorem D_X7_clear : dOk cX7_clear L_X7_clear = true := by decide +kernel
theorem w_X7_clear_0 {X : Cx} {d : Nat} {S : Mem} {Q : Res → Mem → Prop} (r0 : Nat) (h : (isK S r0 7) ∧ (isK S (gR S r0 0) 1) ∧ ∃ e2 : Nat, e2 + 1 ≤ d ∧ C X e2 MX1_clear [vR (gR S r0 0)] S (RV fun  S5 => (isK S5 r0 7) ∧ ∀ S8 : Mem, S8 = uI S5 r0 2 0 → ∀ S9 : Mem, S9 = uI S8 r0 3 (-9) → Q (.inl none) S9)) : V X d MX7_clear 0 [(0, vR r0)] [] S Q := by
  refine V_aload_n (pc2 := 1) (dk D_X7_clear 0 rfl) rfl (V_lg 0 rfl) rfl ?_
  obtain ⟨h1, h⟩ := h
  refine V_getR kc7 (pc2 := 4) 0 (dk D_X7_clear 1 rfl) fl_7_12 (by decide) (fun _ => rfl) rfl h1 ?_
  obtain ⟨h6, h⟩ := h
  obtain ⟨e2, he3, hc4⟩ := h
  refine V_callV (as := []) (st := []) (M' := MX1_clear) (ci := 1) (pc2 := 7) (dk D_X7_clear 2 rfl) ml_7_24 mv_X1_clear rfl rfl (by decide) rfl (Nat.le_of_ble_eq_true rfl) rfl he3 h6 hc4 (RV.k fun  S5 h => ?_)
  refine V_aload_n (pc2 := 8) (dk D_X7_clear 3 rfl) rfl (V_lg 0 rfl) rfl ?_
  refine V_iconst (x := 0) (pc2 := 9) (dk D_X7_clear 4 rfl) (by decide) rfl ?_
  obtain ⟨h7, h⟩ := h
  refine V_putI kc7 (pc2 := 12) 2 (dk D_X7_clear 5 rfl) fl_7_27 (by decide) (Or.inl rfl) rfl rfl h7 ?_
  have h := h _ rfl
  refine V_aload_n (pc2 := 13) (dk D_X7_clear 6 rfl) rfl (V_lg 0 rfl) rfl ?_
  refine V_bipush (x := (-9)) (pc2 := 15) (dk D_X7_clear 7 rfl) (by decide) rfl ?_
  refine V_putI kc7 (pc2 := 18) 3 (dk D_X7_clear 8 rfl) fl_7_31 (by decide) (Or.inl rfl) rfl rfl h7 ?_
  have h := h _ rfl
  exact V_return (dk D_X7_clear 9 rfl) rfl h
def L_X7_size : List (Nat × Instr × Nat) := [(0, .aload_n 0, 1), (1, .getfield 27, 3), (4, .ireturn, 1)]
theorem D_X7_size : dOk cX7_size L_X7_size = true := by decide +kernel
theorem w_X7_size_0 {X : Cx} {d : Nat} {S : Mem} {Q : Res → Mem → Prop} (r0 : Nat) (h : (isK S r0 7) ∧ Q (.inl (some (vI (gI S r0 2)))) S) : V X d MX7_size 0 [(0, vR r0)] [] S Q := by
  refine V_aload_n (pc2 := 1) (dk D_X7_size 0 rfl) rfl (V_lg 0 rfl) rfl ?_
  obtain ⟨h1, h⟩ := h
  refine V_getI kc7 (pc2 := 4) 2 (dk D_X7_size 1 rfl) fl_7_27 (by decide) (fun _ => rfl) rfl h1 ?_
  exact V_ireturn (dk D_X7_size 2 rfl) rfl h
def L_X7_at : List (Nat × Instr × Nat) := [(0, .iload_n 1, 1), (1, .ifCond .lt 17, 3), (4, .iload_n 1, 1), (5, .aload_n 0, 1), (6, .getfield 27, 3), (9, .if_icmp .ge 9, 3), (12, .iload_n 1, 1), (13, .bipush 12, 2), (15, .if_icmp .lt 7, 3), (18, .aconst_null, 1), (19, .goto 9, 3), (22, .aload_n 0, 1), (23, .getfield 20, 3), (26, .iload_n 1, 1), (27, .aaload, 1), (28, .areturn, 1)]
theorem D_X7_at : dOk cX7_at L_X7_at = true := by decide +kernel
theorem w_X7_at_0 {X : Cx} {d : Nat} {S : Mem} {Q : Res → Mem → Prop} (r0 : Nat) (x1 : Int32) (h : ((x1 < 0 → V X d MX7_at 18 [(0, vR r0), (1, vI x1)] [] S Q) ∧ (¬ x1 < 0 → (isK S r0 7) ∧ (((gI S r0 2) ≤ x1 → V X d MX7_at 18 [(0, vR r0), (1, vI x1)] [] S Q) ∧ (¬ (gI S r0 2) ≤ x1 → ((x1 < 12 → (isK S (gR S r0 1) 24) ∧ (vp_in x1 (gN S (gR S r0 1))) ∧ V X d MX7_at 28 [(0, vR r0), (1, vI x1)] [vR (gR S (gR S r0 1) (x1 : Int32).toNatClampNeg)] S Q) ∧ (¬ x1 < 12 → V X d MX7_at 18 [(0, vR r0), (1, vI x1)] [] S Q))))))) : V X d MX7_at 0 [(0, vR r0), (1, vI x1)] [] S Q := by
  refine V_iload_n (pc2 := 1) (dk D_X7_at 0 rfl) rfl (V_lg 1 rfl) rfl ?_
  refine V_iflt (tgt := 18) (pc2 := 4) (dk D_X7_at 1 rfl) (by decide) rfl (fun q1 => ?_) (fun q1 => ?_)
  · have h := h.1 q1
    exact h
  · have h := h.2 q1
    refine V_iload_n (pc2 := 5) (dk D_X7_at 2 rfl) rfl (V_lg 1 rfl) rfl ?_
    refine V_aload_n (pc2 := 6) (dk D_X7_at 3 rfl) rfl (V_lg 0 rfl) rfl ?_
    obtain ⟨h2, h⟩ := h
    refine V_getI kc7 (pc2 := 9) 2 (dk D_X7_at 4 rfl) fl_7_27 (by decide) (fun _ => rfl) rfl h2 ?_
    refine V_cmpge (tgt := 18) (pc2 := 12) (dk D_X7_at 5 rfl) (by decide) rfl (fun q3 => ?_) (fun q3 => ?_)
    · have h := h.1 q3
      exact h
    · have h := h.2 q3
      refine V_iload_n (pc2 := 13) (dk D_X7_at 6 rfl) rfl (V_lg 1 rfl) rfl ?_
      refine V_bipush (x := 12) (pc2 := 15) (dk D_X7_at 7 rfl) (by decide) rfl ?_
      refine V_cmplt (tgt := 22) (pc2 := 18) (dk D_X7_at 8 rfl) (by decide) rfl (fun q4 => ?_) (fun q4 => ?_)
      · have h := h.1 q4
        refine V_aload_n (pc2 := 23) (dk D_X7_at 11 rfl) rfl (V_lg 0 rfl) rfl ?_
        refine V_getR kc7 (pc2 := 26) 1 (dk D_X7_at 12 rfl) fl_7_20 (by decide) (fun _ => rfl) rfl h2 ?_
        refine V_iload_n (pc2 := 27) (dk D_X7_at 13 rfl) rfl (V_lg 1 rfl) rfl ?_
        obtain ⟨h5, h⟩ := h
        obtain ⟨h6, h⟩ := h
        refine V_aald (k := 24) (pc2 := 28) (dk D_X7_at 14 rfl) rfl (by decide) (by decide) h5 h6 ?_
        exact h
      · have h := h.2 q4
        exact h
theorem w_X7_at_18 {X : Cx} {d : Nat} {S : Mem} {Q : Res → Mem → Prop} (r0 : Nat) (x1 : Int32) (h : V X d MX7_at 28 [(0, vR r0), (1, vI x1)] [vR 0] S Q) : V X d MX7_at 18 [(0, vR r0), (1, vI x1)] [] S Q := by
  refine V_null (pc2 := 19) (dk D_X7_at 9 rfl) rfl ?_
  refine V_goto (tgt := 28) (dk D_X7_at 10 rfl) (by decide) ?_
  exact h
theorem w_X7_at_28 {X : Cx} {d : Nat} {S : Mem} {Q : Res → Mem → Prop} (r0 : Nat) (x1 : Int32) (t0 : Nat) (h : Q (.inl (some (vR t0))) S) : V X d MX7_at 28 [(0, vR r0), (1, vI x1)] [vR t0] S Q := by
  exact V_areturn (dk D_X7_at 15 rfl) rfl (Or.inl ⟨_, rfl⟩) h
def L_X7_find : List (Nat × Instr × Nat) := [(0, .iconst 0, 1), (1, .istore_n 3, 1), (2, .iload_n 3, 1), (3, .aload_n 0, 1), (4, .getfield 27, 3), (7, .if_icmp .ge 40, 3), (10, .iload_n 3, 1), (11, .bipush 12, 2), (13, .if_icmp .ge 34, 3), (16, .aload_n 0, 1), (17, .getfield 20, 3), (20, .iload_n 3, 1), (21, .aaload, 1), (22, .ifnull 19, 3), (25, .aload_n 0, 1), (26, .getfield 20, 3), (29, .iload_n 3, 1), (30, .aaload, 1), (31, .getfield 34, 3), (34, .lload_n 1, 1), (35, .lcmp, 1), (36, .ifCond .ne 5, 3), (39, .iload_n 3, 1), (40, .ireturn, 1), (41, .iinc 3 1, 3), (44, .goto (-42), 3), (47, .bipush (-9), 2), (49, .ireturn, 1)]
theorem D_X7_find : dOk cX7_find L_X7_find = true := by decide +kernel
theorem w_X7_find_0 {X : Cx} {d : Nat} {S : Mem} {Q : Res → Mem → Prop} (r0 : Nat) (l1 : Int64) (h : V X d MX7_find 2 [(0, vR r0), (1, vL l1), (3, vI 0)] [] S Q) : V X d MX7_find 0 [(0, vR r0), (1, vL l1)] [] S Q := by
  refine V_iconst (x := 0) (pc2 := 1) (dk D_X7_find 0 rfl) (by decide) rfl ?_
  refine V_istore_n (pc2 := 2) (lv2 := [(0, _), (1, _), (3, _)]) (dk D_X7_find 1 rfl) rfl (by decide) rfl rfl ?_
  exact h
theorem w_X7_find_2 {X : Cx} {d : Nat} {S : Mem} {Q : Res → Mem → Prop} (r0 : Nat) (l1 : Int64) (x3 : Int32) (h : (isK S r0 7) ∧ (((gI S r0 2) ≤ x3 → V X d MX7_find 47 [(0, vR r0), (1, vL l1), (3, vI x3)] [] S Q) ∧ (¬ (gI S r0 2) ≤ x3 → ((12 ≤ x3 → V X d MX7_find 47 [(0, vR r0), (1, vL l1), (3, vI x3)] [] S Q) ∧ (¬ 12 ≤ x3 → (isK S (gR S r0 1) 24) ∧ (vp_in x3 (gN S (gR S r0 1))) ∧ (((gR S (gR S r0 1) (x3 : Int32).toNatClampNeg) = 0 → V X d MX7_find 41 [(0, vR r0), (1, vL l1), (3, vI x3)] [] S Q) ∧ (¬ (gR S (gR S r0 1) (x3 : Int32).toNatClampNeg) = 0 → (vp_in x3 (gN S (gR S r0 1))) ∧ (isK S (gR S (gR S r0 1) (x3 : Int32).toNatClampNeg) 0) ∧ ((¬ (lg_cmp (gL S (gR S (gR S r0 1) (x3 : Int32).toNatClampNeg) 1) l1) = 0 → V X d MX7_find 41 [(0, vR r0), (1, vL l1), (3, vI x3)] [] S Q) ∧ ((lg_cmp (gL S (gR S (gR S r0 1) (x3 : Int32).toNatClampNeg) 1) l1) = 0 → Q (.inl (some (vI x3))) S))))))))) : V X d MX7_find 2 [(0, vR r0), (1, vL l1), (3, vI x3)] [] S Q := by
  refine V_iload_n (pc2 := 3) (dk D_X7_find 2 rfl) rfl (V_lg 2 rfl) rfl ?_
  refine V_aload_n (pc2 := 4) (dk D_X7_find 3 rfl) rfl (V_lg 0 rfl) rfl ?_
  obtain ⟨h1, h⟩ := h
  refine V_getI kc7 (pc2 := 7) 2 (dk D_X7_find 4 rfl) fl_7_27 (by decide) (fun _ => rfl) rfl h1 ?_
  refine V_cmpge (tgt := 47) (pc2 := 10) (dk D_X7_find 5 rfl) (by decide) rfl (fun q2 => ?_) (fun q2 => ?_)
  · have h := h.1 q2
    exact h
  · have h := h.2 q2
    refine V_iload_n (pc2 := 11) (dk D_X7_find 6 rfl) rfl (V_lg 2 rfl) rfl ?_
    refine V_bipush (x := 12) (pc2 := 13) (dk D_X7_find 7 rfl) (by decide) rfl ?_
    refine V_cmpge (tgt := 47) (pc2 := 16) (dk D_X7_find 8 rfl) (by decide) rfl (fun q3 => ?_) (fun q3 => ?_)
    · have h := h.1 q3
      exact h
    · have h := h.2 q3
      refine V_aload_n (pc2 := 17) (dk D_X7_find 9 rfl) rfl (V_lg 0 rfl) rfl ?_
      refine V_getR kc7 (pc2 := 20) 1 (dk D_X7_find 10 rfl) fl_7_20 (by decide) (fun _ => rfl) rfl h1 ?_
      refine V_iload_n (pc2 := 21) (dk D_X7_find 11 rfl) rfl (V_lg 2 rfl) rfl ?_
      obtain ⟨h4, h⟩ := h
      obtain ⟨h5, h⟩ := h
      refine V_aald (k := 24) (pc2 := 22) (dk D_X7_find 12 rfl) rfl (by decide) (by decide) h4 h5 ?_
      refine V_ifnull (tgt := 41) (pc2 := 25) (dk D_X7_find 13 rfl) (by decide) rfl (fun q6 => ?_) (fun q6 => ?_)
      · have h := h.1 q6
        exact h
      · have h := h.2 q6
        refine V_aload_n (pc2 := 26) (dk D_X7_find 14 rfl) rfl (V_lg 0 rfl) rfl ?_
        refine V_getR kc7 (pc2 := 29) 1 (dk D_X7_find 15 rfl) fl_7_20 (by decide) (fun _ => rfl) rfl h1 ?_
        refine V_iload_n (pc2 := 30) (dk D_X7_find 16 rfl) rfl (V_lg 2 rfl) rfl ?_
        obtain ⟨h7, h⟩ := h
        refine V_aald (k := 24) (pc2 := 31) (dk D_X7_find 17 rfl) rfl (by decide) (by decide) h4 h7 ?_
        obtain ⟨h8, h⟩ := h
        refine V_getL kc0 (pc2 := 34) 1 (dk D_X7_find 18 rfl) fl_7_34 (by decide) (fun _ => rfl) rfl h8 ?_
        refine V_lload_n (pc2 := 35) (dk D_X7_find 19 rfl) rfl (V_lg 1 rfl) rfl ?_
        refine V_lcmp (pc2 := 36) (dk D_X7_find 20 rfl) rfl ?_
        refine V_ifne (tgt := 41) (pc2 := 39) (dk D_X7_find 21 rfl) (by decide) rfl (fun q9 => ?_) (fun q9 => ?_)
        · have h := h.1 q9
          exact h
        · have h := h.2 q9
          refine V_iload_n (pc2 := 40) (dk D_X7_find 22 rfl) rfl (V_lg 2 rfl) rfl ?_
          exact V_ireturn (dk D_X7_find 23 rfl) rfl h
theorem w_X7_find_41 {X : Cx} {d : Nat} {S : Mem} {Q : Res → Mem → Prop} (r0 : Nat) (l1 : Int64) (x3 : Int32) (h : V X d MX7_find 2 [(0, vR r0), (1, vL l1), (3, vI (x3 + 1))] [] S Q) : V X d MX7_find 41 [(0, vR r0), (1, vL l1), (3, vI x3)] [] S Q := by
  refine V_iinc (y := _ + 1) (pc2 := 44) (lv2 := [(0, _), (1, _), (3, _)]) (dk D_X7_find 24 rfl) (V_lg 2 rfl) rfl (by decide) rfl rfl ?_
  refine V_goto (tgt := 2) (dk D_X7_find 25 rfl) (by decide) ?_
  exact h
theorem w_X7_find_47 {X : Cx} {d : Nat} {S : Mem} {Q : Res → Mem → Prop} (r0 : Nat) (l1 : Int64) (x3 : Int32) (h : Q (.inl (some (vI (-9)))) S) : V X d MX7_find 47 [(0, vR r0), (1, vL l1), (3, vI x3)] [] S Q := by
  refine V_bipush (x := (-9)) (pc2 := 49) (dk D_X7_find 26 rfl) (by decide) rfl ?_
  exact V_ireturn (dk D_X7_find 27 rfl) rfl h
def L_X7_add : List (Nat × Instr × Nat) := [(0, .aload_n 0, 1), (1, .getfield 27, 3), (4, .bipush 12, 2), (6, .if_icmp .lt 5, 3), (9, .aconst_null, 1), (10, .areturn, 1), (11, .aload_n 0, 1), (12, .getfield 20, 3), (15, .aload_n 0, 1), (16, .getfield 27, 3), (19, .aaload, 1), (20, .ifnonnull 19, 3), (23, .aload_n 0, 1), (24, .getfield 20, 3), (27, .aload_n 0, 1), (28, .getfield 27, 3), (31, .new 18, 3), (34, .dup, 1), (35, .invokespecial 38, 3), (38, .aastore, 1), (39, .aload_n 0, 1), (40, .getfield 20, 3), (43, .aload_n 0, 1), (44, .getfield 27, 3), (47, .aaload, 1), (48, .lconst 0, 1), (49, .putfield 34, 3), (52, .aload_n 0, 1), (53, .dup, 1), (54, .getfield 27, 3), (57, .iconst 1, 1), (58, .iadd, 1), (59, .putfield 27, 3), (62, .aload_n 0, 1), (63, .getfield 20, 3), (66, .aload_n 0, 1), (67, .getfield 27, 3), (70, .iconst 1, 1), (71, .isub, 1), (72, .aaload, 1), (73, .areturn, 1)]
theorem D_X7_add : dOk cX7_add L_X7_add = true := by decide +kernel
theorem w_X7_add_0 {X : Cx} {d : Nat} {S : Mem} {Q : Res → Mem → Prop} (r0 : Nat) (h : (isK S r0 7) ∧ (((gI S r0 2) < 12 → (isK S (gR S r0 1) 24) ∧ (vp_in (gI S r0 2) (gN S (gR S r0 1))) ∧ ((¬ (gR S (gR S r0 1) ((gI S r0 2) : Int32).toNatClampNeg) = 0 → V X d MX7_add 39 [(0, vR r0)] [] S Q) ∧ ((gR S (gR S r0 1) ((gI S r0 2) : Int32).toNatClampNeg) = 0 → ∀ S6 : Mem, S6 = nw S 0 0 9 → ((tp S) ≠ 0) ∧ ∃ e7 : Nat, e7 + 1 ≤ d ∧ C X e7 MX0_init [vR (tp S)] S6 (RV fun  S10 => (isK S10 (gR S r0 1) 24) ∧ (vp_in (gI S r0 2) (gN S10 (gR S r0 1))) ∧ (isK S10 (tp S) 0) ∧ ((tp S) ≠ 0) ∧ ∀ S16 : Mem, S16 = uR S10 (gR S r0 1) (((gI S r0 2) : Int32).toNatClampNeg) (tp S) → V X d MX7_add 39 [(0, vR r0)] [] S16 Q)))) ∧ (¬ (gI S r0 2) < 12 → Q (.inl (some (vR 0))) S))) : V X d MX7_add 0 [(0, vR r0)] [] S Q := by
  refine V_aload_n (pc2 := 1) (dk D_X7_add 0 rfl) rfl (V_lg 0 rfl) rfl ?_
  obtain ⟨h1, h⟩ := h
  refine V_getI kc7 (pc2 := 4) 2 (dk D_X7_add 1 rfl) fl_7_27 (by decide) (fun _ => rfl) rfl h1 ?_
  refine V_bipush (x := 12) (pc2 := 6) (dk D_X7_add 2 rfl) (by decide) rfl ?_
  refine V_cmplt (tgt := 11) (pc2 := 9) (dk D_X7_add 3 rfl) (by decide) rfl (fun q2 => ?_) (fun q2 => ?_)
  · have h := h.1 q2
    refine V_aload_n (pc2 := 12) (dk D_X7_add 6 rfl) rfl (V_lg 0 rfl) rfl ?_
    refine V_getR kc7 (pc2 := 15) 1 (dk D_X7_add 7 rfl) fl_7_20 (by decide) (fun _ => rfl) rfl h1 ?_
    refine V_aload_n (pc2 := 16) (dk D_X7_add 8 rfl) rfl (V_lg 0 rfl) rfl ?_
    refine V_getI kc7 (pc2 := 19) 2 (dk D_X7_add 9 rfl) fl_7_27 (by decide) (fun _ => rfl) rfl h1 ?_
    obtain ⟨h3, h⟩ := h
    obtain ⟨h4, h⟩ := h
    refine V_aald (k := 24) (pc2 := 20) (dk D_X7_add 10 rfl) rfl (by decide) (by decide) h3 h4 ?_
    refine V_ifnonnull (tgt := 39) (pc2 := 23) (dk D_X7_add 11 rfl) (by decide) rfl (fun q5 => ?_) (fun q5 => ?_)
    · have h := h.1 q5
      exact h
    · have h := h.2 q5
      refine V_aload_n (pc2 := 24) (dk D_X7_add 12 rfl) rfl (V_lg 0 rfl) rfl ?_
      refine V_getR kc7 (pc2 := 27) 1 (dk D_X7_add 13 rfl) fl_7_20 (by decide) (fun _ => rfl) rfl h1 ?_
      refine V_aload_n (pc2 := 28) (dk D_X7_add 14 rfl) rfl (V_lg 0 rfl) rfl ?_
      refine V_getI kc7 (pc2 := 31) 2 (dk D_X7_add 15 rfl) fl_7_27 (by decide) (fun _ => rfl) rfl h1 ?_
      refine V_newC kc0 (pc2 := 34) (dk D_X7_add 16 rfl) cl_7_18 it_0 ii_0 (by decide) rfl ?_
      have h := h _ rfl
      refine V_dup (pc2 := 35) (dk D_X7_add 17 rfl) rfl rfl ?_
      obtain ⟨h11, h⟩ := h
      obtain ⟨e7, he8, hc9⟩ := h
      refine V_callIN (as := []) (st := [_, _, _]) (M' := MX0_init) (pc2 := 38) (dk D_X7_add 18 rfl) ml_7_38 mv_X0_init rfl rfl rfl (Nat.le_of_ble_eq_true rfl) rfl he8 h11 hc9 (RV.k fun  S10 h => ?_)
      obtain ⟨h12, h⟩ := h
      obtain ⟨h13, h⟩ := h
      obtain ⟨h14, h⟩ := h
      obtain ⟨h15, h⟩ := h
      refine V_aast24 (pc2 := 39) (dk D_X7_add 19 rfl) rfl h12 h13 h14 h15 ?_
      have h := h _ rfl
      exact h
  · have h := h.2 q2
    refine V_null (pc2 := 10) (dk D_X7_add 4 rfl) rfl ?_
    exact V_areturn (dk D_X7_add 5 rfl) rfl (Or.inl ⟨_, rfl⟩) h
theorem w_X7_add_39 {X : Cx} {d : Nat} {S : Mem} {Q : Res → Mem → Prop} (r0 : Nat) (h : (isK S r0 7) ∧ (isK S (gR S r0 1) 24) ∧ (vp_in (gI S r0 2) (gN S (gR S r0 1))) ∧ (isK S (gR S (gR S r0 1) ((gI S r0 2) : Int32).toNatClampNeg) 0) ∧ ∀ S5 : Mem, S5 = uL S (gR S (gR S r0 1) ((gI S r0 2) : Int32).toNatClampNeg) 1 0 → ∀ S6 : Mem, S6 = uI S5 r0 2 ((gI S r0 2) + 1) → (vp_in ((gI S6 r0 2) - 1) (gN S (gR S r0 1))) ∧ Q (.inl (some (vR (gR S (gR S r0 1) (((gI S6 r0 2) - 1) : Int32).toNatClampNeg)))) S6) : V X d MX7_add 39 [(0, vR r0)] [] S Q := by
  refine V_aload_n (pc2 := 40) (dk D_X7_add 20 rfl) rfl (V_lg 0 rfl) rfl ?_
  obtain ⟨h1, h⟩ := h
  refine V_getR kc7 (pc2 := 43) 1 (dk D_X7_add 21 rfl) fl_7_20 (by decide) (fun _ => rfl) rfl h1 ?_
  refine V_aload_n (pc2 := 44) (dk D_X7_add 22 rfl) rfl (V_lg 0 rfl) rfl ?_
  refine V_getI kc7 (pc2 := 47) 2 (dk D_X7_add 23 rfl) fl_7_27 (by decide) (fun _ => rfl) rfl h1 ?_
  obtain ⟨h2, h⟩ := h
  obtain ⟨h3, h⟩ := h
  refine V_aald (k := 24) (pc2 := 48) (dk D_X7_add 24 rfl) rfl (by decide) (by decide) h2 h3 ?_
  refine V_lconst (x := 0) (pc2 := 49) (dk D_X7_add 25 rfl) (by decide) rfl ?_
  obtain ⟨h4, h⟩ := h
  refine V_putL kc0 (pc2 := 52) 1 (dk D_X7_add 26 rfl) fl_7_34 (by decide) (Or.inl rfl) rfl rfl h4 ?_
  have h := h _ rfl
  refine V_aload_n (pc2 := 53) (dk D_X7_add 27 rfl) rfl (V_lg 0 rfl) rfl ?_
  refine V_dup (pc2 := 54) (dk D_X7_add 28 rfl) rfl rfl ?_
  refine V_getI kc7 (pc2 := 57) 2 (dk D_X7_add 29 rfl) fl_7_27 (by decide) (fun _ => rfl) rfl h1 ?_
  refine V_iconst (x := 1) (pc2 := 58) (dk D_X7_add 30 rfl) (by decide) rfl ?_
  refine V_iadd (pc2 := 59) (dk D_X7_add 31 rfl) rfl ?_
  refine V_putI kc7 (pc2 := 62) 2 (dk D_X7_add 32 rfl) fl_7_27 (by decide) (Or.inl rfl) rfl rfl h1 ?_
  have h := h _ rfl
  refine V_aload_n (pc2 := 63) (dk D_X7_add 33 rfl) rfl (V_lg 0 rfl) rfl ?_
  refine V_getR kc7 (pc2 := 66) 1 (dk D_X7_add 34 rfl) fl_7_20 (by decide) (fun _ => rfl) rfl h1 ?_
  refine V_aload_n (pc2 := 67) (dk D_X7_add 35 rfl) rfl (V_lg 0 rfl) rfl ?_
  refine V_getI kc7 (pc2 := 70) 2 (dk D_X7_add 36 rfl) fl_7_27 (by decide) (fun _ => rfl) rfl h1 ?_
  refine V_iconst (x := 1) (pc2 := 71) (dk D_X7_add 37 rfl) (by decide) rfl ?_
  refine V_isub (pc2 := 72) (dk D_X7_add 38 rfl) rfl ?_
  obtain ⟨h7, h⟩ := h
  refine V_aald (k := 24) (pc2 := 73) (dk D_X7_add 39 rfl) rfl (by decide) (by decide) h2 h7 ?_
  exact V_areturn (dk D_X7_add 40 rfl) rfl (Or.inl ⟨_, rfl⟩) h
def L_X7_noteWrongName : List (Nat × Instr × Nat) := [(0, .aload_n 0, 1), (1, .getfield 31, 3), (4, .bipush (-9), 2), (6, .if_icmp .eq 11, 3), (9, .iload_n 1, 1), (10, .aload_n 0, 1), (11, .getfield 31, 3), (14, .if_icmp .ge 8, 3), (17, .aload_n 0, 1), (18, .iload_n 1, 1), (19, .putfield 31, 3), (22, .return_, 1)]
theorem D_X7_noteWrongName : dOk cX7_noteWrongName L_X7_noteWrongName = true := by decide +kernel
theorem w_X7_noteWrongName_0 {X : Cx} {d : Nat} {S : Mem} {Q : Res → Mem → Prop} (r0 : Nat) (x1 : Int32) (h : (isK S r0 7) ∧ (((gI S r0 3) = (-9) → V X d MX7_noteWrongName 17 [(0, vR r0), (1, vI x1)] [] S Q) ∧ (¬ (gI S r0 3) = (-9) → (((gI S r0 3) ≤ x1 → V X d MX7_noteWrongName 22 [(0, vR r0), (1, vI x1)] [] S Q) ∧ (¬ (gI S r0 3) ≤ x1 → V X d MX7_noteWrongName 17 [(0, vR r0), (1, vI x1)] [] S Q))))) : V X d MX7_noteWrongName 0 [(0, vR r0), (1, vI x1)] [] S Q := by
  refine V_aload_n (pc2 := 1) (dk D_X7_noteWrongName 0 rfl) rfl (V_lg 0 rfl) rfl ?_
  obtain ⟨h1, h⟩ := h
  refine V_getI kc7 (pc2 := 4) 3 (dk D_X7_noteWrongName 1 rfl) fl_7_31 (by decide) (fun _ => rfl) rfl h1 ?_
  refine V_bipush (x := (-9)) (pc2 := 6) (dk D_X7_noteWrongName 2 rfl) (by decide) rfl ?_
  refine V_cmpeq (tgt := 17) (pc2 := 9) (dk D_X7_noteWrongName 3 rfl) (by decide) rfl (fun q2 => ?_) (fun q2 => ?_)
  · have h := h.1 q2
    exact h
  · have h := h.2 q2
    refine V_iload_n (pc2 := 10) (dk D_X7_noteWrongName 4 rfl) rfl (V_lg 1 rfl) rfl ?_
    refine V_aload_n (pc2 := 11) (dk D_X7_noteWrongName 5 rfl) rfl (V_lg 0 rfl) rfl ?_
    refine V_getI kc7 (pc2 := 14) 3 (dk D_X7_noteWrongName 6 rfl) fl_7_31 (by decide) (fun _ => rfl) rfl h1 ?_
    refine V_cmpge (tgt := 22) (pc2 := 17) (dk D_X7_noteWrongName 7 rfl) (by decide) rfl (fun q3 => ?_) (fun q3 => ?_)
    · have h := h.1 q3
      exact h
    · have h := h.2 q3
      exact h
theorem w_X7_noteWrongName_17 {X : Cx} {d : Nat} {S : Mem} {Q : Res → Mem → Prop} (r0 : Nat) (x1 : Int32) (h : (isK S r0 7) ∧ ∀ S2 : Mem, S2 = uI S r0 3 x1 → V X d MX7_noteWrongName 22 [(0, vR r0), (1, vI x1)] [] S2 Q) : V X d MX7_noteWrongName 17 [(0, vR r0), (1, vI x1)] [] S Q := by
  refine V_aload_n (pc2 := 18) (dk D_X7_noteWrongName 8 rfl) rfl (V_lg 0 rfl) rfl ?_
  refine V_iload_n (pc2 := 19) (dk D_X7_noteWrongName 9 rfl) rfl (V_lg 1 rfl) rfl ?_
  obtain ⟨h1, h⟩ := h
  refine V_putI kc7 (pc2 := 22) 3 (dk D_X7_noteWrongName 10 rfl) fl_7_31 (by decide) (Or.inl rfl) rfl rfl h1 ?_
  have h := h _ rfl
  exact h
theorem w_X7_noteWrongName_22 {X : Cx} {d : Nat} {S : Mem} {Q : Res → Mem → Prop} (r0 : Nat) (x1 : Int32) (h : Q (.inl none) S) : V X d MX7_noteWrongName 22 [(0, vR r0), (1, vI x1)] [] S Q := by
  exact V_return (dk D_X7_noteWrongName 11 rfl) rfl h
def L_X7_wrongName : List (Nat × Instr × Nat) := [(0, .aload_n 0, 1), (1, .getfield 31, 3), (4, .ireturn, 1)]
theorem D_X7_wrongName : dOk cX7_wrongName L_X7_wrongName = true := by decide +kernel
theorem w_X7_wrongName_0 {X : Cx} {d : Nat} {S : Mem} {Q : Res → Mem → Prop} (r0 : Nat) (h : (isK S r0 7) ∧ Q (.inl (some (vI (gI S r0 3)))) S) : V X d MX7_wrongName 0 [(0, vR r0)] [] S Q := by
  refine V_aload_n (pc2 := 1) (dk D_X7_wrongName 0 rfl) rfl (V_lg 0 rfl) rfl ?_
  obtain ⟨h1, h⟩ := h
  refine V_getI kc7 (pc2 := 4) 3 (dk D_X7_wrongName 1 rfl) fl_7_31 (by decide) (fun _ => rfl) rfl h1 ?_
  exact V_ireturn (dk D_X7_wrongName 2 rfl) rfl h
