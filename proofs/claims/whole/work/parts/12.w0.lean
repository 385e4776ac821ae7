def L_X0_init : List (Nat × Instr × Nat) := [(0, .aload_n 0, 1), (1, .invokespecial 3, 3), (4, .aload_n 0, 1), (5, .bipush 12, 2), (7, .newarray .long, 2), (9, .putfield 11, 3), (12, .return_, 1)]
theorem D_X0_init : dOk cX0_init L_X0_init = true := by decide +kernel
theorem w_X0_init_0 {X : Cx} {d : Nat} {S : Mem} {Q : Res → Mem → Prop} (r0 : Nat) (h : (1 ≤ d) ∧ (r0 ≠ 0) ∧ ∀ S4 : Mem, S4 = nw S 22 12 12 → (isK S4 r0 0) ∧ ∀ S6 : Mem, S6 = uR S4 r0 0 (tp S) → Q (.inl none) S6) : V X d MX0_init 0 [(0, vR r0)] [] S Q := by
  refine V_aload_n (pc2 := 1) (dk D_X0_init 0 rfl) rfl (V_lg 0 rfl) rfl ?_
  obtain ⟨h1, h⟩ := h
  obtain ⟨h2, h⟩ := h
  refine V_obj (pc2 := 4) (dk D_X0_init 1 rfl) ml_0_3 oi_i oi_c rfl (Nat.le_of_ble_eq_true rfl) h1 h2 ?_
  refine V_aload_n (pc2 := 5) (dk D_X0_init 2 rfl) rfl (V_lg 0 rfl) rfl ?_
  refine V_bipush (x := 12) (pc2 := 7) (dk D_X0_init 3 rfl) (by decide) rfl ?_
  have hd3 : decode MX0_init.2.1 7 = .ok (.newarray .long, 2) := dk D_X0_init 4 rfl
  refine V_newa22 (n := 12) (pc2 := 9) hd3 ac_22 rfl (litI 12) (Nat.le_of_ble_eq_true rfl) ?_
  have h := h _ rfl
  obtain ⟨h5, h⟩ := h
  refine V_putR kc0 (pc2 := 12) 0 (dk D_X0_init 5 rfl) fl_0_11 (by decide) (Or.inr ⟨rfl, rfl, rfl⟩) (Or.inr ⟨_, rfl⟩) rfl h5 ?_
  have h := h _ rfl
  exact V_return (dk D_X0_init 6 rfl) rfl h
def L_X0_begin : List (Nat × Instr × Nat) := [(0, .aload_n 0, 1), (1, .iload_n 1, 1), (2, .putfield 15, 3), (5, .aload_n 0, 1), (6, .lload_n 2, 1), (7, .putfield 19, 3), (10, .aload_n 0, 1), (11, .iload 4, 2), (13, .putfield 23, 3), (16, .aload_n 0, 1), (17, .iconst 0, 1), (18, .putfield 27, 3), (21, .aload_n 0, 1), (22, .iconst 0, 1), (23, .putfield 30, 3), (26, .aload_n 0, 1), (27, .iload 5, 2), (29, .putfield 33, 3), (32, .aload_n 0, 1), (33, .iload 5, 2), (35, .putfield 36, 3), (38, .aload_n 0, 1), (39, .bipush (-9), 2), (41, .putfield 39, 3), (44, .return_, 1)]
theorem D_X0_begin : dOk cX0_begin L_X0_begin = true := by decide +kernel
theorem w_X0_begin_0 {X : Cx} {d : Nat} {S : Mem} {Q : Res → Mem → Prop} (r0 : Nat) (x1 : Int32) (l2 : Int64) (x4 : Int32) (x5 : Int32) (h : (isK S r0 0) ∧ (x1 = 0 ∨ x1 = 1) ∧ ∀ S3 : Mem, S3 = uI S r0 2 x1 → ∀ S4 : Mem, S4 = uL S3 r0 1 l2 → ∀ S5 : Mem, S5 = uI S4 r0 3 x4 → ∀ S6 : Mem, S6 = uI S5 r0 4 0 → ∀ S7 : Mem, S7 = uI S6 r0 5 0 → ∀ S8 : Mem, S8 = uI S7 r0 6 x5 → ∀ S9 : Mem, S9 = uI S8 r0 7 x5 → ∀ S10 : Mem, S10 = uI S9 r0 8 (-9) → Q (.inl none) S10) : V X d MX0_begin 0 [(0, vR r0), (1, vI x1), (2, vL l2), (4, vI x4), (5, vI x5)] [] S Q := by
  refine V_aload_n (pc2 := 1) (dk D_X0_begin 0 rfl) rfl (V_lg 0 rfl) rfl ?_
  refine V_iload_n (pc2 := 2) (dk D_X0_begin 1 rfl) rfl (V_lg 1 rfl) rfl ?_
  obtain ⟨h1, h⟩ := h
  obtain ⟨h2, h⟩ := h
  refine V_putZ kc0 (pc2 := 5) 2 (dk D_X0_begin 2 rfl) fl_0_15 (by decide) (Or.inl rfl) rfl rfl h1 h2 ?_
  have h := h _ rfl
  refine V_aload_n (pc2 := 6) (dk D_X0_begin 3 rfl) rfl (V_lg 0 rfl) rfl ?_
  refine V_lload_n (pc2 := 7) (dk D_X0_begin 4 rfl) rfl (V_lg 2 rfl) rfl ?_
  refine V_putL kc0 (pc2 := 10) 1 (dk D_X0_begin 5 rfl) fl_0_19 (by decide) (Or.inl rfl) rfl rfl h1 ?_
  have h := h _ rfl
  refine V_aload_n (pc2 := 11) (dk D_X0_begin 6 rfl) rfl (V_lg 0 rfl) rfl ?_
  refine V_iload (pc2 := 13) (dk D_X0_begin 7 rfl) (V_lg 3 rfl) rfl ?_
  refine V_putI kc0 (pc2 := 16) 3 (dk D_X0_begin 8 rfl) fl_0_23 (by decide) (Or.inl rfl) rfl rfl h1 ?_
  have h := h _ rfl
  refine V_aload_n (pc2 := 17) (dk D_X0_begin 9 rfl) rfl (V_lg 0 rfl) rfl ?_
  refine V_iconst (x := 0) (pc2 := 18) (dk D_X0_begin 10 rfl) (by decide) rfl ?_
  refine V_putI kc0 (pc2 := 21) 4 (dk D_X0_begin 11 rfl) fl_0_27 (by decide) (Or.inl rfl) rfl rfl h1 ?_
  have h := h _ rfl
  refine V_aload_n (pc2 := 22) (dk D_X0_begin 12 rfl) rfl (V_lg 0 rfl) rfl ?_
  refine V_iconst (x := 0) (pc2 := 23) (dk D_X0_begin 13 rfl) (by decide) rfl ?_
  refine V_putI kc0 (pc2 := 26) 5 (dk D_X0_begin 14 rfl) fl_0_30 (by decide) (Or.inl rfl) rfl rfl h1 ?_
  have h := h _ rfl
  refine V_aload_n (pc2 := 27) (dk D_X0_begin 15 rfl) rfl (V_lg 0 rfl) rfl ?_
  refine V_iload (pc2 := 29) (dk D_X0_begin 16 rfl) (V_lg 4 rfl) rfl ?_
  refine V_putI kc0 (pc2 := 32) 6 (dk D_X0_begin 17 rfl) fl_0_33 (by decide) (Or.inl rfl) rfl rfl h1 ?_
  have h := h _ rfl
  refine V_aload_n (pc2 := 33) (dk D_X0_begin 18 rfl) rfl (V_lg 0 rfl) rfl ?_
  refine V_iload (pc2 := 35) (dk D_X0_begin 19 rfl) (V_lg 4 rfl) rfl ?_
  refine V_putI kc0 (pc2 := 38) 7 (dk D_X0_begin 20 rfl) fl_0_36 (by decide) (Or.inl rfl) rfl rfl h1 ?_
  have h := h _ rfl
  refine V_aload_n (pc2 := 39) (dk D_X0_begin 21 rfl) rfl (V_lg 0 rfl) rfl ?_
  refine V_bipush (x := (-9)) (pc2 := 41) (dk D_X0_begin 22 rfl) (by decide) rfl ?_
  refine V_putI kc0 (pc2 := 44) 8 (dk D_X0_begin 23 rfl) fl_0_39 (by decide) (Or.inl rfl) rfl rfl h1 ?_
  have h := h _ rfl
  exact V_return (dk D_X0_begin 24 rfl) rfl h
def L_X0_find : List (Nat × Instr × Nat) := [(0, .iconst 0, 1), (1, .istore_n 3, 1), (2, .iload_n 3, 1), (3, .aload_n 0, 1), (4, .getfield 30, 3), (7, .if_icmp .ge 28, 3), (10, .iload_n 3, 1), (11, .bipush 12, 2), (13, .if_icmp .ge 22, 3), (16, .aload_n 0, 1), (17, .getfield 11, 3), (20, .iload_n 3, 1), (21, .laload, 1), (22, .lload_n 1, 1), (23, .lcmp, 1), (24, .ifCond .ne 5, 3), (27, .iload_n 3, 1), (28, .ireturn, 1), (29, .iinc 3 1, 3), (32, .goto (-30), 3), (35, .bipush (-9), 2), (37, .ireturn, 1)]
theorem D_X0_find : dOk cX0_find L_X0_find = true := by decide +kernel
theorem w_X0_find_0 {X : Cx} {d : Nat} {S : Mem} {Q : Res → Mem → Prop} (r0 : Nat) (l1 : Int64) (h : V X d MX0_find 2 [(0, vR r0), (1, vL l1), (3, vI 0)] [] S Q) : V X d MX0_find 0 [(0, vR r0), (1, vL l1)] [] S Q := by
  refine V_iconst (x := 0) (pc2 := 1) (dk D_X0_find 0 rfl) (by decide) rfl ?_
  refine V_istore_n (pc2 := 2) (lv2 := [(0, _), (1, _), (3, _)]) (dk D_X0_find 1 rfl) rfl (by decide) rfl rfl ?_
  exact h
theorem w_X0_find_2 {X : Cx} {d : Nat} {S : Mem} {Q : Res → Mem → Prop} (r0 : Nat) (l1 : Int64) (x3 : Int32) (h : (isK S r0 0) ∧ (((gI S r0 5) ≤ x3 → V X d MX0_find 35 [(0, vR r0), (1, vL l1), (3, vI x3)] [] S Q) ∧ (¬ (gI S r0 5) ≤ x3 → ((12 ≤ x3 → V X d MX0_find 35 [(0, vR r0), (1, vL l1), (3, vI x3)] [] S Q) ∧ (¬ 12 ≤ x3 → (isK S (gR S r0 0) 22) ∧ (vp_in x3 (gN S (gR S r0 0))) ∧ ((¬ (lg_cmp (gL S (gR S r0 0) (x3 : Int32).toNatClampNeg) l1) = 0 → V X d MX0_find 2 [(0, vR r0), (1, vL l1), (3, vI (x3 + 1))] [] S Q) ∧ ((lg_cmp (gL S (gR S r0 0) (x3 : Int32).toNatClampNeg) l1) = 0 → Q (.inl (some (vI x3))) S))))))) : V X d MX0_find 2 [(0, vR r0), (1, vL l1), (3, vI x3)] [] S Q := by
  refine V_iload_n (pc2 := 3) (dk D_X0_find 2 rfl) rfl (V_lg 2 rfl) rfl ?_
  refine V_aload_n (pc2 := 4) (dk D_X0_find 3 rfl) rfl (V_lg 0 rfl) rfl ?_
  obtain ⟨h1, h⟩ := h
  refine V_getI kc0 (pc2 := 7) 5 (dk D_X0_find 4 rfl) fl_0_30 (by decide) (fun _ => rfl) rfl h1 ?_
  refine V_cmpge (tgt := 35) (pc2 := 10) (dk D_X0_find 5 rfl) (by decide) rfl (fun q2 => ?_) (fun q2 => ?_)
  · have h := h.1 q2
    exact h
  · have h := h.2 q2
    refine V_iload_n (pc2 := 11) (dk D_X0_find 6 rfl) rfl (V_lg 2 rfl) rfl ?_
    refine V_bipush (x := 12) (pc2 := 13) (dk D_X0_find 7 rfl) (by decide) rfl ?_
    refine V_cmpge (tgt := 35) (pc2 := 16) (dk D_X0_find 8 rfl) (by decide) rfl (fun q3 => ?_) (fun q3 => ?_)
    · have h := h.1 q3
      exact h
    · have h := h.2 q3
      refine V_aload_n (pc2 := 17) (dk D_X0_find 9 rfl) rfl (V_lg 0 rfl) rfl ?_
      refine V_getR kc0 (pc2 := 20) 0 (dk D_X0_find 10 rfl) fl_0_11 (by decide) (fun _ => rfl) rfl h1 ?_
      refine V_iload_n (pc2 := 21) (dk D_X0_find 11 rfl) rfl (V_lg 2 rfl) rfl ?_
      obtain ⟨h4, h⟩ := h
      obtain ⟨h5, h⟩ := h
      refine V_lald (pc2 := 22) (dk D_X0_find 12 rfl) rfl h4 h5 ?_
      refine V_lload_n (pc2 := 23) (dk D_X0_find 13 rfl) rfl (V_lg 1 rfl) rfl ?_
      refine V_lcmp (pc2 := 24) (dk D_X0_find 14 rfl) rfl ?_
      refine V_ifne (tgt := 29) (pc2 := 27) (dk D_X0_find 15 rfl) (by decide) rfl (fun q6 => ?_) (fun q6 => ?_)
      · have h := h.1 q6
        refine V_iinc (y := _ + 1) (pc2 := 32) (lv2 := [(0, _), (1, _), (3, _)]) (dk D_X0_find 18 rfl) (V_lg 2 rfl) rfl (by decide) rfl rfl ?_
        refine V_goto (tgt := 2) (dk D_X0_find 19 rfl) (by decide) ?_
        exact h
      · have h := h.2 q6
        refine V_iload_n (pc2 := 28) (dk D_X0_find 16 rfl) rfl (V_lg 2 rfl) rfl ?_
        exact V_ireturn (dk D_X0_find 17 rfl) rfl h
theorem w_X0_find_35 {X : Cx} {d : Nat} {S : Mem} {Q : Res → Mem → Prop} (r0 : Nat) (l1 : Int64) (x3 : Int32) (h : Q (.inl (some (vI (-9)))) S) : V X d MX0_find 35 [(0, vR r0), (1, vL l1), (3, vI x3)] [] S Q := by
  refine V_bipush (x := (-9)) (pc2 := 37) (dk D_X0_find 20 rfl) (by decide) rfl ?_
  exact V_ireturn (dk D_X0_find 21 rfl) rfl h
def L_X0_declare : List (Nat × Instr × Nat) := [(0, .aload_n 0, 1), (1, .lload_n 1, 1), (2, .invokevirtual 42, 3), (5, .bipush (-9), 2), (7, .if_icmp .eq 4, 3), (10, .return_, 1), (11, .aload_n 0, 1), (12, .getfield 30, 3), (15, .bipush 12, 2), (17, .if_icmp .ge 26, 3), (20, .aload_n 0, 1), (21, .getfield 11, 3), (24, .aload_n 0, 1), (25, .getfield 30, 3), (28, .lload_n 1, 1), (29, .lastore, 1), (30, .aload_n 0, 1), (31, .dup, 1), (32, .getfield 30, 3), (35, .iconst 1, 1), (36, .iadd, 1), (37, .putfield 30, 3), (40, .goto 17, 3), (43, .aload_n 0, 1), (44, .getfield 39, 3), (47, .bipush (-9), 2), (49, .if_icmp .ne 8, 3), (52, .aload_n 0, 1), (53, .iload_n 3, 1), (54, .putfield 39, 3), (57, .return_, 1)]
theorem D_X0_declare : dOk cX0_declare L_X0_declare = true := by decide +kernel
theorem w_X0_declare_0 {X : Cx} {d : Nat} {S : Mem} {Q : Res → Mem → Prop} (r0 : Nat) (l1 : Int64) (x3 : Int32) (h : (isK S r0 0) ∧ ∃ e1 : Nat, e1 + 1 ≤ d ∧ C X e1 MX0_find [vR r0, vL l1] S (RI fun y4 S5 => ((y4 = (-9) → (isK S5 r0 0) ∧ ((12 ≤ (gI S5 r0 5) → ((¬ (gI S5 r0 8) = (-9) → V X d MX0_declare 57 [(0, vR r0), (1, vL l1), (3, vI x3)] [] S5 Q) ∧ ((gI S5 r0 8) = (-9) → ∀ S11 : Mem, S11 = uI S5 r0 8 x3 → V X d MX0_declare 57 [(0, vR r0), (1, vL l1), (3, vI x3)] [] S11 Q))) ∧ (¬ 12 ≤ (gI S5 r0 5) → (isK S5 (gR S5 r0 0) 22) ∧ (vp_in (gI S5 r0 5) (gN S5 (gR S5 r0 0))) ∧ ∀ S14 : Mem, S14 = uL S5 (gR S5 r0 0) (((gI S5 r0 5) : Int32).toNatClampNeg) l1 → ∀ S15 : Mem, S15 = uI S14 r0 5 ((gI S5 r0 5) + 1) → V X d MX0_declare 57 [(0, vR r0), (1, vL l1), (3, vI x3)] [] S15 Q))) ∧ (¬ y4 = (-9) → Q (.inl none) S5)))) : V X d MX0_declare 0 [(0, vR r0), (1, vL l1), (3, vI x3)] [] S Q := by
  refine V_aload_n (pc2 := 1) (dk D_X0_declare 0 rfl) rfl (V_lg 0 rfl) rfl ?_
  refine V_lload_n (pc2 := 2) (dk D_X0_declare 1 rfl) rfl (V_lg 1 rfl) rfl ?_
  obtain ⟨h6, h⟩ := h
  obtain ⟨e1, he2, hc3⟩ := h
  refine V_callV (as := [_]) (st := []) (M' := MX0_find) (ci := 0) (pc2 := 5) (dk D_X0_declare 2 rfl) ml_0_42 mv_X0_find rfl rfl (by decide) rfl (Nat.le_of_ble_eq_true rfl) rfl he2 h6 hc3 (RI.k fun y4 S5 h => ?_)
  refine V_bipush (x := (-9)) (pc2 := 7) (dk D_X0_declare 3 rfl) (by decide) rfl ?_
  refine V_cmpeq (tgt := 11) (pc2 := 10) (dk D_X0_declare 4 rfl) (by decide) rfl (fun q7 => ?_) (fun q7 => ?_)
  · have h := h.1 q7
    refine V_aload_n (pc2 := 12) (dk D_X0_declare 6 rfl) rfl (V_lg 0 rfl) rfl ?_
    obtain ⟨h8, h⟩ := h
    refine V_getI kc0 (pc2 := 15) 5 (dk D_X0_declare 7 rfl) fl_0_30 (by decide) (fun _ => rfl) rfl h8 ?_
    refine V_bipush (x := 12) (pc2 := 17) (dk D_X0_declare 8 rfl) (by decide) rfl ?_
    refine V_cmpge (tgt := 43) (pc2 := 20) (dk D_X0_declare 9 rfl) (by decide) rfl (fun q9 => ?_) (fun q9 => ?_)
    · have h := h.1 q9
      refine V_aload_n (pc2 := 44) (dk D_X0_declare 23 rfl) rfl (V_lg 0 rfl) rfl ?_
      refine V_getI kc0 (pc2 := 47) 8 (dk D_X0_declare 24 rfl) fl_0_39 (by decide) (fun _ => rfl) rfl h8 ?_
      refine V_bipush (x := (-9)) (pc2 := 49) (dk D_X0_declare 25 rfl) (by decide) rfl ?_
      refine V_cmpne (tgt := 57) (pc2 := 52) (dk D_X0_declare 26 rfl) (by decide) rfl (fun q10 => ?_) (fun q10 => ?_)
      · have h := h.1 q10
        exact h
      · have h := h.2 q10
        refine V_aload_n (pc2 := 53) (dk D_X0_declare 27 rfl) rfl (V_lg 0 rfl) rfl ?_
        refine V_iload_n (pc2 := 54) (dk D_X0_declare 28 rfl) rfl (V_lg 2 rfl) rfl ?_
        refine V_putI kc0 (pc2 := 57) 8 (dk D_X0_declare 29 rfl) fl_0_39 (by decide) (Or.inl rfl) rfl rfl h8 ?_
        have h := h _ rfl
        exact h
    · have h := h.2 q9
      refine V_aload_n (pc2 := 21) (dk D_X0_declare 10 rfl) rfl (V_lg 0 rfl) rfl ?_
      refine V_getR kc0 (pc2 := 24) 0 (dk D_X0_declare 11 rfl) fl_0_11 (by decide) (fun _ => rfl) rfl h8 ?_
      refine V_aload_n (pc2 := 25) (dk D_X0_declare 12 rfl) rfl (V_lg 0 rfl) rfl ?_
      refine V_getI kc0 (pc2 := 28) 5 (dk D_X0_declare 13 rfl) fl_0_30 (by decide) (fun _ => rfl) rfl h8 ?_
      refine V_lload_n (pc2 := 29) (dk D_X0_declare 14 rfl) rfl (V_lg 1 rfl) rfl ?_
      obtain ⟨h12, h⟩ := h
      obtain ⟨h13, h⟩ := h
      refine V_last (pc2 := 30) (dk D_X0_declare 15 rfl) rfl h12 h13 ?_
      have h := h _ rfl
      refine V_aload_n (pc2 := 31) (dk D_X0_declare 16 rfl) rfl (V_lg 0 rfl) rfl ?_
      refine V_dup (pc2 := 32) (dk D_X0_declare 17 rfl) rfl rfl ?_
      refine V_getI kc0 (pc2 := 35) 5 (dk D_X0_declare 18 rfl) fl_0_30 (by decide) (fun _ => rfl) rfl h8 ?_
      refine V_iconst (x := 1) (pc2 := 36) (dk D_X0_declare 19 rfl) (by decide) rfl ?_
      refine V_iadd (pc2 := 37) (dk D_X0_declare 20 rfl) rfl ?_
      refine V_putI kc0 (pc2 := 40) 5 (dk D_X0_declare 21 rfl) fl_0_30 (by decide) (Or.inl rfl) rfl rfl h8 ?_
      have h := h _ rfl
      refine V_goto (tgt := 57) (dk D_X0_declare 22 rfl) (by decide) ?_
      exact h
  · have h := h.2 q7
    exact V_return (dk D_X0_declare 5 rfl) rfl h
theorem w_X0_declare_57 {X : Cx} {d : Nat} {S : Mem} {Q : Res → Mem → Prop} (r0 : Nat) (l1 : Int64) (x3 : Int32) (h : Q (.inl none) S) : V X d MX0_declare 57 [(0, vR r0), (1, vL l1), (3, vI x3)] [] S Q := by
  exact V_return (dk D_X0_declare 30 rfl) rfl h
def L_X0_fact : List (Nat × Instr × Nat) := [(0, .iload_n 1, 1), (1, .tableswitch 59 0 3 #[31, 44, 49, 54], 31), (32, .aload_n 0, 1), (33, .getfield 15, 3), (36, .ifCond .eq 7, 3), (39, .iconst 1, 1), (40, .goto 4, 3), (43, .iconst 0, 1), (44, .ireturn, 1), (45, .aload_n 0, 1), (46, .getfield 27, 3), (49, .ireturn, 1), (50, .aload_n 0, 1), (51, .getfield 30, 3), (54, .ireturn, 1), (55, .aload_n 0, 1), (56, .getfield 23, 3), (59, .ireturn, 1), (60, .iconst (-1), 1), (61, .ireturn, 1)]
theorem D_X0_fact : dOk cX0_fact L_X0_fact = true := by decide +kernel
theorem w_X0_fact_0 {X : Cx} {d : Nat} {S : Mem} {Q : Res → Mem → Prop} (r0 : Nat) (x1 : Int32) (h : ((x1 = 0 → (isK S r0 0) ∧ (((gI S r0 2) = 0 → V X d MX0_fact 44 [(0, vR r0), (1, vI x1)] [vI 0] S Q) ∧ (¬ (gI S r0 2) = 0 → V X d MX0_fact 44 [(0, vR r0), (1, vI x1)] [vI 1] S Q))) ∧ (x1 = 1 → (isK S r0 0) ∧ Q (.inl (some (vI (gI S r0 4)))) S) ∧ (x1 = 2 → (isK S r0 0) ∧ Q (.inl (some (vI (gI S r0 5)))) S) ∧ (x1 = 3 → (isK S r0 0) ∧ Q (.inl (some (vI (gI S r0 3)))) S) ∧ (¬ (x1 = 0 ∨ x1 = 1 ∨ x1 = 2 ∨ x1 = 3) → Q (.inl (some (vI (-1)))) S))) : V X d MX0_fact 0 [(0, vR r0), (1, vI x1)] [] S Q := by
  refine V_iload_n (pc2 := 1) (dk D_X0_fact 0 rfl) rfl (V_lg 1 rfl) rfl ?_
  refine V_table (dk D_X0_fact 1 rfl) [32, 45, 50, 55] 60 (by decide) rfl (by decide) (fun q1 => ?_) (fun j2 hj q1 => ?_)
  · have h := h.2.2.2.2 (by rintro (hk | hk | hk | hk) <;> (rw [hk] at q1; revert q1; decide))
    refine V_iconst (x := (-1)) (pc2 := 61) (dk D_X0_fact 18 rfl) (by decide) rfl ?_
    exact V_ireturn (dk D_X0_fact 19 rfl) rfl h
  · have hj2 : j2 = 0 ∨ j2 = 1 ∨ j2 = 2 ∨ j2 = 3 := by simp at hj; omega
    clear hj
    rcases hj2 with rfl | rfl | rfl | rfl
    · have hx : x1 = 0 := Int32.toInt_inj.mp (by rw [q1]; decide)
      have h := h.1 hx
      refine V_aload_n (pc2 := 33) (dk D_X0_fact 2 rfl) rfl (V_lg 0 rfl) rfl ?_
      obtain ⟨h3, h⟩ := h
      refine V_getI kc0 (pc2 := 36) 2 (dk D_X0_fact 3 rfl) fl_0_15 (by decide) (fun _ => rfl) rfl h3 ?_
      refine V_ifeq (tgt := 43) (pc2 := 39) (dk D_X0_fact 4 rfl) (by decide) rfl (fun q4 => ?_) (fun q4 => ?_)
      · have h := h.1 q4
        refine V_iconst (x := 0) (pc2 := 44) (dk D_X0_fact 7 rfl) (by decide) rfl ?_
        exact h
      · have h := h.2 q4
        refine V_iconst (x := 1) (pc2 := 40) (dk D_X0_fact 5 rfl) (by decide) rfl ?_
        refine V_goto (tgt := 44) (dk D_X0_fact 6 rfl) (by decide) ?_
        exact h
    · have hx : x1 = 1 := Int32.toInt_inj.mp (by rw [q1]; decide)
      have h := h.2.1 hx
      refine V_aload_n (pc2 := 46) (dk D_X0_fact 9 rfl) rfl (V_lg 0 rfl) rfl ?_
      obtain ⟨h5, h⟩ := h
      refine V_getI kc0 (pc2 := 49) 4 (dk D_X0_fact 10 rfl) fl_0_27 (by decide) (fun _ => rfl) rfl h5 ?_
      exact V_ireturn (dk D_X0_fact 11 rfl) rfl h
    · have hx : x1 = 2 := Int32.toInt_inj.mp (by rw [q1]; decide)
      have h := h.2.2.1 hx
      refine V_aload_n (pc2 := 51) (dk D_X0_fact 12 rfl) rfl (V_lg 0 rfl) rfl ?_
      obtain ⟨h6, h⟩ := h
      refine V_getI kc0 (pc2 := 54) 5 (dk D_X0_fact 13 rfl) fl_0_30 (by decide) (fun _ => rfl) rfl h6 ?_
      exact V_ireturn (dk D_X0_fact 14 rfl) rfl h
    · have hx : x1 = 3 := Int32.toInt_inj.mp (by rw [q1]; decide)
      have h := h.2.2.2.1 hx
      refine V_aload_n (pc2 := 56) (dk D_X0_fact 15 rfl) rfl (V_lg 0 rfl) rfl ?_
      obtain ⟨h7, h⟩ := h
      refine V_getI kc0 (pc2 := 59) 3 (dk D_X0_fact 16 rfl) fl_0_23 (by decide) (fun _ => rfl) rfl h7 ?_
      exact V_ireturn (dk D_X0_fact 17 rfl) rfl h
theorem w_X0_fact_44 {X : Cx} {d : Nat} {S : Mem} {Q : Res → Mem → Prop} (r0 : Nat) (x1 : Int32) (t0 : Int32) (h : Q (.inl (some (vI t0))) S) : V X d MX0_fact 44 [(0, vR r0), (1, vI x1)] [vI t0] S Q := by
  exact V_ireturn (dk D_X0_fact 8 rfl) rfl h
