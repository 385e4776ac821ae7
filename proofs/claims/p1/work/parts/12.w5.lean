def L_X5_init : List (Nat × Instr × Nat) := [(0, .aload_n 0, 1), (1, .invokespecial 3, 3), (4, .aload_n 0, 1), (5, .aload_n 1, 1), (6, .putfield 9, 3), (9, .aload_n 0, 1), (10, .aload_n 2, 1), (11, .putfield 15, 3), (14, .aload_n 0, 1), (15, .aload_n 2, 1), (16, .getfield 19, 3), (19, .putfield 25, 3), (22, .return_, 1)]
theorem D_X5_init : dOk cX5_init L_X5_init = true := by decide +kernel
theorem w_X5_init_0 {X : Cx} {d : Nat} {S : Mem} {Q : Res → Mem → Prop} (r0 : Nat) (r1 : Nat) (r2 : Nat) (h : (1 ≤ d) ∧ (r0 ≠ 0) ∧ (isK S r0 5) ∧ ∀ S4 : Mem, S4 = uR S r0 0 r1 → ∀ S5 : Mem, S5 = uR S4 r0 1 r2 → (isK S r2 7) ∧ ∀ S7 : Mem, S7 = uR S5 r0 2 (gR S5 r2 0) → Q (.inl none) S7) : V X d MX5_init 0 [(0, vR r0), (1, vR r1), (2, vR r2)] [] S Q := by
  refine V_aload_n (pc2 := 1) (dk D_X5_init 0 rfl) rfl (V_lg 0 rfl) rfl ?_
  obtain ⟨h1, h⟩ := h
  obtain ⟨h2, h⟩ := h
  refine V_obj (pc2 := 4) (dk D_X5_init 1 rfl) ml_5_3 oi_i oi_c rfl (Nat.le_of_ble_eq_true rfl) h1 h2 ?_
  refine V_aload_n (pc2 := 5) (dk D_X5_init 2 rfl) rfl (V_lg 0 rfl) rfl ?_
  refine V_aload_n (pc2 := 6) (dk D_X5_init 3 rfl) rfl (V_lg 1 rfl) rfl ?_
  obtain ⟨h3, h⟩ := h
  refine V_putR kc5 (pc2 := 9) 0 (dk D_X5_init 4 rfl) fl_5_9 (by decide) (Or.inr ⟨rfl, rfl, rfl⟩) (Or.inl ⟨_, rfl⟩) rfl h3 ?_
  have h := h _ rfl
  refine V_aload_n (pc2 := 10) (dk D_X5_init 5 rfl) rfl (V_lg 0 rfl) rfl ?_
  refine V_aload_n (pc2 := 11) (dk D_X5_init 6 rfl) rfl (V_lg 2 rfl) rfl ?_
  refine V_putR kc5 (pc2 := 14) 1 (dk D_X5_init 7 rfl) fl_5_15 (by decide) (Or.inr ⟨rfl, rfl, rfl⟩) (Or.inl ⟨_, rfl⟩) rfl h3 ?_
  have h := h _ rfl
  refine V_aload_n (pc2 := 15) (dk D_X5_init 8 rfl) rfl (V_lg 0 rfl) rfl ?_
  refine V_aload_n (pc2 := 16) (dk D_X5_init 9 rfl) rfl (V_lg 2 rfl) rfl ?_
  obtain ⟨h6, h⟩ := h
  refine V_getR kc7 (pc2 := 19) 0 (dk D_X5_init 10 rfl) fl_5_19 (by decide) (fun _ => rfl) rfl h6 ?_
  refine V_putR kc5 (pc2 := 22) 2 (dk D_X5_init 11 rfl) fl_5_25 (by decide) (Or.inr ⟨rfl, rfl, rfl⟩) (Or.inl ⟨_, rfl⟩) rfl h3 ?_
  have h := h _ rfl
  exact V_return (dk D_X5_init 12 rfl) rfl h
def L_X5_read : List (Nat × Instr × Nat) := [(0, .aload_n 0, 1), (1, .getfield 15, 3), (4, .invokevirtual 26, 3), (7, .aload_n 0, 1), (8, .getfield 9, 3), (11, .invokevirtual 29, 3), (14, .aload_n 0, 1), (15, .iconst 0, 1), (16, .putfield 34, 3), (19, .aload_n 0, 1), (20, .bipush (-9), 2), (22, .putfield 38, 3), (25, .iconst 0, 1), (26, .istore_n 1, 1), (27, .iload_n 1, 1), (28, .bipush 12, 2), (30, .if_icmp .gt 91, 3), (33, .aload_n 0, 1), (34, .getfield 38, 3), (37, .bipush (-9), 2), (39, .if_icmp .ne 82, 3), (42, .iload_n 1, 1), (43, .ifCond .le 16, 3), (46, .aload_n 0, 1), (47, .getfield 9, 3), (50, .getfield 41, 3), (53, .ifCond .ne 6, 3), (56, .goto 65, 3), (59, .aload_n 0, 1), (60, .invokevirtual 44, 3), (63, .ifCond .eq 52, 3), (66, .aload_n 0, 1), (67, .invokevirtual 48, 3), (70, .ifCond .eq 45, 3), (73, .aload_n 0, 1), (74, .getfield 51, 3), (77, .ifnull 38, 3), (80, .aload_n 0, 1), (81, .getfield 25, 3), (84, .iconst 1, 1), (85, .iconst 0, 1), (86, .invokevirtual 57, 3), (89, .pop, 1), (90, .aload_n 0, 1), (91, .getfield 25, 3), (94, .bipush 46, 2), (96, .iconst 0, 1), (97, .invokevirtual 57, 3), (100, .pop, 1), (101, .aload_n 0, 1), (102, .getfield 51, 3), (105, .aload_n 0, 1), (106, .getfield 25, 3), (109, .invokevirtual 61, 3), (112, .putfield 65, 3), (115, .iinc 1 1, 3), (118, .goto (-91), 3), (121, .aload_n 0, 1), (122, .getfield 38, 3), (125, .ireturn, 1)]
theorem D_X5_read : dOk cX5_read L_X5_read = true := by decide +kernel
theorem w_X5_read_0 {X : Cx} {d : Nat} {S : Mem} {Q : Res → Mem → Prop} (r0 : Nat) (h : (isK S r0 5) ∧ (isK S (gR S r0 1) 7) ∧ ∃ e2 : Nat, e2 + 1 ≤ d ∧ C X e2 MX7_clear [vR (gR S r0 1)] S (RV fun  S5 => (isK S5 r0 5) ∧ (isK S5 (gR S5 r0 0) 9) ∧ ∃ e8 : Nat, e8 + 1 ≤ d ∧ C X e8 MX9_readTape [vR (gR S5 r0 0)] S5 (RV fun  S11 => (isK S11 r0 5) ∧ ∀ S14 : Mem, S14 = uI S11 r0 4 0 → ∀ S15 : Mem, S15 = uI S14 r0 5 (-9) → V X d MX5_read 27 [(0, vR r0), (1, vI 0)] [] S15 Q))) : V X d MX5_read 0 [(0, vR r0)] [] S Q := by
  refine V_aload_n (pc2 := 1) (dk D_X5_read 0 rfl) rfl (V_lg 0 rfl) rfl ?_
  obtain ⟨h1, h⟩ := h
  refine V_getR kc5 (pc2 := 4) 1 (dk D_X5_read 1 rfl) fl_5_15 (by decide) (fun _ => rfl) rfl h1 ?_
  obtain ⟨h6, h⟩ := h
  obtain ⟨e2, he3, hc4⟩ := h
  refine V_callV (as := []) (st := []) (M' := MX7_clear) (ci := 7) (pc2 := 7) (dk D_X5_read 2 rfl) ml_5_26 mv_X7_clear rfl rfl (by decide) rfl (Nat.le_of_ble_eq_true rfl) rfl he3 h6 hc4 (RV.k fun  S5 h => ?_)
  refine V_aload_n (pc2 := 8) (dk D_X5_read 3 rfl) rfl (V_lg 0 rfl) rfl ?_
  obtain ⟨h7, h⟩ := h
  refine V_getR kc5 (pc2 := 11) 0 (dk D_X5_read 4 rfl) fl_5_9 (by decide) (fun _ => rfl) rfl h7 ?_
  obtain ⟨h12, h⟩ := h
  obtain ⟨e8, he9, hc10⟩ := h
  refine V_callV (as := []) (st := []) (M' := MX9_readTape) (ci := 9) (pc2 := 14) (dk D_X5_read 5 rfl) ml_5_29 mv_X9_readTape rfl rfl (by decide) rfl (Nat.le_of_ble_eq_true rfl) rfl he9 h12 hc10 (RV.k fun  S11 h => ?_)
  refine V_aload_n (pc2 := 15) (dk D_X5_read 6 rfl) rfl (V_lg 0 rfl) rfl ?_
  refine V_iconst (x := 0) (pc2 := 16) (dk D_X5_read 7 rfl) (by decide) rfl ?_
  obtain ⟨h13, h⟩ := h
  refine V_putI kc5 (pc2 := 19) 4 (dk D_X5_read 8 rfl) fl_5_34 (by decide) (Or.inl rfl) rfl rfl h13 ?_
  have h := h _ rfl
  refine V_aload_n (pc2 := 20) (dk D_X5_read 9 rfl) rfl (V_lg 0 rfl) rfl ?_
  refine V_bipush (x := (-9)) (pc2 := 22) (dk D_X5_read 10 rfl) (by decide) rfl ?_
  refine V_putI kc5 (pc2 := 25) 5 (dk D_X5_read 11 rfl) fl_5_38 (by decide) (Or.inl rfl) rfl rfl h13 ?_
  have h := h _ rfl
  refine V_iconst (x := 0) (pc2 := 26) (dk D_X5_read 12 rfl) (by decide) rfl ?_
  refine V_istore_n (pc2 := 27) (lv2 := [(0, _), (1, _)]) (dk D_X5_read 13 rfl) rfl (by decide) rfl rfl ?_
  exact h
theorem w_X5_read_27 {X : Cx} {d : Nat} {S : Mem} {Q : Res → Mem → Prop} (r0 : Nat) (x1 : Int32) (h : ((12 < x1 → V X d MX5_read 121 [(0, vR r0), (1, vI x1)] [] S Q) ∧ (¬ 12 < x1 → (isK S r0 5) ∧ ((¬ (gI S r0 5) = (-9) → V X d MX5_read 121 [(0, vR r0), (1, vI x1)] [] S Q) ∧ ((gI S r0 5) = (-9) → ((x1 ≤ 0 → V X d MX5_read 59 [(0, vR r0), (1, vI x1)] [] S Q) ∧ (¬ x1 ≤ 0 → (isK S (gR S r0 0) 9) ∧ ((¬ (gI S (gR S r0 0) 7) = 0 → V X d MX5_read 59 [(0, vR r0), (1, vI x1)] [] S Q) ∧ ((gI S (gR S r0 0) 7) = 0 → V X d MX5_read 121 [(0, vR r0), (1, vI x1)] [] S Q))))))))) : V X d MX5_read 27 [(0, vR r0), (1, vI x1)] [] S Q := by
  refine V_iload_n (pc2 := 28) (dk D_X5_read 14 rfl) rfl (V_lg 1 rfl) rfl ?_
  refine V_bipush (x := 12) (pc2 := 30) (dk D_X5_read 15 rfl) (by decide) rfl ?_
  refine V_cmpgt (tgt := 121) (pc2 := 33) (dk D_X5_read 16 rfl) (by decide) rfl (fun q1 => ?_) (fun q1 => ?_)
  · have h := h.1 q1
    exact h
  · have h := h.2 q1
    refine V_aload_n (pc2 := 34) (dk D_X5_read 17 rfl) rfl (V_lg 0 rfl) rfl ?_
    obtain ⟨h2, h⟩ := h
    refine V_getI kc5 (pc2 := 37) 5 (dk D_X5_read 18 rfl) fl_5_38 (by decide) (fun _ => rfl) rfl h2 ?_
    refine V_bipush (x := (-9)) (pc2 := 39) (dk D_X5_read 19 rfl) (by decide) rfl ?_
    refine V_cmpne (tgt := 121) (pc2 := 42) (dk D_X5_read 20 rfl) (by decide) rfl (fun q3 => ?_) (fun q3 => ?_)
    · have h := h.1 q3
      exact h
    · have h := h.2 q3
      refine V_iload_n (pc2 := 43) (dk D_X5_read 21 rfl) rfl (V_lg 1 rfl) rfl ?_
      refine V_ifle (tgt := 59) (pc2 := 46) (dk D_X5_read 22 rfl) (by decide) rfl (fun q4 => ?_) (fun q4 => ?_)
      · have h := h.1 q4
        exact h
      · have h := h.2 q4
        refine V_aload_n (pc2 := 47) (dk D_X5_read 23 rfl) rfl (V_lg 0 rfl) rfl ?_
        refine V_getR kc5 (pc2 := 50) 0 (dk D_X5_read 24 rfl) fl_5_9 (by decide) (fun _ => rfl) rfl h2 ?_
        obtain ⟨h5, h⟩ := h
        refine V_getI kc9 (pc2 := 53) 7 (dk D_X5_read 25 rfl) fl_5_41 (by decide) (fun _ => rfl) rfl h5 ?_
        refine V_ifne (tgt := 59) (pc2 := 56) (dk D_X5_read 26 rfl) (by decide) rfl (fun q6 => ?_) (fun q6 => ?_)
        · have h := h.1 q6
          exact h
        · have h := h.2 q6
          refine V_goto (tgt := 121) (dk D_X5_read 27 rfl) (by decide) ?_
          exact h
theorem w_X5_read_59 {X : Cx} {d : Nat} {S : Mem} {Q : Res → Mem → Prop} (r0 : Nat) (x1 : Int32) (h : (isK S r0 5) ∧ ∃ e1 : Nat, e1 + 1 ≤ d ∧ C X e1 MX5_readHead [vR r0] S (RI fun y4 S5 => ((y4 = 0 → V X d MX5_read 115 [(0, vR r0), (1, vI x1)] [] S5 Q) ∧ (¬ y4 = 0 → (isK S5 r0 5) ∧ ∃ e8 : Nat, e8 + 1 ≤ d ∧ C X e8 MX5_readBlock [vR r0] S5 (RI fun y11 S12 => ((y11 = 0 → V X d MX5_read 115 [(0, vR r0), (1, vI x1)] [] S12 Q) ∧ (¬ y11 = 0 → (isK S12 r0 5) ∧ (((gR S12 r0 3) = 0 → V X d MX5_read 115 [(0, vR r0), (1, vI x1)] [] S12 Q) ∧ (¬ (gR S12 r0 3) = 0 → (isK S12 (gR S12 r0 2) 1) ∧ ∃ e17 : Nat, e17 + 1 ≤ d ∧ C X e17 MX1_add [vR (gR S12 r0 2), vI 1, vI 0] S12 (RI fun y20 S21 => (isK S21 r0 5) ∧ (isK S21 (gR S21 r0 2) 1) ∧ ∃ e24 : Nat, e24 + 1 ≤ d ∧ C X e24 MX1_add [vR (gR S21 r0 2), vI 46, vI 0] S21 (RI fun y27 S28 => (isK S28 r0 5) ∧ (isK S28 (gR S28 r0 2) 1) ∧ ∃ e31 : Nat, e31 + 1 ≤ d ∧ C X e31 MX1_size [vR (gR S28 r0 2)] S28 (RI fun y34 S35 => (isK S35 (gR S28 r0 3) 0) ∧ ∀ S38 : Mem, S38 = uI S35 (gR S28 r0 3) 7 y34 → V X d MX5_read 115 [(0, vR r0), (1, vI x1)] [] S38 Q)))))))))))) : V X d MX5_read 59 [(0, vR r0), (1, vI x1)] [] S Q := by
  refine V_aload_n (pc2 := 60) (dk D_X5_read 28 rfl) rfl (V_lg 0 rfl) rfl ?_
  obtain ⟨h6, h⟩ := h
  obtain ⟨e1, he2, hc3⟩ := h
  refine V_callV (as := []) (st := []) (M' := MX5_readHead) (ci := 5) (pc2 := 63) (dk D_X5_read 29 rfl) ml_5_44 mv_X5_readHead rfl rfl (by decide) rfl (Nat.le_of_ble_eq_true rfl) rfl he2 h6 hc3 (RI.k fun y4 S5 h => ?_)
  refine V_ifeq (tgt := 115) (pc2 := 66) (dk D_X5_read 30 rfl) (by decide) rfl (fun q7 => ?_) (fun q7 => ?_)
  · have h := h.1 q7
    exact h
  · have h := h.2 q7
    refine V_aload_n (pc2 := 67) (dk D_X5_read 31 rfl) rfl (V_lg 0 rfl) rfl ?_
    obtain ⟨h13, h⟩ := h
    obtain ⟨e8, he9, hc10⟩ := h
    refine V_callV (as := []) (st := []) (M' := MX5_readBlock) (ci := 5) (pc2 := 70) (dk D_X5_read 32 rfl) ml_5_48 mv_X5_readBlock rfl rfl (by decide) rfl (Nat.le_of_ble_eq_true rfl) rfl he9 h13 hc10 (RI.k fun y11 S12 h => ?_)
    refine V_ifeq (tgt := 115) (pc2 := 73) (dk D_X5_read 33 rfl) (by decide) rfl (fun q14 => ?_) (fun q14 => ?_)
    · have h := h.1 q14
      exact h
    · have h := h.2 q14
      refine V_aload_n (pc2 := 74) (dk D_X5_read 34 rfl) rfl (V_lg 0 rfl) rfl ?_
      obtain ⟨h15, h⟩ := h
      refine V_getR kc5 (pc2 := 77) 3 (dk D_X5_read 35 rfl) fl_5_51 (by decide) (fun _ => rfl) rfl h15 ?_
      refine V_ifnull (tgt := 115) (pc2 := 80) (dk D_X5_read 36 rfl) (by decide) rfl (fun q16 => ?_) (fun q16 => ?_)
      · have h := h.1 q16
        exact h
      · have h := h.2 q16
        refine V_aload_n (pc2 := 81) (dk D_X5_read 37 rfl) rfl (V_lg 0 rfl) rfl ?_
        refine V_getR kc5 (pc2 := 84) 2 (dk D_X5_read 38 rfl) fl_5_25 (by decide) (fun _ => rfl) rfl h15 ?_
        refine V_iconst (x := 1) (pc2 := 85) (dk D_X5_read 39 rfl) (by decide) rfl ?_
        refine V_iconst (x := 0) (pc2 := 86) (dk D_X5_read 40 rfl) (by decide) rfl ?_
        obtain ⟨h22, h⟩ := h
        obtain ⟨e17, he18, hc19⟩ := h
        refine V_callV (as := [_, _]) (st := []) (M' := MX1_add) (ci := 1) (pc2 := 89) (dk D_X5_read 41 rfl) ml_5_57 mv_X1_add rfl rfl (by decide) rfl (Nat.le_of_ble_eq_true rfl) rfl he18 h22 hc19 (RI.k fun y20 S21 h => ?_)
        refine V_pop (pc2 := 90) (dk D_X5_read 42 rfl) rfl rfl ?_
        refine V_aload_n (pc2 := 91) (dk D_X5_read 43 rfl) rfl (V_lg 0 rfl) rfl ?_
        obtain ⟨h23, h⟩ := h
        refine V_getR kc5 (pc2 := 94) 2 (dk D_X5_read 44 rfl) fl_5_25 (by decide) (fun _ => rfl) rfl h23 ?_
        refine V_bipush (x := 46) (pc2 := 96) (dk D_X5_read 45 rfl) (by decide) rfl ?_
        refine V_iconst (x := 0) (pc2 := 97) (dk D_X5_read 46 rfl) (by decide) rfl ?_
        obtain ⟨h29, h⟩ := h
        obtain ⟨e24, he25, hc26⟩ := h
        refine V_callV (as := [_, _]) (st := []) (M' := MX1_add) (ci := 1) (pc2 := 100) (dk D_X5_read 47 rfl) ml_5_57 mv_X1_add rfl rfl (by decide) rfl (Nat.le_of_ble_eq_true rfl) rfl he25 h29 hc26 (RI.k fun y27 S28 h => ?_)
        refine V_pop (pc2 := 101) (dk D_X5_read 48 rfl) rfl rfl ?_
        refine V_aload_n (pc2 := 102) (dk D_X5_read 49 rfl) rfl (V_lg 0 rfl) rfl ?_
        obtain ⟨h30, h⟩ := h
        refine V_getR kc5 (pc2 := 105) 3 (dk D_X5_read 50 rfl) fl_5_51 (by decide) (fun _ => rfl) rfl h30 ?_
        refine V_aload_n (pc2 := 106) (dk D_X5_read 51 rfl) rfl (V_lg 0 rfl) rfl ?_
        refine V_getR kc5 (pc2 := 109) 2 (dk D_X5_read 52 rfl) fl_5_25 (by decide) (fun _ => rfl) rfl h30 ?_
        obtain ⟨h36, h⟩ := h
        obtain ⟨e31, he32, hc33⟩ := h
        refine V_callV (as := []) (st := [_]) (M' := MX1_size) (ci := 1) (pc2 := 112) (dk D_X5_read 53 rfl) ml_5_61 mv_X1_size rfl rfl (by decide) rfl (Nat.le_of_ble_eq_true rfl) rfl he32 h36 hc33 (RI.k fun y34 S35 h => ?_)
        obtain ⟨h37, h⟩ := h
        refine V_putI kc0 (pc2 := 115) 7 (dk D_X5_read 54 rfl) fl_5_65 (by decide) (Or.inl rfl) rfl rfl h37 ?_
        have h := h _ rfl
        exact h
theorem w_X5_read_115 {X : Cx} {d : Nat} {S : Mem} {Q : Res → Mem → Prop} (r0 : Nat) (x1 : Int32) (h : V X d MX5_read 27 [(0, vR r0), (1, vI (x1 + 1))] [] S Q) : V X d MX5_read 115 [(0, vR r0), (1, vI x1)] [] S Q := by
  refine V_iinc (y := _ + 1) (pc2 := 118) (lv2 := [(0, _), (1, _)]) (dk D_X5_read 55 rfl) (V_lg 1 rfl) rfl (by decide) rfl rfl ?_
  refine V_goto (tgt := 27) (dk D_X5_read 56 rfl) (by decide) ?_
  exact h
theorem w_X5_read_121 {X : Cx} {d : Nat} {S : Mem} {Q : Res → Mem → Prop} (r0 : Nat) (x1 : Int32) (h : (isK S r0 5) ∧ Q (.inl (some (vI (gI S r0 5)))) S) : V X d MX5_read 121 [(0, vR r0), (1, vI x1)] [] S Q := by
  refine V_aload_n (pc2 := 122) (dk D_X5_read 57 rfl) rfl (V_lg 0 rfl) rfl ?_
  obtain ⟨h1, h⟩ := h
  refine V_getI kc5 (pc2 := 125) 5 (dk D_X5_read 58 rfl) fl_5_38 (by decide) (fun _ => rfl) rfl h1 ?_
  exact V_ireturn (dk D_X5_read 59 rfl) rfl h
def L_X5_refuse : List (Nat × Instr × Nat) := [(0, .aload_n 0, 1), (1, .iload_n 1, 1), (2, .putfield 38, 3), (5, .iconst 0, 1), (6, .ireturn, 1)]
theorem D_X5_refuse : dOk cX5_refuse L_X5_refuse = true := by decide +kernel
theorem w_X5_refuse_0 {X : Cx} {d : Nat} {S : Mem} {Q : Res → Mem → Prop} (r0 : Nat) (x1 : Int32) (h : (isK S r0 5) ∧ ∀ S2 : Mem, S2 = uI S r0 5 x1 → Q (.inl (some (vI 0))) S2) : V X d MX5_refuse 0 [(0, vR r0), (1, vI x1)] [] S Q := by
  refine V_aload_n (pc2 := 1) (dk D_X5_refuse 0 rfl) rfl (V_lg 0 rfl) rfl ?_
  refine V_iload_n (pc2 := 2) (dk D_X5_refuse 1 rfl) rfl (V_lg 1 rfl) rfl ?_
  obtain ⟨h1, h⟩ := h
  refine V_putI kc5 (pc2 := 5) 5 (dk D_X5_refuse 2 rfl) fl_5_38 (by decide) (Or.inl rfl) rfl rfl h1 ?_
  have h := h _ rfl
  refine V_iconst (x := 0) (pc2 := 6) (dk D_X5_refuse 3 rfl) (by decide) rfl ?_
  exact V_zreturn (dk D_X5_refuse 4 rfl) rfl (Or.inl rfl) h
def L_X5_readHead : List (Nat × Instr × Nat) := [(0, .aload_n 0, 1), (1, .getfield 9, 3), (4, .getfield 41, 3), (7, .sipush 200, 3), (10, .if_icmp .ne 7, 3), (13, .iconst 1, 1), (14, .goto 4, 3), (17, .iconst 0, 1), (18, .istore_n 1, 1), (19, .aload_n 0, 1), (20, .iload_n 1, 1), (21, .ifCond .ne 16, 3), (24, .aload_n 0, 1), (25, .getfield 9, 3), (28, .getfield 41, 3), (31, .sipush 201, 3), (34, .if_icmp .ne 13, 3), (37, .aload_n 0, 1), (38, .getfield 15, 3), (41, .invokevirtual 87, 3), (44, .goto 4, 3), (47, .aconst_null, 1), (48, .putfield 51, 3), (51, .aload_n 0, 1), (52, .getfield 51, 3), (55, .ifnonnull 15, 3), (58, .aload_n 0, 1), (59, .aload_n 0, 1), (60, .getfield 9, 3), (63, .getfield 70, 3), (66, .invokevirtual 73, 3), (69, .ireturn, 1), (70, .aload_n 0, 1), (71, .getfield 9, 3), (74, .invokevirtual 77, 3), (77, .aload_n 0, 1), (78, .invokevirtual 90, 3), (81, .ifCond .ne 5, 3), (84, .iconst 0, 1), (85, .ireturn, 1), (86, .aload_n 0, 1), (87, .getfield 9, 3), (90, .aload_n 0, 1), (91, .getfield 9, 3), (94, .invokevirtual 80, 3), (97, .invokevirtual 83, 3), (100, .lstore_n 2, 1), (101, .aload_n 0, 1), (102, .getfield 15, 3), (105, .lload_n 2, 1), (106, .invokevirtual 93, 3), (109, .bipush (-9), 2), (111, .if_icmp .eq 17, 3), (114, .aload_n 0, 1), (115, .getfield 15, 3), (118, .aload_n 0, 1), (119, .getfield 9, 3), (122, .getfield 70, 3), (125, .invokevirtual 97, 3), (128, .aload_n 0, 1), (129, .getfield 51, 3), (132, .iload_n 1, 1), (133, .lload_n 2, 1), (134, .aload_n 0, 1), (135, .getfield 9, 3), (138, .getfield 70, 3), (141, .aload_n 0, 1), (142, .getfield 25, 3), (145, .invokevirtual 61, 3), (148, .invokevirtual 101, 3), (151, .aload_n 0, 1), (152, .getfield 9, 3), (155, .invokevirtual 77, 3), (158, .aload_n 0, 1), (159, .bipush 40, 2), (161, .invokevirtual 105, 3), (164, .ifCond .eq 24, 3), (167, .aload_n 0, 1), (168, .iload_n 1, 1), (169, .invokevirtual 108, 3), (172, .ifCond .eq 16, 3), (175, .aload_n 0, 1), (176, .bipush 41, 2), (178, .invokevirtual 112, 3), (181, .ifCond .eq 7, 3), (184, .iconst 1, 1), (185, .goto 4, 3), (188, .iconst 0, 1), (189, .ireturn, 1)]
theorem D_X5_readHead : dOk cX5_readHead L_X5_readHead = true := by decide +kernel
theorem w_X5_readHead_0 {X : Cx} {d : Nat} {S : Mem} {Q : Res → Mem → Prop} (r0 : Nat) (h : (isK S r0 5) ∧ (isK S (gR S r0 0) 9) ∧ ((¬ (gI S (gR S r0 0) 7) = 200 → V X d MX5_readHead 18 [(0, vR r0)] [vI 0] S Q) ∧ ((gI S (gR S r0 0) 7) = 200 → V X d MX5_readHead 18 [(0, vR r0)] [vI 1] S Q))) : V X d MX5_readHead 0 [(0, vR r0)] [] S Q := by
  refine V_aload_n (pc2 := 1) (dk D_X5_readHead 0 rfl) rfl (V_lg 0 rfl) rfl ?_
  obtain ⟨h1, h⟩ := h
  refine V_getR kc5 (pc2 := 4) 0 (dk D_X5_readHead 1 rfl) fl_5_9 (by decide) (fun _ => rfl) rfl h1 ?_
  obtain ⟨h2, h⟩ := h
  refine V_getI kc9 (pc2 := 7) 7 (dk D_X5_readHead 2 rfl) fl_5_41 (by decide) (fun _ => rfl) rfl h2 ?_
  refine V_sipush (x := 200) (pc2 := 10) (dk D_X5_readHead 3 rfl) (by decide) rfl ?_
  refine V_cmpne (tgt := 17) (pc2 := 13) (dk D_X5_readHead 4 rfl) (by decide) rfl (fun q3 => ?_) (fun q3 => ?_)
  · have h := h.1 q3
    refine V_iconst (x := 0) (pc2 := 18) (dk D_X5_readHead 7 rfl) (by decide) rfl ?_
    exact h
  · have h := h.2 q3
    refine V_iconst (x := 1) (pc2 := 14) (dk D_X5_readHead 5 rfl) (by decide) rfl ?_
    refine V_goto (tgt := 18) (dk D_X5_readHead 6 rfl) (by decide) ?_
    exact h
theorem w_X5_readHead_18 {X : Cx} {d : Nat} {S : Mem} {Q : Res → Mem → Prop} (r0 : Nat) (t0 : Int32) (h : ((¬ t0 = 0 → V X d MX5_readHead 37 [(0, vR r0), (1, vI t0)] [vR r0] S Q) ∧ (t0 = 0 → (isK S r0 5) ∧ (isK S (gR S r0 0) 9) ∧ ((¬ (gI S (gR S r0 0) 7) = 201 → V X d MX5_readHead 48 [(0, vR r0), (1, vI t0)] [vR 0, vR r0] S Q) ∧ ((gI S (gR S r0 0) 7) = 201 → V X d MX5_readHead 37 [(0, vR r0), (1, vI t0)] [vR r0] S Q))))) : V X d MX5_readHead 18 [(0, vR r0)] [vI t0] S Q := by
  refine V_istore_n (pc2 := 19) (lv2 := [(0, _), (1, _)]) (dk D_X5_readHead 8 rfl) rfl (by decide) rfl rfl ?_
  refine V_aload_n (pc2 := 20) (dk D_X5_readHead 9 rfl) rfl (V_lg 0 rfl) rfl ?_
  refine V_iload_n (pc2 := 21) (dk D_X5_readHead 10 rfl) rfl (V_lg 1 rfl) rfl ?_
  refine V_ifne (tgt := 37) (pc2 := 24) (dk D_X5_readHead 11 rfl) (by decide) rfl (fun q1 => ?_) (fun q1 => ?_)
  · have h := h.1 q1
    exact h
  · have h := h.2 q1
    refine V_aload_n (pc2 := 25) (dk D_X5_readHead 12 rfl) rfl (V_lg 0 rfl) rfl ?_
    obtain ⟨h2, h⟩ := h
    refine V_getR kc5 (pc2 := 28) 0 (dk D_X5_readHead 13 rfl) fl_5_9 (by decide) (fun _ => rfl) rfl h2 ?_
    obtain ⟨h3, h⟩ := h
    refine V_getI kc9 (pc2 := 31) 7 (dk D_X5_readHead 14 rfl) fl_5_41 (by decide) (fun _ => rfl) rfl h3 ?_
    refine V_sipush (x := 201) (pc2 := 34) (dk D_X5_readHead 15 rfl) (by decide) rfl ?_
    refine V_cmpne (tgt := 47) (pc2 := 37) (dk D_X5_readHead 16 rfl) (by decide) rfl (fun q4 => ?_) (fun q4 => ?_)
    · have h := h.1 q4
      refine V_null (pc2 := 48) (dk D_X5_readHead 21 rfl) rfl ?_
      exact h
    · have h := h.2 q4
      exact h
theorem w_X5_readHead_48 {X : Cx} {d : Nat} {S : Mem} {Q : Res → Mem → Prop} (r0 : Nat) (x1 : Int32) (t0 : Nat) (t1 : Nat) (h : (isK S t0 5) ∧ ∀ S2 : Mem, S2 = uR S t0 3 t1 → (isK S r0 5) ∧ ((¬ (gR S2 r0 3) = 0 → (isK S (gR S2 r0 0) 9) ∧ ∃ e5 : Nat, e5 + 1 ≤ d ∧ C X e5 MX9_next [vR (gR S2 r0 0)] S2 (RV fun  S8 => (isK S8 r0 5) ∧ ∃ e10 : Nat, e10 + 1 ≤ d ∧ C X e10 MX5_isName [vR r0] S8 (RI fun y13 S14 => ((¬ y13 = 0 → (isK S14 r0 5) ∧ (isK S14 (gR S14 r0 0) 9) ∧ ∃ e18 : Nat, e18 + 1 ≤ d ∧ C X e18 MX9_index [vR (gR S14 r0 0)] S14 (RI fun y21 S22 => (isK S22 (gR S14 r0 0) 9) ∧ ∃ e24 : Nat, e24 + 1 ≤ d ∧ C X e24 MX9_valueOf [vR (gR S14 r0 0), vI y21] S22 (RJ fun w27 S28 => (isK S28 r0 5) ∧ (isK S28 (gR S28 r0 1) 7) ∧ ∃ e31 : Nat, e31 + 1 ≤ d ∧ C X e31 MX7_find [vR (gR S28 r0 1), vL w27] S28 (RI fun y34 S35 => ((y34 = (-9) → V X d MX5_readHead 128 [(0, vR r0), (1, vI x1), (2, vL w27)] [] S35 Q) ∧ (¬ y34 = (-9) → (isK S35 r0 5) ∧ (isK S35 (gR S35 r0 0) 9) ∧ (isK S35 (gR S35 r0 1) 7) ∧ ∃ e40 : Nat, e40 + 1 ≤ d ∧ C X e40 MX7_noteWrongName [vR (gR S35 r0 1), vI (gI S35 (gR S35 r0 0) 8)] S35 (RV fun  S43 => V X d MX5_readHead 128 [(0, vR r0), (1, vI x1), (2, vL w27)] [] S43 Q))))))) ∧ (y13 = 0 → Q (.inl (some (vI 0))) S14))))) ∧ ((gR S2 r0 3) = 0 → (isK S (gR S2 r0 0) 9) ∧ ∃ e46 : Nat, e46 + 1 ≤ d ∧ C X e46 MX5_refuse [vR r0, vI (gI S (gR S2 r0 0) 8)] S2 (RI fun y49 S50 => (y49 = 0 ∨ y49 = 1) ∧ Q (.inl (some (vI y49))) S50)))) : V X d MX5_readHead 48 [(0, vR r0), (1, vI x1)] [vR t1, vR t0] S Q := by
  obtain ⟨h1, h⟩ := h
  refine V_putR kc5 (pc2 := 51) 3 (dk D_X5_readHead 22 rfl) fl_5_51 (by decide) (Or.inl rfl) (Or.inl ⟨_, rfl⟩) rfl h1 ?_
  have h := h _ rfl
  refine V_aload_n (pc2 := 52) (dk D_X5_readHead 23 rfl) rfl (V_lg 0 rfl) rfl ?_
  obtain ⟨h3, h⟩ := h
  refine V_getR kc5 (pc2 := 55) 3 (dk D_X5_readHead 24 rfl) fl_5_51 (by decide) (fun _ => rfl) rfl h3 ?_
  refine V_ifnonnull (tgt := 70) (pc2 := 58) (dk D_X5_readHead 25 rfl) (by decide) rfl (fun q4 => ?_) (fun q4 => ?_)
  · have h := h.1 q4
    refine V_aload_n (pc2 := 71) (dk D_X5_readHead 32 rfl) rfl (V_lg 0 rfl) rfl ?_
    refine V_getR kc5 (pc2 := 74) 0 (dk D_X5_readHead 33 rfl) fl_5_9 (by decide) (fun _ => rfl) rfl h3 ?_
    obtain ⟨h9, h⟩ := h
    obtain ⟨e5, he6, hc7⟩ := h
    refine V_callV (as := []) (st := []) (M' := MX9_next) (ci := 9) (pc2 := 77) (dk D_X5_readHead 34 rfl) ml_5_77 mv_X9_next rfl rfl (by decide) rfl (Nat.le_of_ble_eq_true rfl) rfl he6 h9 hc7 (RV.k fun  S8 h => ?_)
    refine V_aload_n (pc2 := 78) (dk D_X5_readHead 35 rfl) rfl (V_lg 0 rfl) rfl ?_
    obtain ⟨h15, h⟩ := h
    obtain ⟨e10, he11, hc12⟩ := h
    refine V_callV (as := []) (st := []) (M' := MX5_isName) (ci := 5) (pc2 := 81) (dk D_X5_readHead 36 rfl) ml_5_90 mv_X5_isName rfl rfl (by decide) rfl (Nat.le_of_ble_eq_true rfl) rfl he11 h15 hc12 (RI.k fun y13 S14 h => ?_)
    refine V_ifne (tgt := 86) (pc2 := 84) (dk D_X5_readHead 37 rfl) (by decide) rfl (fun q16 => ?_) (fun q16 => ?_)
    · have h := h.1 q16
      refine V_aload_n (pc2 := 87) (dk D_X5_readHead 40 rfl) rfl (V_lg 0 rfl) rfl ?_
      obtain ⟨h17, h⟩ := h
      refine V_getR kc5 (pc2 := 90) 0 (dk D_X5_readHead 41 rfl) fl_5_9 (by decide) (fun _ => rfl) rfl h17 ?_
      refine V_aload_n (pc2 := 91) (dk D_X5_readHead 42 rfl) rfl (V_lg 0 rfl) rfl ?_
      refine V_getR kc5 (pc2 := 94) 0 (dk D_X5_readHead 43 rfl) fl_5_9 (by decide) (fun _ => rfl) rfl h17 ?_
      obtain ⟨h23, h⟩ := h
      obtain ⟨e18, he19, hc20⟩ := h
      refine V_callV (as := []) (st := [_]) (M' := MX9_index) (ci := 9) (pc2 := 97) (dk D_X5_readHead 44 rfl) ml_5_80 mv_X9_index rfl rfl (by decide) rfl (Nat.le_of_ble_eq_true rfl) rfl he19 h23 hc20 (RI.k fun y21 S22 h => ?_)
      obtain ⟨h29, h⟩ := h
      obtain ⟨e24, he25, hc26⟩ := h
      refine V_callV (as := [_]) (st := []) (M' := MX9_valueOf) (ci := 9) (pc2 := 100) (dk D_X5_readHead 45 rfl) ml_5_83 mv_X9_valueOf rfl rfl (by decide) rfl (Nat.le_of_ble_eq_true rfl) rfl he25 h29 hc26 (RJ.k fun w27 S28 h => ?_)
      refine V_lstore_n (pc2 := 101) (lv2 := [(0, _), (1, _), (2, _)]) (dk D_X5_readHead 46 rfl) rfl (by decide) rfl rfl ?_
      refine V_aload_n (pc2 := 102) (dk D_X5_readHead 47 rfl) rfl (V_lg 0 rfl) rfl ?_
      obtain ⟨h30, h⟩ := h
      refine V_getR kc5 (pc2 := 105) 1 (dk D_X5_readHead 48 rfl) fl_5_15 (by decide) (fun _ => rfl) rfl h30 ?_
      refine V_lload_n (pc2 := 106) (dk D_X5_readHead 49 rfl) rfl (V_lg 2 rfl) rfl ?_
      obtain ⟨h36, h⟩ := h
      obtain ⟨e31, he32, hc33⟩ := h
      refine V_callV (as := [_]) (st := []) (M' := MX7_find) (ci := 7) (pc2 := 109) (dk D_X5_readHead 50 rfl) ml_5_93 mv_X7_find rfl rfl (by decide) rfl (Nat.le_of_ble_eq_true rfl) rfl he32 h36 hc33 (RI.k fun y34 S35 h => ?_)
      refine V_bipush (x := (-9)) (pc2 := 111) (dk D_X5_readHead 51 rfl) (by decide) rfl ?_
      refine V_cmpeq (tgt := 128) (pc2 := 114) (dk D_X5_readHead 52 rfl) (by decide) rfl (fun q37 => ?_) (fun q37 => ?_)
      · have h := h.1 q37
        exact h
      · have h := h.2 q37
        refine V_aload_n (pc2 := 115) (dk D_X5_readHead 53 rfl) rfl (V_lg 0 rfl) rfl ?_
        obtain ⟨h38, h⟩ := h
        refine V_getR kc5 (pc2 := 118) 1 (dk D_X5_readHead 54 rfl) fl_5_15 (by decide) (fun _ => rfl) rfl h38 ?_
        refine V_aload_n (pc2 := 119) (dk D_X5_readHead 55 rfl) rfl (V_lg 0 rfl) rfl ?_
        refine V_getR kc5 (pc2 := 122) 0 (dk D_X5_readHead 56 rfl) fl_5_9 (by decide) (fun _ => rfl) rfl h38 ?_
        obtain ⟨h39, h⟩ := h
        refine V_getI kc9 (pc2 := 125) 8 (dk D_X5_readHead 57 rfl) fl_5_70 (by decide) (fun _ => rfl) rfl h39 ?_
        obtain ⟨h44, h⟩ := h
        obtain ⟨e40, he41, hc42⟩ := h
        refine V_callV (as := [_]) (st := []) (M' := MX7_noteWrongName) (ci := 7) (pc2 := 128) (dk D_X5_readHead 58 rfl) ml_5_97 mv_X7_noteWrongName rfl rfl (by decide) rfl (Nat.le_of_ble_eq_true rfl) rfl he41 h44 hc42 (RV.k fun  S43 h => ?_)
        exact h
    · have h := h.2 q16
      refine V_iconst (x := 0) (pc2 := 85) (dk D_X5_readHead 38 rfl) (by decide) rfl ?_
      exact V_zreturn (dk D_X5_readHead 39 rfl) rfl (Or.inl rfl) h
  · have h := h.2 q4
    refine V_aload_n (pc2 := 59) (dk D_X5_readHead 26 rfl) rfl (V_lg 0 rfl) rfl ?_
    refine V_aload_n (pc2 := 60) (dk D_X5_readHead 27 rfl) rfl (V_lg 0 rfl) rfl ?_
    refine V_getR kc5 (pc2 := 63) 0 (dk D_X5_readHead 28 rfl) fl_5_9 (by decide) (fun _ => rfl) rfl h3 ?_
    obtain ⟨h45, h⟩ := h
    refine V_getI kc9 (pc2 := 66) 8 (dk D_X5_readHead 29 rfl) fl_5_70 (by decide) (fun _ => rfl) rfl h45 ?_
    obtain ⟨e46, he47, hc48⟩ := h
    refine V_callV (as := [_]) (st := []) (M' := MX5_refuse) (ci := 5) (pc2 := 69) (dk D_X5_readHead 30 rfl) ml_5_73 mv_X5_refuse rfl rfl (by decide) rfl (Nat.le_of_ble_eq_true rfl) rfl he47 h3 hc48 (RI.k fun y49 S50 h => ?_)
    obtain ⟨h51, h⟩ := h
    exact V_zreturn (dk D_X5_readHead 31 rfl) rfl h51 h
