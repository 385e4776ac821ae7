def L_X5_init : List (Nat × Instr × Nat) := [(0, .aload_n 0, 1), (1, .invokespecial 3, 3), (4, .aload_n 0, 1), (5, .aload_n 1, 1), (6, .putfield 9, 3), (9, .aload_n 0, 1), (10, .aload_n 2, 1), (11, .putfield 15, 3), (14, .aload_n 0, 1), (15, .aload_n 2, 1), (16, .getfield 19, 3), (19, .putfield 25, 3), (22, .return_, 1)]
theorem D_X5_init : dOk cX5_init L_X5_init = true := by decide +kernel
theorem w_X5_init_0 {X : Cx} {d : Nat} {S : Mem} {Q : Res → Mem → Prop} (r0 : Nat) (r1 : Nat) (r2 : Nat) (h : (1 ≤ d) ∧ (r0 ≠ 0) ∧ (isK S r0 5) ∧ ∀ S4 : Mem, S4 = uR S r0 0 r1 → ∀ S5 : Mem, S5 = uR S4 r0 1 r2 → (isK S r2 7) ∧ ∀ S7 : Mem, S7 = uR S5 r0 2 (gR S5 r2 0) → Q (.inl none) S7) : V X d MX5_init 0 [(0, vR r0), (1, vR r1), (2, vR r2)] [] S Q := by
  refine V_aload_n (pc2 := 1) (dk D_X5_init 0 rfl) rfl (V_lg 0 rfl) rfl ?_
  obtain ⟨h1, h⟩ := h
  obtain ⟨h2, h⟩ := h
  refine V_obj (pc2 := 4) (dk D_X5_init 1 rfl) ml_5_3 oi_i oi_c rfl (Nat.le_of_ble_eq_true rfl) h1 h2 ?_
  refine V_aload_n (pc2 := 5) (dk D_X5_init 2 rfl) rfl (V_lg 0 rfl) rfl ?_
  refine V_aload_n (pc2 := 6) (dk D_X5_init 3 rfl) rfl (V_lg 1 rfl) rfl ?_
  obtain ⟨h3, h⟩ := h
  refine V_putR kc5 (pc2 := 9) 0 (dk D_X5_init 4 rfl) fl_5_9 (by decide) (Or.inr ⟨rfl, rfl, rfl⟩) (Or.inl ⟨_, rfl⟩) rfl h3 ?_
  have h := h _ rfl
  refine V_aload_n (pc2 := 10) (dk D_X5_init 5 rfl) rfl (V_lg 0 rfl) rfl ?_
  refine V_aload_n (pc2 := 11) (dk D_X5_init 6 rfl) rfl (V_lg 2 rfl) rfl ?_
  refine V_putR kc5 (pc2 := 14) 1 (dk D_X5_init 7 rfl) fl_5_15 (by decide) (Or.inr ⟨rfl, rfl, rfl⟩) (Or.inl ⟨_, rfl⟩) rfl h3 ?_
  have h := h _ rfl
  refine V_aload_n (pc2 := 15) (dk D_X5_init 8 rfl) rfl (V_lg 0 rfl) rfl ?_
  refine V_aload_n (pc2 := 16) (dk D_X5_init 9 rfl) rfl (V_lg 2 rfl) rfl ?_
  obtain ⟨h6, h⟩ := h
  refine V_getR kc7 (pc2 := 19) 0 (dk D_X5_init 10 rfl) fl_5_19 (by decide) (fun _ => rfl) rfl h6 ?_
  refine V_putR kc5 (pc2 := 22) 2 (dk D_X5_init 11 rfl) fl_5_25 (by decide) (Or.inr ⟨rfl, rfl, rfl⟩) (Or.inl ⟨_, rfl⟩) rfl h3 ?_
  have h := h _ rfl
  exact V_return (dk D_X5_init 12 rfl) rfl h
def L_X5_read : List (Nat × Instr × Nat) := [(0, .aload_n 0, 1), (1, .getfield 15, 3), (4, .invokevirtual 26, 3), (7, .aload_n 0, 1), (8, .getfield 9, 3), (11, .invokevirtual 29, 3), (14, .aload_n 0, 1), (15, .iconst 0, 1), (16, .putfield 34, 3), (19, .aload_n 0, 1), (20, .bipush (-9), 2), (22, .putfield 38, 3), (25, .iconst 0, 1), (26, .istore_n 1, 1), (27, .iload_n 1, 1), (28, .bipush 12, 2), (30, .if_icmp .gt 91, 3), (33, .aload_n 0, 1), (34, .getfield 38, 3), (37, .bipush (-9), 2), (39, .if_icmp .ne 82, 3), (42, .iload_n 1, 1), (43, .ifCond .le 16, 3), (46, .aload_n 0, 1), (47, .getfield 9, 3), (50, .getfield 41, 3), (53, .ifCond .ne 6, 3), (56, .goto 65, 3), (59, .aload_n 0, 1), (60, .invokevirtual 44, 3), (63, .ifCond .eq 52, 3), (66, .aload_n 0, 1), (67, .invokevirtual 48, 3), (70, .ifCond .eq 45, 3), (73, .aload_n 0, 1), (74, .getfield 51, 3), (77, .ifnull 38, 3), (80, .aload_n 0, 1), (81, .getfield 25, 3), (84, .iconst 1, 1), (85, .iconst 0, 1), (86, .invokevirtual 57, 3), (89, .pop, 1), (90, .aload_n 0, 1), (91, .getfield 25, 3), (94, .bipush 46, 2), (96, .iconst 0, 1), (97, .invokevirtual 57, 3), (100, .pop, 1), (101, .aload_n 0, 1), (102, .getfield 51, 3), (105, .aload_n 0, 1), (106, .getfield 25, 3), (109, .invokevirtual 61, 3), (112, .putfield 65, 3), (115, .iinc 1 1, 3), (118, .goto (-91), 3), (121, .aload_n 0, 1), (122, .getfield 38, 3), (125, .ireturn, 1)]
theorem D_X5_read : dOk cX5_read L_X5_read = true := by decide +kernel
theorem w_X5_read_0 {X : Cx} {d : Nat} {S : Mem} {Q : Res → Mem → Prop} (r0 : Nat) (h : (isK S r0 5) ∧ (isK S (gR S r0 1) 7) ∧ ∃ e2 : Nat, e2 + 1 ≤ d ∧ C X e2 MX7_clear [vR (gR S r0 1)] S (RV fun  S5 => (isK S5 r0 5) ∧ (isK S5 (gR S5 r0 0) 9) ∧ ∃ e8 : Nat, e8 + 1 ≤ d ∧ C X e8 MX9_readTape [vR (gR S5 r0 0)] S5 (RV fun  S11 => (isK S11 r0 5) ∧ ∀ S14 : Mem, S14 = uI S11 r0 4 0 → ∀ S15 : Mem, S15 = uI S14 r0 5 (-9) → V X d MX5_read 27 [(0, vR r0), (1, vI 0)] [] S15 Q))) : V X d MX5_read 0 [(0, vR r0)] [] S Q := by
  refine V_aload_n (pc2 := 1) (dk D_X5_read 0 rfl) rfl (V_lg 0 rfl) rfl ?_
  obtain ⟨h1, h⟩ := h
  refine V_getR kc5 (pc2 := 4) 1 (dk D_X5_read 1 rfl) fl_5_15 (by decide) (fun _ => rfl) rfl h1 ?_
  obtain ⟨h6, h⟩ := h
  obtain ⟨e2, he3, hc4⟩ := h
  refine V_callV (as := []) (st := []) (M' := MX7_clear) (ci := 7) (pc2 := 7) (dk D_X5_read 2 rfl) ml_5_26 mv_X7_clear rfl rfl (by decide) rfl (Nat.le_of_ble_eq_true rfl) rfl he3 h6 hc4 (RV.k fun  S5 h => ?_)
  refine V_aload_n (pc2 := 8) (dk D_X5_read 3 rfl) rfl (V_lg 0 rfl) rfl ?_
  obtain ⟨h7, h⟩ := h
  refine V_getR kc5 (pc2 := 11) 0 (dk D_X5_read 4 rfl) fl_5_9 (by decide) (fun _ => rfl) rfl h7 ?_
  obtain ⟨h12, h⟩ := h
  obtain ⟨e8, he9, hc10⟩ := h
  refine V_callV (as := []) (st := []) (M' := MX9_readTape) (ci := 9) (pc2 := 14) (dk D_X5_read 5 rfl) ml_5_29 mv_X9_readTape rfl rfl (by decide) rfl (Nat.le_of_ble_eq_true rfl) rfl he9 h12 hc10 (RV.k fun  S11 h => ?_)
  refine V_aload_n (pc2 := 15) (dk D_X5_read 6 rfl) rfl (V_lg 0 rfl) rfl ?_
  refine V_iconst (x := 0) (pc2 := 16) (dk D_X5_read 7 rfl) (by decide) rfl ?_
  obtain ⟨h13, h⟩ := h
  refine V_putI kc5 (pc2 := 19) 4 (dk D_X5_read 8 rfl) fl_5_34 (by decide) (Or.inl rfl) rfl rfl h13 ?_
  have h := h _ rfl
  refine V_aload_n (pc2 := 20) (dk D_X5_read 9 rfl) rfl (V_lg 0 rfl) rfl ?_
  refine V_bipush (x := (-9)) (pc2 := 22) (dk D_X5_read 10 rfl) (by decide) rfl ?_
  refine V_putI kc5 (pc2 := 25) 5 (dk D_X5_read 11 rfl) fl_5_38 (by decide) (Or.inl rfl) rfl rfl h13 ?_
  have h := h _ rfl
  refine V_iconst (x := 0) (pc2 := 26) (dk D_X5_read 12 rfl) (by decide) rfl ?_
  refine V_istore_n (pc2 := 27) (lv2 := [(0, _), (1, _)]) (dk D_X5_read 13 rfl) rfl (by decide) rfl rfl ?_
  exact h
theorem w_X5_read_27 {X : Cx} {d : Nat} {S : Mem} {Q : Res → Mem → Prop} (r0 : Nat) (x1 : Int32) (h : ((12 < x1 → V X d MX5_read 121 [(0, vR r0), (1, vI x1)] [] S Q) ∧ (¬ 12 < x1 → (isK S r0 5) ∧ ((¬ (gI S r0 5) = (-9) → V X d MX5_read 121 [(0, vR r0), (1, vI x1)] [] S Q) ∧ ((gI S r0 5) = (-9) → ((x1 ≤ 0 → V X d MX5_read 59 [(0, vR r0), (1, vI x1)] [] S Q) ∧ (¬ x1 ≤ 0 → (isK S (gR S r0 0) 9) ∧ ((¬ (gI S (gR S r0 0) 7) = 0 → V X d MX5_read 59 [(0, vR r0), (1, vI x1)] [] S Q) ∧ ((gI S (gR S r0 0) 7) = 0 → V X d MX5_read 121 [(0, vR r0), (1, vI x1)] [] S Q))))))))) : V X d MX5_read 27 [(0, vR r0), (1, vI x1)] [] S Q := by
  refine V_iload_n (pc2 := 28) (dk D_X5_read 14 rfl) rfl (V_lg 1 rfl) rfl ?_
  refine V_bipush (x := 12) (pc2 := 30) (dk D_X5_read 15 rfl) (by decide) rfl ?_
  refine V_cmpgt (tgt := 121) (pc2 := 33) (dk D_X5_read 16 rfl) (by decide) rfl (fun q1 => ?_) (fun q1 => ?_)
  · have h := h.1 q1
    exact h
  · have h := h.2 q1
    refine V_aload_n (pc2 := 34) (dk D_X5_read 17 rfl) rfl (V_lg 0 rfl) rfl ?_
    obtain ⟨h2, h⟩ := h
    refine V_getI kc5 (pc2 := 37) 5 (dk D_X5_read 18 rfl) fl_5_38 (by decide) (fun _ => rfl) rfl h2 ?_
    refine V_bipush (x := (-9)) (pc2 := 39) (dk D_X5_read 19 rfl) (by decide) rfl ?_
    refine V_cmpne (tgt := 121) (pc2 := 42) (dk D_X5_read 20 rfl) (by decide) rfl (fun q3 => ?_) (fun q3 => ?_)
    · have h := h.1 q3
      exact h
    · have h := h.2 q3
      refine V_iload_n (pc2 := 43) (dk D_X5_read 21 rfl) rfl (V_lg 1 rfl) rfl ?_
      refine V_ifle (tgt := 59) (pc2 := 46) (dk D_X5_read 22 rfl) (by decide) rfl (fun q4 => ?_) (fun q4 => ?_)
      · have h := h.1 q4
        exact h
      · have h := h.2 q4
        refine V_aload_n (pc2 := 47) (dk D_X5_read 23 rfl) rfl (V_lg 0 rfl) rfl ?_
        refine V_getR kc5 (pc2 := 50) 0 (dk D_X5_read 24 rfl) fl_5_9 (by decide) (fun _ => rfl) rfl h2 ?_
        obtain ⟨h5, h⟩ := h
        refine V_getI kc9 (pc2 := 53) 7 (dk D_X5_read 25 rfl) fl_5_41 (by decide) (fun _ => rfl) rfl h5 ?_
        refine V_ifne (tgt := 59) (pc2 := 56) (dk D_X5_read 26 rfl) (by decide) rfl (fun q6 => ?_) (fun q6 => ?_)
        · have h := h.1 q6
          exact h
        · have h := h.2 q6
          refine V_goto (tgt := 121) (dk D_X5_read 27 rfl) (by decide) ?_
          exact h
theorem w_X5_read_59 {X : Cx} {d : Nat} {S : Mem} {Q : Res → Mem → Prop} (r0 : Nat) (x1 : Int32) (h : (isK S r0 5) ∧ ∃ e1 : Nat, e1 + 1 ≤ d ∧ C X e1 MX5_readHead [vR r0] S (RI fun y4 S5 => ((y4 = 0 → V X d MX5_read 115 [(0, vR r0), (1, vI x1)] [] S5 Q) ∧ (¬ y4 = 0 → (isK S5 r0 5) ∧ ∃ e8 : Nat, e8 + 1 ≤ d ∧ C X e8 MX5_readBlock [vR r0] S5 (RI fun y11 S12 => ((y11 = 0 → V X d MX5_read 115 [(0, vR r0), (1, vI x1)] [] S12 Q) ∧ (¬ y11 = 0 → (isK S12 r0 5) ∧ (((gR S12 r0 3) = 0 → V X d MX5_read 115 [(0, vR r0), (1, vI x1)] [] S12 Q) ∧ (¬ (gR S12 r0 3) = 0 → (isK S12 (gR S12 r0 2) 1) ∧ ∃ e17 : Nat, e17 + 1 ≤ d ∧ C X e17 MX1_add [vR (gR S12 r0 2), vI 1, vI 0] S12 (RI fun y20 S21 => (isK S21 r0 5) ∧ (isK S21 (gR S21 r0 2) 1) ∧ ∃ e24 : Nat, e24 + 1 ≤ d ∧ C X e24 MX1_add [vR (gR S21 r0 2), vI 46, vI 0] S21 (RI fun y27 S28 => (isK S28 r0 5) ∧ (isK S28 (gR S28 r0 2) 1) ∧ ∃ e31 : Nat, e31 + 1 ≤ d ∧ C X e31 MX1_size [vR (gR S28 r0 2)] S28 (RI fun y34 S35 => (isK S35 (gR S28 r0 3) 0) ∧ ∀ S38 : Mem, S38 = uI S35 (gR S28 r0 3) 7 y34 → V X d MX5_read 115 [(0, vR r0), (1, vI x1)] [] S38 Q)))))))))))) : V X d MX5_read 59 [(0, vR r0), (1, vI x1)] [] S Q := by
  refine V_aload_n (pc2 := 60) (dk D_X5_read 28 rfl) rfl (V_lg 0 rfl) rfl ?_
  obtain ⟨h6, h⟩ := h
  obtain ⟨e1, he2, hc3⟩ := h
  refine V_callV (as := []) (st := []) (M' := MX5_readHead) (ci := 5) (pc2 := 63) (dk D_X5_read 29 rfl) ml_5_44 mv_X5_readHead rfl rfl (by decide) rfl (Nat.le_of_ble_eq_true rfl) rfl he2 h6 hc3 (RI.k fun y4 S5 h => ?_)
  refine V_ifeq (tgt := 115) (pc2 := 66) (dk D_X5_read 30 rfl) (by decide) rfl (fun q7 => ?_) (fun q7 => ?_)
  · have h := h.1 q7
    exact h
  · have h := h.2 q7
    refine V_aload_n (pc2 := 67) (dk D_X5_read 31 rfl) rfl (V_lg 0 rfl) rfl ?_
    obtain ⟨h13, h⟩ := h
    obtain ⟨e8, he9, hc10⟩ := h
    refine V_callV (as := []) (st := []) (M' := MX5_readBlock) (ci := 5) (pc2 := 70) (dk D_X5_read 32 rfl) ml_5_48 mv_X5_readBlock rfl rfl (by decide) rfl (Nat.le_of_ble_eq_true rfl) rfl he9 h13 hc10 (RI.k fun y11 S12 h => ?_)
    refine V_ifeq (tgt := 115) (pc2 := 73) (dk D_X5_read 33 rfl) (by decide) rfl (fun q14 => ?_) (fun q14 => ?_)
    · have h := h.1 q14
      exact h
    · have h := h.2 q14
      refine V_aload_n (pc2 := 74) (dk D_X5_read 34 rfl) rfl (V_lg 0 rfl) rfl ?_
      obtain ⟨h15, h⟩ := h
      refine V_getR kc5 (pc2 := 77) 3 (dk D_X5_read 35 rfl) fl_5_51 (by decide) (fun _ => rfl) rfl h15 ?_
      refine V_ifnull (tgt := 115) (pc2 := 80) (dk D_X5_read 36 rfl) (by decide) rfl (fun q16 => ?_) (fun q16 => ?_)
      · have h := h.1 q16
        exact h
      · have h := h.2 q16
        refine V_aload_n (pc2 := 81) (dk D_X5_read 37 rfl) rfl (V_lg 0 rfl) rfl ?_
        refine V_getR kc5 (pc2 := 84) 2 (dk D_X5_read 38 rfl) fl_5_25 (by decide) (fun _ => rfl) rfl h15 ?_
        refine V_iconst (x := 1) (pc2 := 85) (dk D_X5_read 39 rfl) (by decide) rfl ?_
        refine V_iconst (x := 0) (pc2 := 86) (dk D_X5_read 40 rfl) (by decide) rfl ?_
        obtain ⟨h22, h⟩ := h
        obtain ⟨e17, he18, hc19⟩ := h
        refine V_callV (as := [_, _]) (st := []) (M' := MX1_add) (ci := 1) (pc2 := 89) (dk D_X5_read 41 rfl) ml_5_57 mv_X1_add rfl rfl (by decide) rfl (Nat.le_of_ble_eq_true rfl) rfl he18 h22 hc19 (RI.k fun y20 S21 h => ?_)
        refine V_pop (pc2 := 90) (dk D_X5_read 42 rfl) rfl rfl ?_
        refine V_aload_n (pc2 := 91) (dk D_X5_read 43 rfl) rfl (V_lg 0 rfl) rfl ?_
        obtain ⟨h23, h⟩ := h
        refine V_getR kc5 (pc2 := 94) 2 (dk D_X5_read 44 rfl) fl_5_25 (by decide) (fun _ => rfl) rfl h23 ?_
        refine V_bipush (x := 46) (pc2 := 96) (dk D_X5_read 45 rfl) (by decide) rfl ?_
        refine V_iconst (x := 0) (pc2 := 97) (dk D_X5_read 46 rfl) (by decide) rfl ?_
        obtain ⟨h29, h⟩ := h
        obtain ⟨e24, he25, hc26⟩ := h
        refine V_callV (as := [_, _]) (st := []) (M' := MX1_add) (ci := 1) (pc2 := 100) (dk D_X5_read 47 rfl) ml_5_57 mv_X1_add rfl rfl (by decide) rfl (Nat.le_of_ble_eq_true rfl) rfl he25 h29 hc26 (RI.k fun y27 S28 h => ?_)
        refine V_pop (pc2 := 101) (dk D_X5_read 48 rfl) rfl rfl ?_
        refine V_aload_n (pc2 := 102) (dk D_X5_read 49 rfl) rfl (V_lg 0 rfl) rfl ?_
        obtain ⟨h30, h⟩ := h
        refine V_getR kc5 (pc2 := 105) 3 (dk D_X5_read 50 rfl) fl_5_51 (by decide) (fun _ => rfl) rfl h30 ?_
        refine V_aload_n (pc2 := 106) (dk D_X5_read 51 rfl) rfl (V_lg 0 rfl) rfl ?_
        refine V_getR kc5 (pc2 := 109) 2 (dk D_X5_read 52 rfl) fl_5_25 (by decide) (fun _ => rfl) rfl h30 ?_
        obtain ⟨h36, h⟩ := h
        obtain ⟨e31, he32, hc33⟩ := h
        refine V_callV (as := []) (st := [_]) (M' := MX1_size) (ci := 1) (pc2 := 112) (dk D_X5_read 53 rfl) ml_5_61 mv_X1_size rfl rfl (by decide) rfl (Nat.le_of_ble_eq_true rfl) rfl he32 h36 hc33 (RI.k fun y34 S35 h => ?_)
        obtain ⟨h37, h⟩ := h
        refine V_putI kc0 (pc2 := 115) 7 (dk D_X5_read 54 rfl) fl_5_65 (by decide) (Or.inl rfl) rfl rfl h37 ?_
        have h := h _ rfl
        exact h
theorem w_X5_read_115 {X : Cx} {d : Nat} {S : Mem} {Q : Res → Mem → Prop} (r0 : Nat) (x1 : Int32) (h : V X d MX5_read 27 [(0, vR r0), (1, vI (x1 + 1))] [] S Q) : V X d MX5_read 115 [(0, vR r0), (1, vI x1)] [] S Q := by
  refine V_iinc (y := _ + 1) (pc2 := 118) (lv2 := [(0, _), (1, _)]) (dk D_X5_read 55 rfl) (V_lg 1 rfl) rfl (by decide) rfl rfl ?_
  refine V_goto (tgt := 27) (dk D_X5_read 56 rfl) (by decide) ?_
  exact h
theorem w_X5_read_121 {X : Cx} {d : Nat} {S : Mem} {Q : Res → Mem → Prop} (r0 : Nat) (x1 : Int32) (h : (isK S r0 5) ∧ Q (.inl (some (vI (gI S r0 5)))) S) : V X d MX5_read 121 [(0, vR r0), (1, vI x1)] [] S Q := by
  refine V_aload_n (pc2 := 122) (dk D_X5_read 57 rfl) rfl (V_lg 0 rfl) rfl ?_
  obtain ⟨h1, h⟩ := h
  refine V_getI kc5 (pc2 := 125) 5 (dk D_X5_read 58 rfl) fl_5_38 (by decide) (fun _ => rfl) rfl h1 ?_
  exact V_ireturn (dk D_X5_read 59 rfl) rfl h
def L_X5_refuse : List (Nat × Instr × Nat) := [(0, .aload_n 0, 1), (1, .iload_n 1, 1), (2, .putfield 38, 3), (5, .iconst 0, 1), (6, .ireturn, 1)]
theorem D_X5_refuse : dOk cX5_refuse L_X5_refuse = true := by decide +kernel
theorem w_X5_refuse_0 {X : Cx} {d : Nat} {S : Mem} {Q : Res → Mem → Prop} (r0 : Nat) (x1 : Int32) (h : (isK S r0 5) ∧ ∀ S2 : Mem, S2 = uI S r0 5 x1 → Q (.inl (some (vI 0))) S2) : V X d MX5_refuse 0 [(0, vR r0), (1, vI x1)] [] S Q := by
  refine V_aload_n (pc2 := 1) (dk D_X5_refuse 0 rfl) rfl (V_lg 0 rfl) rfl ?_
  refine V_iload_n (pc2 := 2) (dk D_X5_refuse 1 rfl) rfl (V_lg 1 rfl) rfl ?_
  obtain ⟨h1, h⟩ := h
  refine V_putI kc5 (pc2 := 5) 5 (dk D_X5_refuse 2 rfl) fl_5_38 (by decide) (Or.inl rfl) rfl rfl h1 ?_
  have h := h _ rfl
  refine V_iconst (x := 0) (pc2 := 6) (dk D_X5_refuse 3 rfl) (by decide) rfl ?_
  exact V_zreturn (dk D_X5_refuse 4 rfl) rfl (Or.inl rfl) h
def L_X5_take : List (Nat × Instr × Nat) := [(0, .aload_n 0, 1), (1, .getfield 9, 3), (4, .getfield 41, 3), (7, .iload_n 1, 1), (8, .if_icmp .eq 15, 3), (11, .aload_n 0, 1), (12, .aload_n 0, 1), (13, .getfield 9, 3), (16, .getfield 70, 3), (19, .invokevirtual 73, 3), (22, .ireturn, 1), (23, .aload_n 0, 1), (24, .getfield 9, 3), (27, .invokevirtual 77, 3), (30, .iconst 1, 1), (31, .ireturn, 1)]
theorem D_X5_take : dOk cX5_take L_X5_take = true := by decide +kernel
theorem w_X5_take_0 {X : Cx} {d : Nat} {S : Mem} {Q : Res → Mem → Prop} (r0 : Nat) (x1 : Int32) (h : (isK S r0 5) ∧ (isK S (gR S r0 0) 9) ∧ (((gI S (gR S r0 0) 7) = x1 → ∃ e4 : Nat, e4 + 1 ≤ d ∧ C X e4 MX9_next [vR (gR S r0 0)] S (RV fun  S7 => Q (.inl (some (vI 1))) S7)) ∧ (¬ (gI S (gR S r0 0) 7) = x1 → ∃ e8 : Nat, e8 + 1 ≤ d ∧ C X e8 MX5_refuse [vR r0, vI (gI S (gR S r0 0) 8)] S (RI fun y11 S12 => (y11 = 0 ∨ y11 = 1) ∧ Q (.inl (some (vI y11))) S12)))) : V X d MX5_take 0 [(0, vR r0), (1, vI x1)] [] S Q := by
  refine V_aload_n (pc2 := 1) (dk D_X5_take 0 rfl) rfl (V_lg 0 rfl) rfl ?_
  obtain ⟨h1, h⟩ := h
  refine V_getR kc5 (pc2 := 4) 0 (dk D_X5_take 1 rfl) fl_5_9 (by decide) (fun _ => rfl) rfl h1 ?_
  obtain ⟨h2, h⟩ := h
  refine V_getI kc9 (pc2 := 7) 7 (dk D_X5_take 2 rfl) fl_5_41 (by decide) (fun _ => rfl) rfl h2 ?_
  refine V_iload_n (pc2 := 8) (dk D_X5_take 3 rfl) rfl (V_lg 1 rfl) rfl ?_
  refine V_cmpeq (tgt := 23) (pc2 := 11) (dk D_X5_take 4 rfl) (by decide) rfl (fun q3 => ?_) (fun q3 => ?_)
  · have h := h.1 q3
    refine V_aload_n (pc2 := 24) (dk D_X5_take 11 rfl) rfl (V_lg 0 rfl) rfl ?_
    refine V_getR kc5 (pc2 := 27) 0 (dk D_X5_take 12 rfl) fl_5_9 (by decide) (fun _ => rfl) rfl h1 ?_
    obtain ⟨e4, he5, hc6⟩ := h
    refine V_callV (as := []) (st := []) (M' := MX9_next) (ci := 9) (pc2 := 30) (dk D_X5_take 13 rfl) ml_5_77 mv_X9_next rfl rfl (by decide) rfl (Nat.le_of_ble_eq_true rfl) rfl he5 h2 hc6 (RV.k fun  S7 h => ?_)
    refine V_iconst (x := 1) (pc2 := 31) (dk D_X5_take 14 rfl) (by decide) rfl ?_
    exact V_zreturn (dk D_X5_take 15 rfl) rfl (Or.inr rfl) h
  · have h := h.2 q3
    refine V_aload_n (pc2 := 12) (dk D_X5_take 5 rfl) rfl (V_lg 0 rfl) rfl ?_
    refine V_aload_n (pc2 := 13) (dk D_X5_take 6 rfl) rfl (V_lg 0 rfl) rfl ?_
    refine V_getR kc5 (pc2 := 16) 0 (dk D_X5_take 7 rfl) fl_5_9 (by decide) (fun _ => rfl) rfl h1 ?_
    refine V_getI kc9 (pc2 := 19) 8 (dk D_X5_take 8 rfl) fl_5_70 (by decide) (fun _ => rfl) rfl h2 ?_
    obtain ⟨e8, he9, hc10⟩ := h
    refine V_callV (as := [_]) (st := []) (M' := MX5_refuse) (ci := 5) (pc2 := 22) (dk D_X5_take 9 rfl) ml_5_73 mv_X5_refuse rfl rfl (by decide) rfl (Nat.le_of_ble_eq_true rfl) rfl he9 h1 hc10 (RI.k fun y11 S12 h => ?_)
    obtain ⟨h13, h⟩ := h
    exact V_zreturn (dk D_X5_take 10 rfl) rfl h13 h
def L_X5_takeOpening : List (Nat × Instr × Nat) := [(0, .aload_n 0, 1), (1, .getfield 9, 3), (4, .getfield 41, 3), (7, .iload_n 1, 1), (8, .if_icmp .ne 12, 3), (11, .aload_n 0, 1), (12, .getfield 34, 3), (15, .bipush 24, 2), (17, .if_icmp .lt 15, 3), (20, .aload_n 0, 1), (21, .aload_n 0, 1), (22, .getfield 9, 3), (25, .getfield 70, 3), (28, .invokevirtual 73, 3), (31, .ireturn, 1), (32, .aload_n 0, 1), (33, .dup, 1), (34, .getfield 34, 3), (37, .iconst 1, 1), (38, .iadd, 1), (39, .putfield 34, 3), (42, .aload_n 0, 1), (43, .getfield 9, 3), (46, .invokevirtual 77, 3), (49, .iconst 1, 1), (50, .ireturn, 1)]
theorem D_X5_takeOpening : dOk cX5_takeOpening L_X5_takeOpening = true := by decide +kernel
theorem w_X5_takeOpening_0 {X : Cx} {d : Nat} {S : Mem} {Q : Res → Mem → Prop} (r0 : Nat) (x1 : Int32) (h : (isK S r0 5) ∧ (isK S (gR S r0 0) 9) ∧ ((¬ (gI S (gR S r0 0) 7) = x1 → V X d MX5_takeOpening 20 [(0, vR r0), (1, vI x1)] [] S Q) ∧ ((gI S (gR S r0 0) 7) = x1 → (((gI S r0 4) < 24 → ∀ S5 : Mem, S5 = uI S r0 4 ((gI S r0 4) + 1) → ∃ e6 : Nat, e6 + 1 ≤ d ∧ C X e6 MX9_next [vR (gR S r0 0)] S5 (RV fun  S9 => Q (.inl (some (vI 1))) S9)) ∧ (¬ (gI S r0 4) < 24 → V X d MX5_takeOpening 20 [(0, vR r0), (1, vI x1)] [] S Q))))) : V X d MX5_takeOpening 0 [(0, vR r0), (1, vI x1)] [] S Q := by
  refine V_aload_n (pc2 := 1) (dk D_X5_takeOpening 0 rfl) rfl (V_lg 0 rfl) rfl ?_
  obtain ⟨h1, h⟩ := h
  refine V_getR kc5 (pc2 := 4) 0 (dk D_X5_takeOpening 1 rfl) fl_5_9 (by decide) (fun _ => rfl) rfl h1 ?_
  obtain ⟨h2, h⟩ := h
  refine V_getI kc9 (pc2 := 7) 7 (dk D_X5_takeOpening 2 rfl) fl_5_41 (by decide) (fun _ => rfl) rfl h2 ?_
  refine V_iload_n (pc2 := 8) (dk D_X5_takeOpening 3 rfl) rfl (V_lg 1 rfl) rfl ?_
  refine V_cmpne (tgt := 20) (pc2 := 11) (dk D_X5_takeOpening 4 rfl) (by decide) rfl (fun q3 => ?_) (fun q3 => ?_)
  · have h := h.1 q3
    exact h
  · have h := h.2 q3
    refine V_aload_n (pc2 := 12) (dk D_X5_takeOpening 5 rfl) rfl (V_lg 0 rfl) rfl ?_
    refine V_getI kc5 (pc2 := 15) 4 (dk D_X5_takeOpening 6 rfl) fl_5_34 (by decide) (fun _ => rfl) rfl h1 ?_
    refine V_bipush (x := 24) (pc2 := 17) (dk D_X5_takeOpening 7 rfl) (by decide) rfl ?_
    refine V_cmplt (tgt := 32) (pc2 := 20) (dk D_X5_takeOpening 8 rfl) (by decide) rfl (fun q4 => ?_) (fun q4 => ?_)
    · have h := h.1 q4
      refine V_aload_n (pc2 := 33) (dk D_X5_takeOpening 15 rfl) rfl (V_lg 0 rfl) rfl ?_
      refine V_dup (pc2 := 34) (dk D_X5_takeOpening 16 rfl) rfl rfl ?_
      refine V_getI kc5 (pc2 := 37) 4 (dk D_X5_takeOpening 17 rfl) fl_5_34 (by decide) (fun _ => rfl) rfl h1 ?_
      refine V_iconst (x := 1) (pc2 := 38) (dk D_X5_takeOpening 18 rfl) (by decide) rfl ?_
      refine V_iadd (pc2 := 39) (dk D_X5_takeOpening 19 rfl) rfl ?_
      refine V_putI kc5 (pc2 := 42) 4 (dk D_X5_takeOpening 20 rfl) fl_5_34 (by decide) (Or.inl rfl) rfl rfl h1 ?_
      have h := h _ rfl
      refine V_aload_n (pc2 := 43) (dk D_X5_takeOpening 21 rfl) rfl (V_lg 0 rfl) rfl ?_
      refine V_getR kc5 (pc2 := 46) 0 (dk D_X5_takeOpening 22 rfl) fl_5_9 (by decide) (fun _ => rfl) rfl h1 ?_
      obtain ⟨e6, he7, hc8⟩ := h
      refine V_callV (as := []) (st := []) (M' := MX9_next) (ci := 9) (pc2 := 49) (dk D_X5_takeOpening 23 rfl) ml_5_77 mv_X9_next rfl rfl (by decide) rfl (Nat.le_of_ble_eq_true rfl) rfl he7 h2 hc8 (RV.k fun  S9 h => ?_)
      refine V_iconst (x := 1) (pc2 := 50) (dk D_X5_takeOpening 24 rfl) (by decide) rfl ?_
      exact V_zreturn (dk D_X5_takeOpening 25 rfl) rfl (Or.inr rfl) h
    · have h := h.2 q4
      exact h
theorem w_X5_takeOpening_20 {X : Cx} {d : Nat} {S : Mem} {Q : Res → Mem → Prop} (r0 : Nat) (x1 : Int32) (h : (isK S r0 5) ∧ (isK S (gR S r0 0) 9) ∧ ∃ e3 : Nat, e3 + 1 ≤ d ∧ C X e3 MX5_refuse [vR r0, vI (gI S (gR S r0 0) 8)] S (RI fun y6 S7 => (y6 = 0 ∨ y6 = 1) ∧ Q (.inl (some (vI y6))) S7)) : V X d MX5_takeOpening 20 [(0, vR r0), (1, vI x1)] [] S Q := by
  refine V_aload_n (pc2 := 21) (dk D_X5_takeOpening 9 rfl) rfl (V_lg 0 rfl) rfl ?_
  refine V_aload_n (pc2 := 22) (dk D_X5_takeOpening 10 rfl) rfl (V_lg 0 rfl) rfl ?_
  obtain ⟨h1, h⟩ := h
  refine V_getR kc5 (pc2 := 25) 0 (dk D_X5_takeOpening 11 rfl) fl_5_9 (by decide) (fun _ => rfl) rfl h1 ?_
  obtain ⟨h2, h⟩ := h
  refine V_getI kc9 (pc2 := 28) 8 (dk D_X5_takeOpening 12 rfl) fl_5_70 (by decide) (fun _ => rfl) rfl h2 ?_
  obtain ⟨e3, he4, hc5⟩ := h
  refine V_callV (as := [_]) (st := []) (M' := MX5_refuse) (ci := 5) (pc2 := 31) (dk D_X5_takeOpening 13 rfl) ml_5_73 mv_X5_refuse rfl rfl (by decide) rfl (Nat.le_of_ble_eq_true rfl) rfl he4 h1 hc5 (RI.k fun y6 S7 h => ?_)
  obtain ⟨h8, h⟩ := h
  exact V_zreturn (dk D_X5_takeOpening 14 rfl) rfl h8 h
def L_X5_takeClosing : List (Nat × Instr × Nat) := [(0, .aload_n 0, 1), (1, .getfield 9, 3), (4, .getfield 41, 3), (7, .iload_n 1, 1), (8, .if_icmp .eq 15, 3), (11, .aload_n 0, 1), (12, .aload_n 0, 1), (13, .getfield 9, 3), (16, .getfield 70, 3), (19, .invokevirtual 73, 3), (22, .ireturn, 1), (23, .aload_n 0, 1), (24, .dup, 1), (25, .getfield 34, 3), (28, .iconst 1, 1), (29, .isub, 1), (30, .putfield 34, 3), (33, .aload_n 0, 1), (34, .getfield 9, 3), (37, .invokevirtual 77, 3), (40, .iconst 1, 1), (41, .ireturn, 1)]
theorem D_X5_takeClosing : dOk cX5_takeClosing L_X5_takeClosing = true := by decide +kernel
theorem w_X5_takeClosing_0 {X : Cx} {d : Nat} {S : Mem} {Q : Res → Mem → Prop} (r0 : Nat) (x1 : Int32) (h : (isK S r0 5) ∧ (isK S (gR S r0 0) 9) ∧ (((gI S (gR S r0 0) 7) = x1 → ∀ S4 : Mem, S4 = uI S r0 4 ((gI S r0 4) - 1) → ∃ e5 : Nat, e5 + 1 ≤ d ∧ C X e5 MX9_next [vR (gR S r0 0)] S4 (RV fun  S8 => Q (.inl (some (vI 1))) S8)) ∧ (¬ (gI S (gR S r0 0) 7) = x1 → ∃ e9 : Nat, e9 + 1 ≤ d ∧ C X e9 MX5_refuse [vR r0, vI (gI S (gR S r0 0) 8)] S (RI fun y12 S13 => (y12 = 0 ∨ y12 = 1) ∧ Q (.inl (some (vI y12))) S13)))) : V X d MX5_takeClosing 0 [(0, vR r0), (1, vI x1)] [] S Q := by
  refine V_aload_n (pc2 := 1) (dk D_X5_takeClosing 0 rfl) rfl (V_lg 0 rfl) rfl ?_
  obtain ⟨h1, h⟩ := h
  refine V_getR kc5 (pc2 := 4) 0 (dk D_X5_takeClosing 1 rfl) fl_5_9 (by decide) (fun _ => rfl) rfl h1 ?_
  obtain ⟨h2, h⟩ := h
  refine V_getI kc9 (pc2 := 7) 7 (dk D_X5_takeClosing 2 rfl) fl_5_41 (by decide) (fun _ => rfl) rfl h2 ?_
  refine V_iload_n (pc2 := 8) (dk D_X5_takeClosing 3 rfl) rfl (V_lg 1 rfl) rfl ?_
  refine V_cmpeq (tgt := 23) (pc2 := 11) (dk D_X5_takeClosing 4 rfl) (by decide) rfl (fun q3 => ?_) (fun q3 => ?_)
  · have h := h.1 q3
    refine V_aload_n (pc2 := 24) (dk D_X5_takeClosing 11 rfl) rfl (V_lg 0 rfl) rfl ?_
    refine V_dup (pc2 := 25) (dk D_X5_takeClosing 12 rfl) rfl rfl ?_
    refine V_getI kc5 (pc2 := 28) 4 (dk D_X5_takeClosing 13 rfl) fl_5_34 (by decide) (fun _ => rfl) rfl h1 ?_
    refine V_iconst (x := 1) (pc2 := 29) (dk D_X5_takeClosing 14 rfl) (by decide) rfl ?_
    refine V_isub (pc2 := 30) (dk D_X5_takeClosing 15 rfl) rfl ?_
    refine V_putI kc5 (pc2 := 33) 4 (dk D_X5_takeClosing 16 rfl) fl_5_34 (by decide) (Or.inl rfl) rfl rfl h1 ?_
    have h := h _ rfl
    refine V_aload_n (pc2 := 34) (dk D_X5_takeClosing 17 rfl) rfl (V_lg 0 rfl) rfl ?_
    refine V_getR kc5 (pc2 := 37) 0 (dk D_X5_takeClosing 18 rfl) fl_5_9 (by decide) (fun _ => rfl) rfl h1 ?_
    obtain ⟨e5, he6, hc7⟩ := h
    refine V_callV (as := []) (st := []) (M' := MX9_next) (ci := 9) (pc2 := 40) (dk D_X5_takeClosing 19 rfl) ml_5_77 mv_X9_next rfl rfl (by decide) rfl (Nat.le_of_ble_eq_true rfl) rfl he6 h2 hc7 (RV.k fun  S8 h => ?_)
    refine V_iconst (x := 1) (pc2 := 41) (dk D_X5_takeClosing 20 rfl) (by decide) rfl ?_
    exact V_zreturn (dk D_X5_takeClosing 21 rfl) rfl (Or.inr rfl) h
  · have h := h.2 q3
    refine V_aload_n (pc2 := 12) (dk D_X5_takeClosing 5 rfl) rfl (V_lg 0 rfl) rfl ?_
    refine V_aload_n (pc2 := 13) (dk D_X5_takeClosing 6 rfl) rfl (V_lg 0 rfl) rfl ?_
    refine V_getR kc5 (pc2 := 16) 0 (dk D_X5_takeClosing 7 rfl) fl_5_9 (by decide) (fun _ => rfl) rfl h1 ?_
    refine V_getI kc9 (pc2 := 19) 8 (dk D_X5_takeClosing 8 rfl) fl_5_70 (by decide) (fun _ => rfl) rfl h2 ?_
    obtain ⟨e9, he10, hc11⟩ := h
    refine V_callV (as := [_]) (st := []) (M' := MX5_refuse) (ci := 5) (pc2 := 22) (dk D_X5_takeClosing 9 rfl) ml_5_73 mv_X5_refuse rfl rfl (by decide) rfl (Nat.le_of_ble_eq_true rfl) rfl he10 h1 hc11 (RI.k fun y12 S13 h => ?_)
    obtain ⟨h14, h⟩ := h
    exact V_zreturn (dk D_X5_takeClosing 10 rfl) rfl h14 h
def L_X5_isName : List (Nat × Instr × Nat) := [(0, .aload_n 0, 1), (1, .getfield 9, 3), (4, .getfield 41, 3), (7, .iconst 5, 1), (8, .if_icmp .ne 18, 3), (11, .aload_n 0, 1), (12, .aload_n 0, 1), (13, .getfield 9, 3), (16, .getfield 70, 3), (19, .bipush 8, 2), (21, .iadd, 1), (22, .invokevirtual 73, 3), (25, .ireturn, 1), (26, .aload_n 0, 1), (27, .getfield 9, 3), (30, .getfield 41, 3), (33, .iconst 2, 1), (34, .if_icmp .eq 17, 3), (37, .aload_n 0, 1), (38, .aload_n 0, 1), (39, .getfield 9, 3), (42, .getfield 70, 3), (45, .invokevirtual 73, 3), (48, .ifCond .eq 7, 3), (51, .iconst 1, 1), (52, .goto 4, 3), (55, .iconst 0, 1), (56, .ireturn, 1)]
theorem D_X5_isName : dOk cX5_isName L_X5_isName = true := by decide +kernel
theorem w_X5_isName_0 {X : Cx} {d : Nat} {S : Mem} {Q : Res → Mem → Prop} (r0 : Nat) (h : (isK S r0 5) ∧ (isK S (gR S r0 0) 9) ∧ ((¬ (gI S (gR S r0 0) 7) = 5 → (((gI S (gR S r0 0) 7) = 2 → V X d MX5_isName 51 [(0, vR r0)] [] S Q) ∧ (¬ (gI S (gR S r0 0) 7) = 2 → ∃ e5 : Nat, e5 + 1 ≤ d ∧ C X e5 MX5_refuse [vR r0, vI (gI S (gR S r0 0) 8)] S (RI fun y8 S9 => ((y8 = 0 → V X d MX5_isName 56 [(0, vR r0)] [vI 0] S9 Q) ∧ (¬ y8 = 0 → V X d MX5_isName 51 [(0, vR r0)] [] S9 Q)))))) ∧ ((gI S (gR S r0 0) 7) = 5 → ∃ e11 : Nat, e11 + 1 ≤ d ∧ C X e11 MX5_refuse [vR r0, vI ((gI S (gR S r0 0) 8) + 8)] S (RI fun y14 S15 => (y14 = 0 ∨ y14 = 1) ∧ Q (.inl (some (vI y14))) S15)))) : V X d MX5_isName 0 [(0, vR r0)] [] S Q := by
  refine V_aload_n (pc2 := 1) (dk D_X5_isName 0 rfl) rfl (V_lg 0 rfl) rfl ?_
  obtain ⟨h1, h⟩ := h
  refine V_getR kc5 (pc2 := 4) 0 (dk D_X5_isName 1 rfl) fl_5_9 (by decide) (fun _ => rfl) rfl h1 ?_
  obtain ⟨h2, h⟩ := h
  refine V_getI kc9 (pc2 := 7) 7 (dk D_X5_isName 2 rfl) fl_5_41 (by decide) (fun _ => rfl) rfl h2 ?_
  refine V_iconst (x := 5) (pc2 := 8) (dk D_X5_isName 3 rfl) (by decide) rfl ?_
  refine V_cmpne (tgt := 26) (pc2 := 11) (dk D_X5_isName 4 rfl) (by decide) rfl (fun q3 => ?_) (fun q3 => ?_)
  · have h := h.1 q3
    refine V_aload_n (pc2 := 27) (dk D_X5_isName 13 rfl) rfl (V_lg 0 rfl) rfl ?_
    refine V_getR kc5 (pc2 := 30) 0 (dk D_X5_isName 14 rfl) fl_5_9 (by decide) (fun _ => rfl) rfl h1 ?_
    refine V_getI kc9 (pc2 := 33) 7 (dk D_X5_isName 15 rfl) fl_5_41 (by decide) (fun _ => rfl) rfl h2 ?_
    refine V_iconst (x := 2) (pc2 := 34) (dk D_X5_isName 16 rfl) (by decide) rfl ?_
    refine V_cmpeq (tgt := 51) (pc2 := 37) (dk D_X5_isName 17 rfl) (by decide) rfl (fun q4 => ?_) (fun q4 => ?_)
    · have h := h.1 q4
      exact h
    · have h := h.2 q4
      refine V_aload_n (pc2 := 38) (dk D_X5_isName 18 rfl) rfl (V_lg 0 rfl) rfl ?_
      refine V_aload_n (pc2 := 39) (dk D_X5_isName 19 rfl) rfl (V_lg 0 rfl) rfl ?_
      refine V_getR kc5 (pc2 := 42) 0 (dk D_X5_isName 20 rfl) fl_5_9 (by decide) (fun _ => rfl) rfl h1 ?_
      refine V_getI kc9 (pc2 := 45) 8 (dk D_X5_isName 21 rfl) fl_5_70 (by decide) (fun _ => rfl) rfl h2 ?_
      obtain ⟨e5, he6, hc7⟩ := h
      refine V_callV (as := [_]) (st := []) (M' := MX5_refuse) (ci := 5) (pc2 := 48) (dk D_X5_isName 22 rfl) ml_5_73 mv_X5_refuse rfl rfl (by decide) rfl (Nat.le_of_ble_eq_true rfl) rfl he6 h1 hc7 (RI.k fun y8 S9 h => ?_)
      refine V_ifeq (tgt := 55) (pc2 := 51) (dk D_X5_isName 23 rfl) (by decide) rfl (fun q10 => ?_) (fun q10 => ?_)
      · have h := h.1 q10
        refine V_iconst (x := 0) (pc2 := 56) (dk D_X5_isName 26 rfl) (by decide) rfl ?_
        exact h
      · have h := h.2 q10
        exact h
  · have h := h.2 q3
    refine V_aload_n (pc2 := 12) (dk D_X5_isName 5 rfl) rfl (V_lg 0 rfl) rfl ?_
    refine V_aload_n (pc2 := 13) (dk D_X5_isName 6 rfl) rfl (V_lg 0 rfl) rfl ?_
    refine V_getR kc5 (pc2 := 16) 0 (dk D_X5_isName 7 rfl) fl_5_9 (by decide) (fun _ => rfl) rfl h1 ?_
    refine V_getI kc9 (pc2 := 19) 8 (dk D_X5_isName 8 rfl) fl_5_70 (by decide) (fun _ => rfl) rfl h2 ?_
    refine V_bipush (x := 8) (pc2 := 21) (dk D_X5_isName 9 rfl) (by decide) rfl ?_
    refine V_iadd (pc2 := 22) (dk D_X5_isName 10 rfl) rfl ?_
    obtain ⟨e11, he12, hc13⟩ := h
    refine V_callV (as := [_]) (st := []) (M' := MX5_refuse) (ci := 5) (pc2 := 25) (dk D_X5_isName 11 rfl) ml_5_73 mv_X5_refuse rfl rfl (by decide) rfl (Nat.le_of_ble_eq_true rfl) rfl he12 h1 hc13 (RI.k fun y14 S15 h => ?_)
    obtain ⟨h16, h⟩ := h
    exact V_zreturn (dk D_X5_isName 12 rfl) rfl h16 h
theorem w_X5_isName_51 {X : Cx} {d : Nat} {S : Mem} {Q : Res → Mem → Prop} (r0 : Nat) (h : V X d MX5_isName 56 [(0, vR r0)] [vI 1] S Q) : V X d MX5_isName 51 [(0, vR r0)] [] S Q := by
  refine V_iconst (x := 1) (pc2 := 52) (dk D_X5_isName 24 rfl) (by decide) rfl ?_
  refine V_goto (tgt := 56) (dk D_X5_isName 25 rfl) (by decide) ?_
  exact h
theorem w_X5_isName_56 {X : Cx} {d : Nat} {S : Mem} {Q : Res → Mem → Prop} (r0 : Nat) (t0 : Int32) (h : (t0 = 0 ∨ t0 = 1) ∧ Q (.inl (some (vI t0))) S) : V X d MX5_isName 56 [(0, vR r0)] [vI t0] S Q := by
  obtain ⟨h1, h⟩ := h
  exact V_zreturn (dk D_X5_isName 27 rfl) rfl h1 h
def L_X5_isNumber : List (Nat × Instr × Nat) := [(0, .aload_n 0, 1), (1, .getfield 9, 3), (4, .getfield 41, 3), (7, .bipush 6, 2), (9, .if_icmp .ne 18, 3), (12, .aload_n 0, 1), (13, .aload_n 0, 1), (14, .getfield 9, 3), (17, .getfield 70, 3), (20, .bipush 9, 2), (22, .iadd, 1), (23, .invokevirtual 73, 3), (26, .ireturn, 1), (27, .aload_n 0, 1), (28, .getfield 9, 3), (31, .getfield 41, 3), (34, .iconst 3, 1), (35, .if_icmp .eq 17, 3), (38, .aload_n 0, 1), (39, .aload_n 0, 1), (40, .getfield 9, 3), (43, .getfield 70, 3), (46, .invokevirtual 73, 3), (49, .ifCond .eq 7, 3), (52, .iconst 1, 1), (53, .goto 4, 3), (56, .iconst 0, 1), (57, .ireturn, 1)]
theorem D_X5_isNumber : dOk cX5_isNumber L_X5_isNumber = true := by decide +kernel
theorem w_X5_isNumber_0 {X : Cx} {d : Nat} {S : Mem} {Q : Res → Mem → Prop} (r0 : Nat) (h : (isK S r0 5) ∧ (isK S (gR S r0 0) 9) ∧ ((¬ (gI S (gR S r0 0) 7) = 6 → (((gI S (gR S r0 0) 7) = 3 → V X d MX5_isNumber 52 [(0, vR r0)] [] S Q) ∧ (¬ (gI S (gR S r0 0) 7) = 3 → ∃ e5 : Nat, e5 + 1 ≤ d ∧ C X e5 MX5_refuse [vR r0, vI (gI S (gR S r0 0) 8)] S (RI fun y8 S9 => ((y8 = 0 → V X d MX5_isNumber 57 [(0, vR r0)] [vI 0] S9 Q) ∧ (¬ y8 = 0 → V X d MX5_isNumber 52 [(0, vR r0)] [] S9 Q)))))) ∧ ((gI S (gR S r0 0) 7) = 6 → ∃ e11 : Nat, e11 + 1 ≤ d ∧ C X e11 MX5_refuse [vR r0, vI ((gI S (gR S r0 0) 8) + 9)] S (RI fun y14 S15 => (y14 = 0 ∨ y14 = 1) ∧ Q (.inl (some (vI y14))) S15)))) : V X d MX5_isNumber 0 [(0, vR r0)] [] S Q := by
  refine V_aload_n (pc2 := 1) (dk D_X5_isNumber 0 rfl) rfl (V_lg 0 rfl) rfl ?_
  obtain ⟨h1, h⟩ := h
  refine V_getR kc5 (pc2 := 4) 0 (dk D_X5_isNumber 1 rfl) fl_5_9 (by decide) (fun _ => rfl) rfl h1 ?_
  obtain ⟨h2, h⟩ := h
  refine V_getI kc9 (pc2 := 7) 7 (dk D_X5_isNumber 2 rfl) fl_5_41 (by decide) (fun _ => rfl) rfl h2 ?_
  refine V_bipush (x := 6) (pc2 := 9) (dk D_X5_isNumber 3 rfl) (by decide) rfl ?_
  refine V_cmpne (tgt := 27) (pc2 := 12) (dk D_X5_isNumber 4 rfl) (by decide) rfl (fun q3 => ?_) (fun q3 => ?_)
  · have h := h.1 q3
    refine V_aload_n (pc2 := 28) (dk D_X5_isNumber 13 rfl) rfl (V_lg 0 rfl) rfl ?_
    refine V_getR kc5 (pc2 := 31) 0 (dk D_X5_isNumber 14 rfl) fl_5_9 (by decide) (fun _ => rfl) rfl h1 ?_
    refine V_getI kc9 (pc2 := 34) 7 (dk D_X5_isNumber 15 rfl) fl_5_41 (by decide) (fun _ => rfl) rfl h2 ?_
    refine V_iconst (x := 3) (pc2 := 35) (dk D_X5_isNumber 16 rfl) (by decide) rfl ?_
    refine V_cmpeq (tgt := 52) (pc2 := 38) (dk D_X5_isNumber 17 rfl) (by decide) rfl (fun q4 => ?_) (fun q4 => ?_)
    · have h := h.1 q4
      exact h
    · have h := h.2 q4
      refine V_aload_n (pc2 := 39) (dk D_X5_isNumber 18 rfl) rfl (V_lg 0 rfl) rfl ?_
      refine V_aload_n (pc2 := 40) (dk D_X5_isNumber 19 rfl) rfl (V_lg 0 rfl) rfl ?_
      refine V_getR kc5 (pc2 := 43) 0 (dk D_X5_isNumber 20 rfl) fl_5_9 (by decide) (fun _ => rfl) rfl h1 ?_
      refine V_getI kc9 (pc2 := 46) 8 (dk D_X5_isNumber 21 rfl) fl_5_70 (by decide) (fun _ => rfl) rfl h2 ?_
      obtain ⟨e5, he6, hc7⟩ := h
      refine V_callV (as := [_]) (st := []) (M' := MX5_refuse) (ci := 5) (pc2 := 49) (dk D_X5_isNumber 22 rfl) ml_5_73 mv_X5_refuse rfl rfl (by decide) rfl (Nat.le_of_ble_eq_true rfl) rfl he6 h1 hc7 (RI.k fun y8 S9 h => ?_)
      refine V_ifeq (tgt := 56) (pc2 := 52) (dk D_X5_isNumber 23 rfl) (by decide) rfl (fun q10 => ?_) (fun q10 => ?_)
      · have h := h.1 q10
        refine V_iconst (x := 0) (pc2 := 57) (dk D_X5_isNumber 26 rfl) (by decide) rfl ?_
        exact h
      · have h := h.2 q10
        exact h
  · have h := h.2 q3
    refine V_aload_n (pc2 := 13) (dk D_X5_isNumber 5 rfl) rfl (V_lg 0 rfl) rfl ?_
    refine V_aload_n (pc2 := 14) (dk D_X5_isNumber 6 rfl) rfl (V_lg 0 rfl) rfl ?_
    refine V_getR kc5 (pc2 := 17) 0 (dk D_X5_isNumber 7 rfl) fl_5_9 (by decide) (fun _ => rfl) rfl h1 ?_
    refine V_getI kc9 (pc2 := 20) 8 (dk D_X5_isNumber 8 rfl) fl_5_70 (by decide) (fun _ => rfl) rfl h2 ?_
    refine V_bipush (x := 9) (pc2 := 22) (dk D_X5_isNumber 9 rfl) (by decide) rfl ?_
    refine V_iadd (pc2 := 23) (dk D_X5_isNumber 10 rfl) rfl ?_
    obtain ⟨e11, he12, hc13⟩ := h
    refine V_callV (as := [_]) (st := []) (M' := MX5_refuse) (ci := 5) (pc2 := 26) (dk D_X5_isNumber 11 rfl) ml_5_73 mv_X5_refuse rfl rfl (by decide) rfl (Nat.le_of_ble_eq_true rfl) rfl he12 h1 hc13 (RI.k fun y14 S15 h => ?_)
    obtain ⟨h16, h⟩ := h
    exact V_zreturn (dk D_X5_isNumber 12 rfl) rfl h16 h
theorem w_X5_isNumber_52 {X : Cx} {d : Nat} {S : Mem} {Q : Res → Mem → Prop} (r0 : Nat) (h : V X d MX5_isNumber 57 [(0, vR r0)] [vI 1] S Q) : V X d MX5_isNumber 52 [(0, vR r0)] [] S Q := by
  refine V_iconst (x := 1) (pc2 := 53) (dk D_X5_isNumber 24 rfl) (by decide) rfl ?_
  refine V_goto (tgt := 57) (dk D_X5_isNumber 25 rfl) (by decide) ?_
  exact h
theorem w_X5_isNumber_57 {X : Cx} {d : Nat} {S : Mem} {Q : Res → Mem → Prop} (r0 : Nat) (t0 : Int32) (h : (t0 = 0 ∨ t0 = 1) ∧ Q (.inl (some (vI t0))) S) : V X d MX5_isNumber 57 [(0, vR r0)] [vI t0] S Q := by
  obtain ⟨h1, h⟩ := h
  exact V_zreturn (dk D_X5_isNumber 27 rfl) rfl h1 h
def L_X5_numberHere : List (Nat × Instr × Nat) := [(0, .aload_n 0, 1), (1, .getfield 9, 3), (4, .aload_n 0, 1), (5, .getfield 9, 3), (8, .invokevirtual 80, 3), (11, .invokevirtual 83, 3), (14, .l2i, 1), (15, .ireturn, 1)]
theorem D_X5_numberHere : dOk cX5_numberHere L_X5_numberHere = true := by decide +kernel
theorem w_X5_numberHere_0 {X : Cx} {d : Nat} {S : Mem} {Q : Res → Mem → Prop} (r0 : Nat) (h : (isK S r0 5) ∧ (isK S (gR S r0 0) 9) ∧ ∃ e2 : Nat, e2 + 1 ≤ d ∧ C X e2 MX9_index [vR (gR S r0 0)] S (RI fun y5 S6 => (isK S6 (gR S r0 0) 9) ∧ ∃ e8 : Nat, e8 + 1 ≤ d ∧ C X e8 MX9_valueOf [vR (gR S r0 0), vI y5] S6 (RJ fun w11 S12 => Q (.inl (some (vI ((w11 : Int64).toInt32)))) S12))) : V X d MX5_numberHere 0 [(0, vR r0)] [] S Q := by
  refine V_aload_n (pc2 := 1) (dk D_X5_numberHere 0 rfl) rfl (V_lg 0 rfl) rfl ?_
  obtain ⟨h1, h⟩ := h
  refine V_getR kc5 (pc2 := 4) 0 (dk D_X5_numberHere 1 rfl) fl_5_9 (by decide) (fun _ => rfl) rfl h1 ?_
  refine V_aload_n (pc2 := 5) (dk D_X5_numberHere 2 rfl) rfl (V_lg 0 rfl) rfl ?_
  refine V_getR kc5 (pc2 := 8) 0 (dk D_X5_numberHere 3 rfl) fl_5_9 (by decide) (fun _ => rfl) rfl h1 ?_
  obtain ⟨h7, h⟩ := h
  obtain ⟨e2, he3, hc4⟩ := h
  refine V_callV (as := []) (st := [_]) (M' := MX9_index) (ci := 9) (pc2 := 11) (dk D_X5_numberHere 4 rfl) ml_5_80 mv_X9_index rfl rfl (by decide) rfl (Nat.le_of_ble_eq_true rfl) rfl he3 h7 hc4 (RI.k fun y5 S6 h => ?_)
  obtain ⟨h13, h⟩ := h
  obtain ⟨e8, he9, hc10⟩ := h
  refine V_callV (as := [_]) (st := []) (M' := MX9_valueOf) (ci := 9) (pc2 := 14) (dk D_X5_numberHere 5 rfl) ml_5_83 mv_X9_valueOf rfl rfl (by decide) rfl (Nat.le_of_ble_eq_true rfl) rfl he9 h13 hc10 (RJ.k fun w11 S12 h => ?_)
  refine V_l2i (pc2 := 15) (dk D_X5_numberHere 6 rfl) rfl ?_
  exact V_ireturn (dk D_X5_numberHere 7 rfl) rfl h
def L_X5_readHead : List (Nat × Instr × Nat) := [(0, .aload_n 0, 1), (1, .getfield 9, 3), (4, .getfield 41, 3), (7, .sipush 200, 3), (10, .if_icmp .ne 7, 3), (13, .iconst 1, 1), (14, .goto 4, 3), (17, .iconst 0, 1), (18, .istore_n 1, 1), (19, .aload_n 0, 1), (20, .iload_n 1, 1), (21, .ifCond .ne 16, 3), (24, .aload_n 0, 1), (25, .getfield 9, 3), (28, .getfield 41, 3), (31, .sipush 201, 3), (34, .if_icmp .ne 13, 3), (37, .aload_n 0, 1), (38, .getfield 15, 3), (41, .invokevirtual 87, 3), (44, .goto 4, 3), (47, .aconst_null, 1), (48, .putfield 51, 3), (51, .aload_n 0, 1), (52, .getfield 51, 3), (55, .ifnonnull 15, 3), (58, .aload_n 0, 1), (59, .aload_n 0, 1), (60, .getfield 9, 3), (63, .getfield 70, 3), (66, .invokevirtual 73, 3), (69, .ireturn, 1), (70, .aload_n 0, 1), (71, .getfield 9, 3), (74, .invokevirtual 77, 3), (77, .aload_n 0, 1), (78, .invokevirtual 90, 3), (81, .ifCond .ne 5, 3), (84, .iconst 0, 1), (85, .ireturn, 1), (86, .aload_n 0, 1), (87, .getfield 9, 3), (90, .aload_n 0, 1), (91, .getfield 9, 3), (94, .invokevirtual 80, 3), (97, .invokevirtual 83, 3), (100, .lstore_n 2, 1), (101, .aload_n 0, 1), (102, .getfield 15, 3), (105, .lload_n 2, 1), (106, .invokevirtual 93, 3), (109, .bipush (-9), 2), (111, .if_icmp .eq 17, 3), (114, .aload_n 0, 1), (115, .getfield 15, 3), (118, .aload_n 0, 1), (119, .getfield 9, 3), (122, .getfield 70, 3), (125, .invokevirtual 97, 3), (128, .aload_n 0, 1), (129, .getfield 51, 3), (132, .iload_n 1, 1), (133, .lload_n 2, 1), (134, .aload_n 0, 1), (135, .getfield 9, 3), (138, .getfield 70, 3), (141, .aload_n 0, 1), (142, .getfield 25, 3), (145, .invokevirtual 61, 3), (148, .invokevirtual 101, 3), (151, .aload_n 0, 1), (152, .getfield 9, 3), (155, .invokevirtual 77, 3), (158, .aload_n 0, 1), (159, .bipush 40, 2), (161, .invokevirtual 105, 3), (164, .ifCond .eq 24, 3), (167, .aload_n 0, 1), (168, .iload_n 1, 1), (169, .invokevirtual 108, 3), (172, .ifCond .eq 16, 3), (175, .aload_n 0, 1), (176, .bipush 41, 2), (178, .invokevirtual 112, 3), (181, .ifCond .eq 7, 3), (184, .iconst 1, 1), (185, .goto 4, 3), (188, .iconst 0, 1), (189, .ireturn, 1)]
theorem D_X5_readHead : dOk cX5_readHead L_X5_readHead = true := by decide +kernel
theorem w_X5_readHead_0 {X : Cx} {d : Nat} {S : Mem} {Q : Res → Mem → Prop} (r0 : Nat) (h : (isK S r0 5) ∧ (isK S (gR S r0 0) 9) ∧ ((¬ (gI S (gR S r0 0) 7) = 200 → V X d MX5_readHead 18 [(0, vR r0)] [vI 0] S Q) ∧ ((gI S (gR S r0 0) 7) = 200 → V X d MX5_readHead 18 [(0, vR r0)] [vI 1] S Q))) : V X d MX5_readHead 0 [(0, vR r0)] [] S Q := by
  refine V_aload_n (pc2 := 1) (dk D_X5_readHead 0 rfl) rfl (V_lg 0 rfl) rfl ?_
  obtain ⟨h1, h⟩ := h
  refine V_getR kc5 (pc2 := 4) 0 (dk D_X5_readHead 1 rfl) fl_5_9 (by decide) (fun _ => rfl) rfl h1 ?_
  obtain ⟨h2, h⟩ := h
  refine V_getI kc9 (pc2 := 7) 7 (dk D_X5_readHead 2 rfl) fl_5_41 (by decide) (fun _ => rfl) rfl h2 ?_
  refine V_sipush (x := 200) (pc2 := 10) (dk D_X5_readHead 3 rfl) (by decide) rfl ?_
  refine V_cmpne (tgt := 17) (pc2 := 13) (dk D_X5_readHead 4 rfl) (by decide) rfl (fun q3 => ?_) (fun q3 => ?_)
  · have h := h.1 q3
    refine V_iconst (x := 0) (pc2 := 18) (dk D_X5_readHead 7 rfl) (by decide) rfl ?_
    exact h
  · have h := h.2 q3
    refine V_iconst (x := 1) (pc2 := 14) (dk D_X5_readHead 5 rfl) (by decide) rfl ?_
    refine V_goto (tgt := 18) (dk D_X5_readHead 6 rfl) (by decide) ?_
    exact h
theorem w_X5_readHead_18 {X : Cx} {d : Nat} {S : Mem} {Q : Res → Mem → Prop} (r0 : Nat) (t0 : Int32) (h : ((¬ t0 = 0 → V X d MX5_readHead 37 [(0, vR r0), (1, vI t0)] [vR r0] S Q) ∧ (t0 = 0 → (isK S r0 5) ∧ (isK S (gR S r0 0) 9) ∧ ((¬ (gI S (gR S r0 0) 7) = 201 → V X d MX5_readHead 48 [(0, vR r0), (1, vI t0)] [vR 0, vR r0] S Q) ∧ ((gI S (gR S r0 0) 7) = 201 → V X d MX5_readHead 37 [(0, vR r0), (1, vI t0)] [vR r0] S Q))))) : V X d MX5_readHead 18 [(0, vR r0)] [vI t0] S Q := by
  refine V_istore_n (pc2 := 19) (lv2 := [(0, _), (1, _)]) (dk D_X5_readHead 8 rfl) rfl (by decide) rfl rfl ?_
  refine V_aload_n (pc2 := 20) (dk D_X5_readHead 9 rfl) rfl (V_lg 0 rfl) rfl ?_
  refine V_iload_n (pc2 := 21) (dk D_X5_readHead 10 rfl) rfl (V_lg 1 rfl) rfl ?_
  refine V_ifne (tgt := 37) (pc2 := 24) (dk D_X5_readHead 11 rfl) (by decide) rfl (fun q1 => ?_) (fun q1 => ?_)
  · have h := h.1 q1
    exact h
  · have h := h.2 q1
    refine V_aload_n (pc2 := 25) (dk D_X5_readHead 12 rfl) rfl (V_lg 0 rfl) rfl ?_
    obtain ⟨h2, h⟩ := h
    refine V_getR kc5 (pc2 := 28) 0 (dk D_X5_readHead 13 rfl) fl_5_9 (by decide) (fun _ => rfl) rfl h2 ?_
    obtain ⟨h3, h⟩ := h
    refine V_getI kc9 (pc2 := 31) 7 (dk D_X5_readHead 14 rfl) fl_5_41 (by decide) (fun _ => rfl) rfl h3 ?_
    refine V_sipush (x := 201) (pc2 := 34) (dk D_X5_readHead 15 rfl) (by decide) rfl ?_
    refine V_cmpne (tgt := 47) (pc2 := 37) (dk D_X5_readHead 16 rfl) (by decide) rfl (fun q4 => ?_) (fun q4 => ?_)
    · have h := h.1 q4
      refine V_null (pc2 := 48) (dk D_X5_readHead 21 rfl) rfl ?_
      exact h
    · have h := h.2 q4
      exact h
theorem w_X5_readHead_37 {X : Cx} {d : Nat} {S : Mem} {Q : Res → Mem → Prop} (r0 : Nat) (x1 : Int32) (t0 : Nat) (h : (isK S r0 5) ∧ (isK S (gR S r0 1) 7) ∧ ∃ e2 : Nat, e2 + 1 ≤ d ∧ C X e2 MX7_add [vR (gR S r0 1)] S (RR fun p5 S6 => V X d MX5_readHead 48 [(0, vR r0), (1, vI x1)] [vR p5, vR t0] S6 Q)) : V X d MX5_readHead 37 [(0, vR r0), (1, vI x1)] [vR t0] S Q := by
  refine V_aload_n (pc2 := 38) (dk D_X5_readHead 17 rfl) rfl (V_lg 0 rfl) rfl ?_
  obtain ⟨h1, h⟩ := h
  refine V_getR kc5 (pc2 := 41) 1 (dk D_X5_readHead 18 rfl) fl_5_15 (by decide) (fun _ => rfl) rfl h1 ?_
  obtain ⟨h7, h⟩ := h
  obtain ⟨e2, he3, hc4⟩ := h
  refine V_callV (as := []) (st := [_]) (M' := MX7_add) (ci := 7) (pc2 := 44) (dk D_X5_readHead 19 rfl) ml_5_87 mv_X7_add rfl rfl (by decide) rfl (Nat.le_of_ble_eq_true rfl) rfl he3 h7 hc4 (RR.k fun p5 S6 h => ?_)
  refine V_goto (tgt := 48) (dk D_X5_readHead 20 rfl) (by decide) ?_
  exact h
theorem w_X5_readHead_48 {X : Cx} {d : Nat} {S : Mem} {Q : Res → Mem → Prop} (r0 : Nat) (x1 : Int32) (t0 : Nat) (t1 : Nat) (h : (isK S t0 5) ∧ ∀ S2 : Mem, S2 = uR S t0 3 t1 → (isK S r0 5) ∧ ((¬ (gR S2 r0 3) = 0 → (isK S (gR S2 r0 0) 9) ∧ ∃ e5 : Nat, e5 + 1 ≤ d ∧ C X e5 MX9_next [vR (gR S2 r0 0)] S2 (RV fun  S8 => (isK S8 r0 5) ∧ ∃ e10 : Nat, e10 + 1 ≤ d ∧ C X e10 MX5_isName [vR r0] S8 (RI fun y13 S14 => ((¬ y13 = 0 → (isK S14 r0 5) ∧ (isK S14 (gR S14 r0 0) 9) ∧ ∃ e18 : Nat, e18 + 1 ≤ d ∧ C X e18 MX9_index [vR (gR S14 r0 0)] S14 (RI fun y21 S22 => (isK S22 (gR S14 r0 0) 9) ∧ ∃ e24 : Nat, e24 + 1 ≤ d ∧ C X e24 MX9_valueOf [vR (gR S14 r0 0), vI y21] S22 (RJ fun w27 S28 => (isK S28 r0 5) ∧ (isK S28 (gR S28 r0 1) 7) ∧ ∃ e31 : Nat, e31 + 1 ≤ d ∧ C X e31 MX7_find [vR (gR S28 r0 1), vL w27] S28 (RI fun y34 S35 => ((y34 = (-9) → V X d MX5_readHead 128 [(0, vR r0), (1, vI x1), (2, vL w27)] [] S35 Q) ∧ (¬ y34 = (-9) → (isK S35 r0 5) ∧ (isK S35 (gR S35 r0 0) 9) ∧ (isK S35 (gR S35 r0 1) 7) ∧ ∃ e40 : Nat, e40 + 1 ≤ d ∧ C X e40 MX7_noteWrongName [vR (gR S35 r0 1), vI (gI S35 (gR S35 r0 0) 8)] S35 (RV fun  S43 => V X d MX5_readHead 128 [(0, vR r0), (1, vI x1), (2, vL w27)] [] S43 Q))))))) ∧ (y13 = 0 → Q (.inl (some (vI 0))) S14))))) ∧ ((gR S2 r0 3) = 0 → (isK S (gR S2 r0 0) 9) ∧ ∃ e46 : Nat, e46 + 1 ≤ d ∧ C X e46 MX5_refuse [vR r0, vI (gI S (gR S2 r0 0) 8)] S2 (RI fun y49 S50 => (y49 = 0 ∨ y49 = 1) ∧ Q (.inl (some (vI y49))) S50)))) : V X d MX5_readHead 48 [(0, vR r0), (1, vI x1)] [vR t1, vR t0] S Q := by
  obtain ⟨h1, h⟩ := h
  refine V_putR kc5 (pc2 := 51) 3 (dk D_X5_readHead 22 rfl) fl_5_51 (by decide) (Or.inl rfl) (Or.inl ⟨_, rfl⟩) rfl h1 ?_
  have h := h _ rfl
  refine V_aload_n (pc2 := 52) (dk D_X5_readHead 23 rfl) rfl (V_lg 0 rfl) rfl ?_
  obtain ⟨h3, h⟩ := h
  refine V_getR kc5 (pc2 := 55) 3 (dk D_X5_readHead 24 rfl) fl_5_51 (by decide) (fun _ => rfl) rfl h3 ?_
  refine V_ifnonnull (tgt := 70) (pc2 := 58) (dk D_X5_readHead 25 rfl) (by decide) rfl (fun q4 => ?_) (fun q4 => ?_)
  · have h := h.1 q4
    refine V_aload_n (pc2 := 71) (dk D_X5_readHead 32 rfl) rfl (V_lg 0 rfl) rfl ?_
    refine V_getR kc5 (pc2 := 74) 0 (dk D_X5_readHead 33 rfl) fl_5_9 (by decide) (fun _ => rfl) rfl h3 ?_
    obtain ⟨h9, h⟩ := h
    obtain ⟨e5, he6, hc7⟩ := h
    refine V_callV (as := []) (st := []) (M' := MX9_next) (ci := 9) (pc2 := 77) (dk D_X5_readHead 34 rfl) ml_5_77 mv_X9_next rfl rfl (by decide) rfl (Nat.le_of_ble_eq_true rfl) rfl he6 h9 hc7 (RV.k fun  S8 h => ?_)
    refine V_aload_n (pc2 := 78) (dk D_X5_readHead 35 rfl) rfl (V_lg 0 rfl) rfl ?_
    obtain ⟨h15, h⟩ := h
    obtain ⟨e10, he11, hc12⟩ := h
    refine V_callV (as := []) (st := []) (M' := MX5_isName) (ci := 5) (pc2 := 81) (dk D_X5_readHead 36 rfl) ml_5_90 mv_X5_isName rfl rfl (by decide) rfl (Nat.le_of_ble_eq_true rfl) rfl he11 h15 hc12 (RI.k fun y13 S14 h => ?_)
    refine V_ifne (tgt := 86) (pc2 := 84) (dk D_X5_readHead 37 rfl) (by decide) rfl (fun q16 => ?_) (fun q16 => ?_)
    · have h := h.1 q16
      refine V_aload_n (pc2 := 87) (dk D_X5_readHead 40 rfl) rfl (V_lg 0 rfl) rfl ?_
      obtain ⟨h17, h⟩ := h
      refine V_getR kc5 (pc2 := 90) 0 (dk D_X5_readHead 41 rfl) fl_5_9 (by decide) (fun _ => rfl) rfl h17 ?_
      refine V_aload_n (pc2 := 91) (dk D_X5_readHead 42 rfl) rfl (V_lg 0 rfl) rfl ?_
      refine V_getR kc5 (pc2 := 94) 0 (dk D_X5_readHead 43 rfl) fl_5_9 (by decide) (fun _ => rfl) rfl h17 ?_
      obtain ⟨h23, h⟩ := h
      obtain ⟨e18, he19, hc20⟩ := h
      refine V_callV (as := []) (st := [_]) (M' := MX9_index) (ci := 9) (pc2 := 97) (dk D_X5_readHead 44 rfl) ml_5_80 mv_X9_index rfl rfl (by decide) rfl (Nat.le_of_ble_eq_true rfl) rfl he19 h23 hc20 (RI.k fun y21 S22 h => ?_)
      obtain ⟨h29, h⟩ := h
      obtain ⟨e24, he25, hc26⟩ := h
      refine V_callV (as := [_]) (st := []) (M' := MX9_valueOf) (ci := 9) (pc2 := 100) (dk D_X5_readHead 45 rfl) ml_5_83 mv_X9_valueOf rfl rfl (by decide) rfl (Nat.le_of_ble_eq_true rfl) rfl he25 h29 hc26 (RJ.k fun w27 S28 h => ?_)
      refine V_lstore_n (pc2 := 101) (lv2 := [(0, _), (1, _), (2, _)]) (dk D_X5_readHead 46 rfl) rfl (by decide) rfl rfl ?_
      refine V_aload_n (pc2 := 102) (dk D_X5_readHead 47 rfl) rfl (V_lg 0 rfl) rfl ?_
      obtain ⟨h30, h⟩ := h
      refine V_getR kc5 (pc2 := 105) 1 (dk D_X5_readHead 48 rfl) fl_5_15 (by decide) (fun _ => rfl) rfl h30 ?_
      refine V_lload_n (pc2 := 106) (dk D_X5_readHead 49 rfl) rfl (V_lg 2 rfl) rfl ?_
      obtain ⟨h36, h⟩ := h
      obtain ⟨e31, he32, hc33⟩ := h
      refine V_callV (as := [_]) (st := []) (M' := MX7_find) (ci := 7) (pc2 := 109) (dk D_X5_readHead 50 rfl) ml_5_93 mv_X7_find rfl rfl (by decide) rfl (Nat.le_of_ble_eq_true rfl) rfl he32 h36 hc33 (RI.k fun y34 S35 h => ?_)
      refine V_bipush (x := (-9)) (pc2 := 111) (dk D_X5_readHead 51 rfl) (by decide) rfl ?_
      refine V_cmpeq (tgt := 128) (pc2 := 114) (dk D_X5_readHead 52 rfl) (by decide) rfl (fun q37 => ?_) (fun q37 => ?_)
      · have h := h.1 q37
        exact h
      · have h := h.2 q37
        refine V_aload_n (pc2 := 115) (dk D_X5_readHead 53 rfl) rfl (V_lg 0 rfl) rfl ?_
        obtain ⟨h38, h⟩ := h
        refine V_getR kc5 (pc2 := 118) 1 (dk D_X5_readHead 54 rfl) fl_5_15 (by decide) (fun _ => rfl) rfl h38 ?_
        refine V_aload_n (pc2 := 119) (dk D_X5_readHead 55 rfl) rfl (V_lg 0 rfl) rfl ?_
        refine V_getR kc5 (pc2 := 122) 0 (dk D_X5_readHead 56 rfl) fl_5_9 (by decide) (fun _ => rfl) rfl h38 ?_
        obtain ⟨h39, h⟩ := h
        refine V_getI kc9 (pc2 := 125) 8 (dk D_X5_readHead 57 rfl) fl_5_70 (by decide) (fun _ => rfl) rfl h39 ?_
        obtain ⟨h44, h⟩ := h
        obtain ⟨e40, he41, hc42⟩ := h
        refine V_callV (as := [_]) (st := []) (M' := MX7_noteWrongName) (ci := 7) (pc2 := 128) (dk D_X5_readHead 58 rfl) ml_5_97 mv_X7_noteWrongName rfl rfl (by decide) rfl (Nat.le_of_ble_eq_true rfl) rfl he41 h44 hc42 (RV.k fun  S43 h => ?_)
        exact h
    · have h := h.2 q16
      refine V_iconst (x := 0) (pc2 := 85) (dk D_X5_readHead 38 rfl) (by decide) rfl ?_
      exact V_zreturn (dk D_X5_readHead 39 rfl) rfl (Or.inl rfl) h
  · have h := h.2 q4
    refine V_aload_n (pc2 := 59) (dk D_X5_readHead 26 rfl) rfl (V_lg 0 rfl) rfl ?_
    refine V_aload_n (pc2 := 60) (dk D_X5_readHead 27 rfl) rfl (V_lg 0 rfl) rfl ?_
    refine V_getR kc5 (pc2 := 63) 0 (dk D_X5_readHead 28 rfl) fl_5_9 (by decide) (fun _ => rfl) rfl h3 ?_
    obtain ⟨h45, h⟩ := h
    refine V_getI kc9 (pc2 := 66) 8 (dk D_X5_readHead 29 rfl) fl_5_70 (by decide) (fun _ => rfl) rfl h45 ?_
    obtain ⟨e46, he47, hc48⟩ := h
    refine V_callV (as := [_]) (st := []) (M' := MX5_refuse) (ci := 5) (pc2 := 69) (dk D_X5_readHead 30 rfl) ml_5_73 mv_X5_refuse rfl rfl (by decide) rfl (Nat.le_of_ble_eq_true rfl) rfl he47 h3 hc48 (RI.k fun y49 S50 h => ?_)
    obtain ⟨h51, h⟩ := h
    exact V_zreturn (dk D_X5_readHead 31 rfl) rfl h51 h
theorem w_X5_readHead_128 {X : Cx} {d : Nat} {S : Mem} {Q : Res → Mem → Prop} (r0 : Nat) (x1 : Int32) (l2 : Int64) (h : (isK S r0 5) ∧ (isK S (gR S r0 0) 9) ∧ (isK S (gR S r0 2) 1) ∧ ∃ e3 : Nat, e3 + 1 ≤ d ∧ C X e3 MX1_size [vR (gR S r0 2)] S (RI fun y6 S7 => (isK S7 (gR S r0 3) 0) ∧ ∃ e9 : Nat, e9 + 1 ≤ d ∧ C X e9 MX0_begin [vR (gR S r0 3), vI x1, vL l2, vI (gI S (gR S r0 0) 8), vI y6] S7 (RV fun  S12 => (isK S12 r0 5) ∧ (isK S12 (gR S12 r0 0) 9) ∧ ∃ e15 : Nat, e15 + 1 ≤ d ∧ C X e15 MX9_next [vR (gR S12 r0 0)] S12 (RV fun  S18 => (isK S18 r0 5) ∧ ∃ e20 : Nat, e20 + 1 ≤ d ∧ C X e20 MX5_takeOpening [vR r0, vI 40] S18 (RI fun y23 S24 => ((y23 = 0 → V X d MX5_readHead 188 [(0, vR r0), (1, vI x1), (2, vL l2)] [] S24 Q) ∧ (¬ y23 = 0 → (isK S24 r0 5) ∧ ∃ e27 : Nat, e27 + 1 ≤ d ∧ C X e27 MX5_readArguments [vR r0, vI x1] S24 (RI fun y30 S31 => ((y30 = 0 → V X d MX5_readHead 188 [(0, vR r0), (1, vI x1), (2, vL l2)] [] S31 Q) ∧ (¬ y30 = 0 → (isK S31 r0 5) ∧ ∃ e34 : Nat, e34 + 1 ≤ d ∧ C X e34 MX5_takeClosing [vR r0, vI 41] S31 (RI fun y37 S38 => ((y37 = 0 → V X d MX5_readHead 188 [(0, vR r0), (1, vI x1), (2, vL l2)] [] S38 Q) ∧ (¬ y37 = 0 → V X d MX5_readHead 189 [(0, vR r0), (1, vI x1), (2, vL l2)] [vI 1] S38 Q))))))))))))) : V X d MX5_readHead 128 [(0, vR r0), (1, vI x1), (2, vL l2)] [] S Q := by
  refine V_aload_n (pc2 := 129) (dk D_X5_readHead 59 rfl) rfl (V_lg 0 rfl) rfl ?_
  obtain ⟨h1, h⟩ := h
  refine V_getR kc5 (pc2 := 132) 3 (dk D_X5_readHead 60 rfl) fl_5_51 (by decide) (fun _ => rfl) rfl h1 ?_
  refine V_iload_n (pc2 := 133) (dk D_X5_readHead 61 rfl) rfl (V_lg 1 rfl) rfl ?_
  refine V_lload_n (pc2 := 134) (dk D_X5_readHead 62 rfl) rfl (V_lg 2 rfl) rfl ?_
  refine V_aload_n (pc2 := 135) (dk D_X5_readHead 63 rfl) rfl (V_lg 0 rfl) rfl ?_
  refine V_getR kc5 (pc2 := 138) 0 (dk D_X5_readHead 64 rfl) fl_5_9 (by decide) (fun _ => rfl) rfl h1 ?_
  obtain ⟨h2, h⟩ := h
  refine V_getI kc9 (pc2 := 141) 8 (dk D_X5_readHead 65 rfl) fl_5_70 (by decide) (fun _ => rfl) rfl h2 ?_
  refine V_aload_n (pc2 := 142) (dk D_X5_readHead 66 rfl) rfl (V_lg 0 rfl) rfl ?_
  refine V_getR kc5 (pc2 := 145) 2 (dk D_X5_readHead 67 rfl) fl_5_25 (by decide) (fun _ => rfl) rfl h1 ?_
  obtain ⟨h8, h⟩ := h
  obtain ⟨e3, he4, hc5⟩ := h
  refine V_callV (as := []) (st := [_, _, _, _]) (M' := MX1_size) (ci := 1) (pc2 := 148) (dk D_X5_readHead 68 rfl) ml_5_61 mv_X1_size rfl rfl (by decide) rfl (Nat.le_of_ble_eq_true rfl) rfl he4 h8 hc5 (RI.k fun y6 S7 h => ?_)
  obtain ⟨h13, h⟩ := h
  obtain ⟨e9, he10, hc11⟩ := h
  refine V_callV (as := [_, _, _, _]) (st := []) (M' := MX0_begin) (ci := 0) (pc2 := 151) (dk D_X5_readHead 69 rfl) ml_5_101 mv_X0_begin rfl rfl (by decide) rfl (Nat.le_of_ble_eq_true rfl) rfl he10 h13 hc11 (RV.k fun  S12 h => ?_)
  refine V_aload_n (pc2 := 152) (dk D_X5_readHead 70 rfl) rfl (V_lg 0 rfl) rfl ?_
  obtain ⟨h14, h⟩ := h
  refine V_getR kc5 (pc2 := 155) 0 (dk D_X5_readHead 71 rfl) fl_5_9 (by decide) (fun _ => rfl) rfl h14 ?_
  obtain ⟨h19, h⟩ := h
  obtain ⟨e15, he16, hc17⟩ := h
  refine V_callV (as := []) (st := []) (M' := MX9_next) (ci := 9) (pc2 := 158) (dk D_X5_readHead 72 rfl) ml_5_77 mv_X9_next rfl rfl (by decide) rfl (Nat.le_of_ble_eq_true rfl) rfl he16 h19 hc17 (RV.k fun  S18 h => ?_)
  refine V_aload_n (pc2 := 159) (dk D_X5_readHead 73 rfl) rfl (V_lg 0 rfl) rfl ?_
  refine V_bipush (x := 40) (pc2 := 161) (dk D_X5_readHead 74 rfl) (by decide) rfl ?_
  obtain ⟨h25, h⟩ := h
  obtain ⟨e20, he21, hc22⟩ := h
  refine V_callV (as := [_]) (st := []) (M' := MX5_takeOpening) (ci := 5) (pc2 := 164) (dk D_X5_readHead 75 rfl) ml_5_105 mv_X5_takeOpening rfl rfl (by decide) rfl (Nat.le_of_ble_eq_true rfl) rfl he21 h25 hc22 (RI.k fun y23 S24 h => ?_)
  refine V_ifeq (tgt := 188) (pc2 := 167) (dk D_X5_readHead 76 rfl) (by decide) rfl (fun q26 => ?_) (fun q26 => ?_)
  · have h := h.1 q26
    exact h
  · have h := h.2 q26
    refine V_aload_n (pc2 := 168) (dk D_X5_readHead 77 rfl) rfl (V_lg 0 rfl) rfl ?_
    refine V_iload_n (pc2 := 169) (dk D_X5_readHead 78 rfl) rfl (V_lg 1 rfl) rfl ?_
    obtain ⟨h32, h⟩ := h
    obtain ⟨e27, he28, hc29⟩ := h
    refine V_callV (as := [_]) (st := []) (M' := MX5_readArguments) (ci := 5) (pc2 := 172) (dk D_X5_readHead 79 rfl) ml_5_108 mv_X5_readArguments rfl rfl (by decide) rfl (Nat.le_of_ble_eq_true rfl) rfl he28 h32 hc29 (RI.k fun y30 S31 h => ?_)
    refine V_ifeq (tgt := 188) (pc2 := 175) (dk D_X5_readHead 80 rfl) (by decide) rfl (fun q33 => ?_) (fun q33 => ?_)
    · have h := h.1 q33
      exact h
    · have h := h.2 q33
      refine V_aload_n (pc2 := 176) (dk D_X5_readHead 81 rfl) rfl (V_lg 0 rfl) rfl ?_
      refine V_bipush (x := 41) (pc2 := 178) (dk D_X5_readHead 82 rfl) (by decide) rfl ?_
      obtain ⟨h39, h⟩ := h
      obtain ⟨e34, he35, hc36⟩ := h
      refine V_callV (as := [_]) (st := []) (M' := MX5_takeClosing) (ci := 5) (pc2 := 181) (dk D_X5_readHead 83 rfl) ml_5_112 mv_X5_takeClosing rfl rfl (by decide) rfl (Nat.le_of_ble_eq_true rfl) rfl he35 h39 hc36 (RI.k fun y37 S38 h => ?_)
      refine V_ifeq (tgt := 188) (pc2 := 184) (dk D_X5_readHead 84 rfl) (by decide) rfl (fun q40 => ?_) (fun q40 => ?_)
      · have h := h.1 q40
        exact h
      · have h := h.2 q40
        refine V_iconst (x := 1) (pc2 := 185) (dk D_X5_readHead 85 rfl) (by decide) rfl ?_
        refine V_goto (tgt := 189) (dk D_X5_readHead 86 rfl) (by decide) ?_
        exact h
theorem w_X5_readHead_188 {X : Cx} {d : Nat} {S : Mem} {Q : Res → Mem → Prop} (r0 : Nat) (x1 : Int32) (l2 : Int64) (h : V X d MX5_readHead 189 [(0, vR r0), (1, vI x1), (2, vL l2)] [vI 0] S Q) : V X d MX5_readHead 188 [(0, vR r0), (1, vI x1), (2, vL l2)] [] S Q := by
  refine V_iconst (x := 0) (pc2 := 189) (dk D_X5_readHead 87 rfl) (by decide) rfl ?_
  exact h
theorem w_X5_readHead_189 {X : Cx} {d : Nat} {S : Mem} {Q : Res → Mem → Prop} (r0 : Nat) (x1 : Int32) (l2 : Int64) (t0 : Int32) (h : (t0 = 0 ∨ t0 = 1) ∧ Q (.inl (some (vI t0))) S) : V X d MX5_readHead 189 [(0, vR r0), (1, vI x1), (2, vL l2)] [vI t0] S Q := by
  obtain ⟨h1, h⟩ := h
  exact V_zreturn (dk D_X5_readHead 88 rfl) rfl h1 h
def L_X5_readArguments : List (Nat × Instr × Nat) := [(0, .aload_n 0, 1), (1, .getfield 9, 3), (4, .getfield 41, 3), (7, .bipush 41, 2), (9, .if_icmp .ne 5, 3), (12, .iconst 1, 1), (13, .ireturn, 1), (14, .iconst 0, 1), (15, .istore_n 2, 1), (16, .iload_n 2, 1), (17, .iconst 4, 1), (18, .if_icmp .ge 120, 3), (21, .aload_n 0, 1), (22, .invokevirtual 90, 3), (25, .ifCond .ne 5, 3), (28, .iconst 0, 1), (29, .ireturn, 1), (30, .aload_n 0, 1), (31, .getfield 9, 3), (34, .aload_n 0, 1), (35, .getfield 9, 3), (38, .invokevirtual 80, 3), (41, .invokevirtual 83, 3), (44, .lstore_n 3, 1), (45, .aload_n 0, 1), (46, .getfield 51, 3), (49, .lload_n 3, 1), (50, .invokevirtual 115, 3), (53, .bipush (-9), 2), (55, .if_icmp .eq 17, 3), (58, .aload_n 0, 1), (59, .getfield 15, 3), (62, .aload_n 0, 1), (63, .getfield 9, 3), (66, .getfield 70, 3), (69, .invokevirtual 97, 3), (72, .aload_n 0, 1), (73, .getfield 51, 3), (76, .lload_n 3, 1), (77, .aload_n 0, 1), (78, .getfield 9, 3), (81, .getfield 70, 3), (84, .invokevirtual 116, 3), (87, .aload_n 0, 1), (88, .getfield 51, 3), (91, .dup, 1), (92, .getfield 120, 3), (95, .iconst 1, 1), (96, .iadd, 1), (97, .putfield 120, 3), (100, .aload_n 0, 1), (101, .getfield 9, 3), (104, .invokevirtual 77, 3), (107, .iload_n 1, 1), (108, .ifCond .ne 15, 3), (111, .aload_n 0, 1), (112, .getfield 9, 3), (115, .getfield 41, 3), (118, .bipush 44, 2), (120, .if_icmp .eq 5, 3), (123, .iconst 1, 1), (124, .ireturn, 1), (125, .aload_n 0, 1), (126, .getfield 9, 3), (129, .invokevirtual 77, 3), (132, .iinc 2 1, 3), (135, .goto (-119), 3), (138, .aload_n 0, 1), (139, .aload_n 0, 1), (140, .getfield 9, 3), (143, .getfield 70, 3), (146, .invokevirtual 73, 3), (149, .ireturn, 1)]
theorem D_X5_readArguments : dOk cX5_readArguments L_X5_readArguments = true := by decide +kernel
theorem w_X5_readArguments_0 {X : Cx} {d : Nat} {S : Mem} {Q : Res → Mem → Prop} (r0 : Nat) (x1 : Int32) (h : (isK S r0 5) ∧ (isK S (gR S r0 0) 9) ∧ ((¬ (gI S (gR S r0 0) 7) = 41 → V X d MX5_readArguments 16 [(0, vR r0), (1, vI x1), (2, vI 0)] [] S Q) ∧ ((gI S (gR S r0 0) 7) = 41 → Q (.inl (some (vI 1))) S))) : V X d MX5_readArguments 0 [(0, vR r0), (1, vI x1)] [] S Q := by
  refine V_aload_n (pc2 := 1) (dk D_X5_readArguments 0 rfl) rfl (V_lg 0 rfl) rfl ?_
  obtain ⟨h1, h⟩ := h
  refine V_getR kc5 (pc2 := 4) 0 (dk D_X5_readArguments 1 rfl) fl_5_9 (by decide) (fun _ => rfl) rfl h1 ?_
  obtain ⟨h2, h⟩ := h
  refine V_getI kc9 (pc2 := 7) 7 (dk D_X5_readArguments 2 rfl) fl_5_41 (by decide) (fun _ => rfl) rfl h2 ?_
  refine V_bipush (x := 41) (pc2 := 9) (dk D_X5_readArguments 3 rfl) (by decide) rfl ?_
  refine V_cmpne (tgt := 14) (pc2 := 12) (dk D_X5_readArguments 4 rfl) (by decide) rfl (fun q3 => ?_) (fun q3 => ?_)
  · have h := h.1 q3
    refine V_iconst (x := 0) (pc2 := 15) (dk D_X5_readArguments 7 rfl) (by decide) rfl ?_
    refine V_istore_n (pc2 := 16) (lv2 := [(0, _), (1, _), (2, _)]) (dk D_X5_readArguments 8 rfl) rfl (by decide) rfl rfl ?_
    exact h
  · have h := h.2 q3
    refine V_iconst (x := 1) (pc2 := 13) (dk D_X5_readArguments 5 rfl) (by decide) rfl ?_
    exact V_zreturn (dk D_X5_readArguments 6 rfl) rfl (Or.inr rfl) h
theorem w_X5_readArguments_16 {X : Cx} {d : Nat} {S : Mem} {Q : Res → Mem → Prop} (r0 : Nat) (x1 : Int32) (x2 : Int32) (h : ((4 ≤ x2 → (isK S r0 5) ∧ (isK S (gR S r0 0) 9) ∧ ∃ e4 : Nat, e4 + 1 ≤ d ∧ C X e4 MX5_refuse [vR r0, vI (gI S (gR S r0 0) 8)] S (RI fun y7 S8 => (y7 = 0 ∨ y7 = 1) ∧ Q (.inl (some (vI y7))) S8)) ∧ (¬ 4 ≤ x2 → (isK S r0 5) ∧ ∃ e10 : Nat, e10 + 1 ≤ d ∧ C X e10 MX5_isName [vR r0] S (RI fun y13 S14 => ((¬ y13 = 0 → (isK S14 r0 5) ∧ (isK S14 (gR S14 r0 0) 9) ∧ ∃ e18 : Nat, e18 + 1 ≤ d ∧ C X e18 MX9_index [vR (gR S14 r0 0)] S14 (RI fun y21 S22 => (isK S22 (gR S14 r0 0) 9) ∧ ∃ e24 : Nat, e24 + 1 ≤ d ∧ C X e24 MX9_valueOf [vR (gR S14 r0 0), vI y21] S22 (RJ fun w27 S28 => (isK S28 r0 5) ∧ (isK S28 (gR S28 r0 3) 0) ∧ ∃ e31 : Nat, e31 + 1 ≤ d ∧ C X e31 MX0_find [vR (gR S28 r0 3), vL w27] S28 (RI fun y34 S35 => ((y34 = (-9) → V X d MX5_readArguments 72 [(0, vR r0), (1, vI x1), (2, vI x2), (3, vL w27)] [] S35 Q) ∧ (¬ y34 = (-9) → (isK S35 r0 5) ∧ (isK S35 (gR S35 r0 0) 9) ∧ (isK S35 (gR S35 r0 1) 7) ∧ ∃ e40 : Nat, e40 + 1 ≤ d ∧ C X e40 MX7_noteWrongName [vR (gR S35 r0 1), vI (gI S35 (gR S35 r0 0) 8)] S35 (RV fun  S43 => V X d MX5_readArguments 72 [(0, vR r0), (1, vI x1), (2, vI x2), (3, vL w27)] [] S43 Q))))))) ∧ (y13 = 0 → Q (.inl (some (vI 0))) S14)))))) : V X d MX5_readArguments 16 [(0, vR r0), (1, vI x1), (2, vI x2)] [] S Q := by
  refine V_iload_n (pc2 := 17) (dk D_X5_readArguments 9 rfl) rfl (V_lg 2 rfl) rfl ?_
  refine V_iconst (x := 4) (pc2 := 18) (dk D_X5_readArguments 10 rfl) (by decide) rfl ?_
  refine V_cmpge (tgt := 138) (pc2 := 21) (dk D_X5_readArguments 11 rfl) (by decide) rfl (fun q1 => ?_) (fun q1 => ?_)
  · have h := h.1 q1
    refine V_aload_n (pc2 := 139) (dk D_X5_readArguments 67 rfl) rfl (V_lg 0 rfl) rfl ?_
    refine V_aload_n (pc2 := 140) (dk D_X5_readArguments 68 rfl) rfl (V_lg 0 rfl) rfl ?_
    obtain ⟨h2, h⟩ := h
    refine V_getR kc5 (pc2 := 143) 0 (dk D_X5_readArguments 69 rfl) fl_5_9 (by decide) (fun _ => rfl) rfl h2 ?_
    obtain ⟨h3, h⟩ := h
    refine V_getI kc9 (pc2 := 146) 8 (dk D_X5_readArguments 70 rfl) fl_5_70 (by decide) (fun _ => rfl) rfl h3 ?_
    obtain ⟨e4, he5, hc6⟩ := h
    refine V_callV (as := [_]) (st := []) (M' := MX5_refuse) (ci := 5) (pc2 := 149) (dk D_X5_readArguments 71 rfl) ml_5_73 mv_X5_refuse rfl rfl (by decide) rfl (Nat.le_of_ble_eq_true rfl) rfl he5 h2 hc6 (RI.k fun y7 S8 h => ?_)
    obtain ⟨h9, h⟩ := h
    exact V_zreturn (dk D_X5_readArguments 72 rfl) rfl h9 h
  · have h := h.2 q1
    refine V_aload_n (pc2 := 22) (dk D_X5_readArguments 12 rfl) rfl (V_lg 0 rfl) rfl ?_
    obtain ⟨h15, h⟩ := h
    obtain ⟨e10, he11, hc12⟩ := h
    refine V_callV (as := []) (st := []) (M' := MX5_isName) (ci := 5) (pc2 := 25) (dk D_X5_readArguments 13 rfl) ml_5_90 mv_X5_isName rfl rfl (by decide) rfl (Nat.le_of_ble_eq_true rfl) rfl he11 h15 hc12 (RI.k fun y13 S14 h => ?_)
    refine V_ifne (tgt := 30) (pc2 := 28) (dk D_X5_readArguments 14 rfl) (by decide) rfl (fun q16 => ?_) (fun q16 => ?_)
    · have h := h.1 q16
      refine V_aload_n (pc2 := 31) (dk D_X5_readArguments 17 rfl) rfl (V_lg 0 rfl) rfl ?_
      obtain ⟨h17, h⟩ := h
      refine V_getR kc5 (pc2 := 34) 0 (dk D_X5_readArguments 18 rfl) fl_5_9 (by decide) (fun _ => rfl) rfl h17 ?_
      refine V_aload_n (pc2 := 35) (dk D_X5_readArguments 19 rfl) rfl (V_lg 0 rfl) rfl ?_
      refine V_getR kc5 (pc2 := 38) 0 (dk D_X5_readArguments 20 rfl) fl_5_9 (by decide) (fun _ => rfl) rfl h17 ?_
      obtain ⟨h23, h⟩ := h
      obtain ⟨e18, he19, hc20⟩ := h
      refine V_callV (as := []) (st := [_]) (M' := MX9_index) (ci := 9) (pc2 := 41) (dk D_X5_readArguments 21 rfl) ml_5_80 mv_X9_index rfl rfl (by decide) rfl (Nat.le_of_ble_eq_true rfl) rfl he19 h23 hc20 (RI.k fun y21 S22 h => ?_)
      obtain ⟨h29, h⟩ := h
      obtain ⟨e24, he25, hc26⟩ := h
      refine V_callV (as := [_]) (st := []) (M' := MX9_valueOf) (ci := 9) (pc2 := 44) (dk D_X5_readArguments 22 rfl) ml_5_83 mv_X9_valueOf rfl rfl (by decide) rfl (Nat.le_of_ble_eq_true rfl) rfl he25 h29 hc26 (RJ.k fun w27 S28 h => ?_)
      refine V_lstore_n (pc2 := 45) (lv2 := [(0, _), (1, _), (2, _), (3, _)]) (dk D_X5_readArguments 23 rfl) rfl (by decide) rfl rfl ?_
      refine V_aload_n (pc2 := 46) (dk D_X5_readArguments 24 rfl) rfl (V_lg 0 rfl) rfl ?_
      obtain ⟨h30, h⟩ := h
      refine V_getR kc5 (pc2 := 49) 3 (dk D_X5_readArguments 25 rfl) fl_5_51 (by decide) (fun _ => rfl) rfl h30 ?_
      refine V_lload_n (pc2 := 50) (dk D_X5_readArguments 26 rfl) rfl (V_lg 3 rfl) rfl ?_
      obtain ⟨h36, h⟩ := h
      obtain ⟨e31, he32, hc33⟩ := h
      refine V_callV (as := [_]) (st := []) (M' := MX0_find) (ci := 0) (pc2 := 53) (dk D_X5_readArguments 27 rfl) ml_5_115 mv_X0_find rfl rfl (by decide) rfl (Nat.le_of_ble_eq_true rfl) rfl he32 h36 hc33 (RI.k fun y34 S35 h => ?_)
      refine V_bipush (x := (-9)) (pc2 := 55) (dk D_X5_readArguments 28 rfl) (by decide) rfl ?_
      refine V_cmpeq (tgt := 72) (pc2 := 58) (dk D_X5_readArguments 29 rfl) (by decide) rfl (fun q37 => ?_) (fun q37 => ?_)
      · have h := h.1 q37
        exact h
      · have h := h.2 q37
        refine V_aload_n (pc2 := 59) (dk D_X5_readArguments 30 rfl) rfl (V_lg 0 rfl) rfl ?_
        obtain ⟨h38, h⟩ := h
        refine V_getR kc5 (pc2 := 62) 1 (dk D_X5_readArguments 31 rfl) fl_5_15 (by decide) (fun _ => rfl) rfl h38 ?_
        refine V_aload_n (pc2 := 63) (dk D_X5_readArguments 32 rfl) rfl (V_lg 0 rfl) rfl ?_
        refine V_getR kc5 (pc2 := 66) 0 (dk D_X5_readArguments 33 rfl) fl_5_9 (by decide) (fun _ => rfl) rfl h38 ?_
        obtain ⟨h39, h⟩ := h
        refine V_getI kc9 (pc2 := 69) 8 (dk D_X5_readArguments 34 rfl) fl_5_70 (by decide) (fun _ => rfl) rfl h39 ?_
        obtain ⟨h44, h⟩ := h
        obtain ⟨e40, he41, hc42⟩ := h
        refine V_callV (as := [_]) (st := []) (M' := MX7_noteWrongName) (ci := 7) (pc2 := 72) (dk D_X5_readArguments 35 rfl) ml_5_97 mv_X7_noteWrongName rfl rfl (by decide) rfl (Nat.le_of_ble_eq_true rfl) rfl he41 h44 hc42 (RV.k fun  S43 h => ?_)
        exact h
    · have h := h.2 q16
      refine V_iconst (x := 0) (pc2 := 29) (dk D_X5_readArguments 15 rfl) (by decide) rfl ?_
      exact V_zreturn (dk D_X5_readArguments 16 rfl) rfl (Or.inl rfl) h
theorem w_X5_readArguments_72 {X : Cx} {d : Nat} {S : Mem} {Q : Res → Mem → Prop} (r0 : Nat) (x1 : Int32) (x2 : Int32) (l3 : Int64) (h : (isK S r0 5) ∧ (isK S (gR S r0 0) 9) ∧ (isK S (gR S r0 3) 0) ∧ ∃ e3 : Nat, e3 + 1 ≤ d ∧ C X e3 MX0_declare [vR (gR S r0 3), vL l3, vI (gI S (gR S r0 0) 8)] S (RV fun  S6 => (isK S6 r0 5) ∧ (isK S6 (gR S6 r0 3) 0) ∧ ∀ S10 : Mem, S10 = uI S6 (gR S6 r0 3) 4 ((gI S6 (gR S6 r0 3) 4) + 1) → (isK S6 (gR S6 r0 0) 9) ∧ ∃ e11 : Nat, e11 + 1 ≤ d ∧ C X e11 MX9_next [vR (gR S6 r0 0)] S10 (RV fun  S14 => ((¬ x1 = 0 → V X d MX5_readArguments 123 [(0, vR r0), (1, vI x1), (2, vI x2), (3, vL l3)] [] S14 Q) ∧ (x1 = 0 → (isK S14 r0 5) ∧ (isK S14 (gR S14 r0 0) 9) ∧ (((gI S14 (gR S14 r0 0) 7) = 44 → ∃ e20 : Nat, e20 + 1 ≤ d ∧ C X e20 MX9_next [vR (gR S14 r0 0)] S14 (RV fun  S23 => V X d MX5_readArguments 16 [(0, vR r0), (1, vI x1), (2, vI (x2 + 1))] [] S23 Q)) ∧ (¬ (gI S14 (gR S14 r0 0) 7) = 44 → V X d MX5_readArguments 123 [(0, vR r0), (1, vI x1), (2, vI x2), (3, vL l3)] [] S14 Q))))))) : V X d MX5_readArguments 72 [(0, vR r0), (1, vI x1), (2, vI x2), (3, vL l3)] [] S Q := by
  refine V_aload_n (pc2 := 73) (dk D_X5_readArguments 36 rfl) rfl (V_lg 0 rfl) rfl ?_
  obtain ⟨h1, h⟩ := h
  refine V_getR kc5 (pc2 := 76) 3 (dk D_X5_readArguments 37 rfl) fl_5_51 (by decide) (fun _ => rfl) rfl h1 ?_
  refine V_lload_n (pc2 := 77) (dk D_X5_readArguments 38 rfl) rfl (V_lg 3 rfl) rfl ?_
  refine V_aload_n (pc2 := 78) (dk D_X5_readArguments 39 rfl) rfl (V_lg 0 rfl) rfl ?_
  refine V_getR kc5 (pc2 := 81) 0 (dk D_X5_readArguments 40 rfl) fl_5_9 (by decide) (fun _ => rfl) rfl h1 ?_
  obtain ⟨h2, h⟩ := h
  refine V_getI kc9 (pc2 := 84) 8 (dk D_X5_readArguments 41 rfl) fl_5_70 (by decide) (fun _ => rfl) rfl h2 ?_
  obtain ⟨h7, h⟩ := h
  obtain ⟨e3, he4, hc5⟩ := h
  refine V_callV (as := [_, _]) (st := []) (M' := MX0_declare) (ci := 0) (pc2 := 87) (dk D_X5_readArguments 42 rfl) ml_5_116 mv_X0_declare rfl rfl (by decide) rfl (Nat.le_of_ble_eq_true rfl) rfl he4 h7 hc5 (RV.k fun  S6 h => ?_)
  refine V_aload_n (pc2 := 88) (dk D_X5_readArguments 43 rfl) rfl (V_lg 0 rfl) rfl ?_
  obtain ⟨h8, h⟩ := h
  refine V_getR kc5 (pc2 := 91) 3 (dk D_X5_readArguments 44 rfl) fl_5_51 (by decide) (fun _ => rfl) rfl h8 ?_
  refine V_dup (pc2 := 92) (dk D_X5_readArguments 45 rfl) rfl rfl ?_
  obtain ⟨h9, h⟩ := h
  refine V_getI kc0 (pc2 := 95) 4 (dk D_X5_readArguments 46 rfl) fl_5_120 (by decide) (fun _ => rfl) rfl h9 ?_
  refine V_iconst (x := 1) (pc2 := 96) (dk D_X5_readArguments 47 rfl) (by decide) rfl ?_
  refine V_iadd (pc2 := 97) (dk D_X5_readArguments 48 rfl) rfl ?_
  refine V_putI kc0 (pc2 := 100) 4 (dk D_X5_readArguments 49 rfl) fl_5_120 (by decide) (Or.inl rfl) rfl rfl h9 ?_
  have h := h _ rfl
  refine V_aload_n (pc2 := 101) (dk D_X5_readArguments 50 rfl) rfl (V_lg 0 rfl) rfl ?_
  refine V_getR kc5 (pc2 := 104) 0 (dk D_X5_readArguments 51 rfl) fl_5_9 (by decide) (fun _ => rfl) rfl h8 ?_
  obtain ⟨h15, h⟩ := h
  obtain ⟨e11, he12, hc13⟩ := h
  refine V_callV (as := []) (st := []) (M' := MX9_next) (ci := 9) (pc2 := 107) (dk D_X5_readArguments 52 rfl) ml_5_77 mv_X9_next rfl rfl (by decide) rfl (Nat.le_of_ble_eq_true rfl) rfl he12 h15 hc13 (RV.k fun  S14 h => ?_)
  refine V_iload_n (pc2 := 108) (dk D_X5_readArguments 53 rfl) rfl (V_lg 1 rfl) rfl ?_
  refine V_ifne (tgt := 123) (pc2 := 111) (dk D_X5_readArguments 54 rfl) (by decide) rfl (fun q16 => ?_) (fun q16 => ?_)
  · have h := h.1 q16
    exact h
  · have h := h.2 q16
    refine V_aload_n (pc2 := 112) (dk D_X5_readArguments 55 rfl) rfl (V_lg 0 rfl) rfl ?_
    obtain ⟨h17, h⟩ := h
    refine V_getR kc5 (pc2 := 115) 0 (dk D_X5_readArguments 56 rfl) fl_5_9 (by decide) (fun _ => rfl) rfl h17 ?_
    obtain ⟨h18, h⟩ := h
    refine V_getI kc9 (pc2 := 118) 7 (dk D_X5_readArguments 57 rfl) fl_5_41 (by decide) (fun _ => rfl) rfl h18 ?_
    refine V_bipush (x := 44) (pc2 := 120) (dk D_X5_readArguments 58 rfl) (by decide) rfl ?_
    refine V_cmpeq (tgt := 125) (pc2 := 123) (dk D_X5_readArguments 59 rfl) (by decide) rfl (fun q19 => ?_) (fun q19 => ?_)
    · have h := h.1 q19
      refine V_aload_n (pc2 := 126) (dk D_X5_readArguments 62 rfl) rfl (V_lg 0 rfl) rfl ?_
      refine V_getR kc5 (pc2 := 129) 0 (dk D_X5_readArguments 63 rfl) fl_5_9 (by decide) (fun _ => rfl) rfl h17 ?_
      obtain ⟨e20, he21, hc22⟩ := h
      refine V_callV (as := []) (st := []) (M' := MX9_next) (ci := 9) (pc2 := 132) (dk D_X5_readArguments 64 rfl) ml_5_77 mv_X9_next rfl rfl (by decide) rfl (Nat.le_of_ble_eq_true rfl) rfl he21 h18 hc22 (RV.k fun  S23 h => ?_)
      refine V_iinc (y := _ + 1) (pc2 := 135) (lv2 := [(0, _), (1, _), (2, _), (3, _)]) (dk D_X5_readArguments 65 rfl) (V_lg 2 rfl) rfl (by decide) rfl rfl ?_
      refine V_goto (tgt := 16) (dk D_X5_readArguments 66 rfl) (by decide) ?_
      refine V_pick [0, 1, 2] (lv2 := [(0, _), (1, _), (2, _)]) rfl ?_
      exact h
    · have h := h.2 q19
      exact h
theorem w_X5_readArguments_123 {X : Cx} {d : Nat} {S : Mem} {Q : Res → Mem → Prop} (r0 : Nat) (x1 : Int32) (x2 : Int32) (l3 : Int64) (h : Q (.inl (some (vI 1))) S) : V X d MX5_readArguments 123 [(0, vR r0), (1, vI x1), (2, vI x2), (3, vL l3)] [] S Q := by
  refine V_iconst (x := 1) (pc2 := 124) (dk D_X5_readArguments 60 rfl) (by decide) rfl ?_
  exact V_zreturn (dk D_X5_readArguments 61 rfl) rfl (Or.inr rfl) h
def L_X5_readBlock : List (Nat × Instr × Nat) := [(0, .aload_n 0, 1), (1, .bipush 123, 2), (3, .invokevirtual 105, 3), (6, .ifCond .ne 5, 3), (9, .iconst 0, 1), (10, .ireturn, 1), (11, .iconst 0, 1), (12, .istore_n 1, 1), (13, .iload_n 1, 1), (14, .sipush 3001, 3), (17, .if_icmp .ge 30, 3), (20, .aload_n 0, 1), (21, .getfield 9, 3), (24, .getfield 41, 3), (27, .bipush 125, 2), (29, .if_icmp .eq 18, 3), (32, .aload_n 0, 1), (33, .invokevirtual 123, 3), (36, .ifCond .ne 5, 3), (39, .iconst 0, 1), (40, .ireturn, 1), (41, .iinc 1 1, 3), (44, .goto (-31), 3), (47, .aload_n 0, 1), (48, .bipush 125, 2), (50, .invokevirtual 112, 3), (53, .ireturn, 1)]
theorem D_X5_readBlock : dOk cX5_readBlock L_X5_readBlock = true := by decide +kernel
theorem w_X5_readBlock_0 {X : Cx} {d : Nat} {S : Mem} {Q : Res → Mem → Prop} (r0 : Nat) (h : (isK S r0 5) ∧ ∃ e1 : Nat, e1 + 1 ≤ d ∧ C X e1 MX5_takeOpening [vR r0, vI 123] S (RI fun y4 S5 => ((¬ y4 = 0 → V X d MX5_readBlock 13 [(0, vR r0), (1, vI 0)] [] S5 Q) ∧ (y4 = 0 → Q (.inl (some (vI 0))) S5)))) : V X d MX5_readBlock 0 [(0, vR r0)] [] S Q := by
  refine V_aload_n (pc2 := 1) (dk D_X5_readBlock 0 rfl) rfl (V_lg 0 rfl) rfl ?_
  refine V_bipush (x := 123) (pc2 := 3) (dk D_X5_readBlock 1 rfl) (by decide) rfl ?_
  obtain ⟨h6, h⟩ := h
  obtain ⟨e1, he2, hc3⟩ := h
  refine V_callV (as := [_]) (st := []) (M' := MX5_takeOpening) (ci := 5) (pc2 := 6) (dk D_X5_readBlock 2 rfl) ml_5_105 mv_X5_takeOpening rfl rfl (by decide) rfl (Nat.le_of_ble_eq_true rfl) rfl he2 h6 hc3 (RI.k fun y4 S5 h => ?_)
  refine V_ifne (tgt := 11) (pc2 := 9) (dk D_X5_readBlock 3 rfl) (by decide) rfl (fun q7 => ?_) (fun q7 => ?_)
  · have h := h.1 q7
    refine V_iconst (x := 0) (pc2 := 12) (dk D_X5_readBlock 6 rfl) (by decide) rfl ?_
    refine V_istore_n (pc2 := 13) (lv2 := [(0, _), (1, _)]) (dk D_X5_readBlock 7 rfl) rfl (by decide) rfl rfl ?_
    exact h
  · have h := h.2 q7
    refine V_iconst (x := 0) (pc2 := 10) (dk D_X5_readBlock 4 rfl) (by decide) rfl ?_
    exact V_zreturn (dk D_X5_readBlock 5 rfl) rfl (Or.inl rfl) h
theorem w_X5_readBlock_13 {X : Cx} {d : Nat} {S : Mem} {Q : Res → Mem → Prop} (r0 : Nat) (x1 : Int32) (h : ((3001 ≤ x1 → V X d MX5_readBlock 47 [(0, vR r0), (1, vI x1)] [] S Q) ∧ (¬ 3001 ≤ x1 → (isK S r0 5) ∧ (isK S (gR S r0 0) 9) ∧ (((gI S (gR S r0 0) 7) = 125 → V X d MX5_readBlock 47 [(0, vR r0), (1, vI x1)] [] S Q) ∧ (¬ (gI S (gR S r0 0) 7) = 125 → ∃ e5 : Nat, e5 + 1 ≤ d ∧ C X e5 MX5_readStatement [vR r0] S (RI fun y8 S9 => ((¬ y8 = 0 → V X d MX5_readBlock 13 [(0, vR r0), (1, vI (x1 + 1))] [] S9 Q) ∧ (y8 = 0 → Q (.inl (some (vI 0))) S9)))))))) : V X d MX5_readBlock 13 [(0, vR r0), (1, vI x1)] [] S Q := by
  refine V_iload_n (pc2 := 14) (dk D_X5_readBlock 8 rfl) rfl (V_lg 1 rfl) rfl ?_
  refine V_sipush (x := 3001) (pc2 := 17) (dk D_X5_readBlock 9 rfl) (by decide) rfl ?_
  refine V_cmpge (tgt := 47) (pc2 := 20) (dk D_X5_readBlock 10 rfl) (by decide) rfl (fun q1 => ?_) (fun q1 => ?_)
  · have h := h.1 q1
    exact h
  · have h := h.2 q1
    refine V_aload_n (pc2 := 21) (dk D_X5_readBlock 11 rfl) rfl (V_lg 0 rfl) rfl ?_
    obtain ⟨h2, h⟩ := h
    refine V_getR kc5 (pc2 := 24) 0 (dk D_X5_readBlock 12 rfl) fl_5_9 (by decide) (fun _ => rfl) rfl h2 ?_
    obtain ⟨h3, h⟩ := h
    refine V_getI kc9 (pc2 := 27) 7 (dk D_X5_readBlock 13 rfl) fl_5_41 (by decide) (fun _ => rfl) rfl h3 ?_
    refine V_bipush (x := 125) (pc2 := 29) (dk D_X5_readBlock 14 rfl) (by decide) rfl ?_
    refine V_cmpeq (tgt := 47) (pc2 := 32) (dk D_X5_readBlock 15 rfl) (by decide) rfl (fun q4 => ?_) (fun q4 => ?_)
    · have h := h.1 q4
      exact h
    · have h := h.2 q4
      refine V_aload_n (pc2 := 33) (dk D_X5_readBlock 16 rfl) rfl (V_lg 0 rfl) rfl ?_
      obtain ⟨e5, he6, hc7⟩ := h
      refine V_callV (as := []) (st := []) (M' := MX5_readStatement) (ci := 5) (pc2 := 36) (dk D_X5_readBlock 17 rfl) ml_5_123 mv_X5_readStatement rfl rfl (by decide) rfl (Nat.le_of_ble_eq_true rfl) rfl he6 h2 hc7 (RI.k fun y8 S9 h => ?_)
      refine V_ifne (tgt := 41) (pc2 := 39) (dk D_X5_readBlock 18 rfl) (by decide) rfl (fun q10 => ?_) (fun q10 => ?_)
      · have h := h.1 q10
        refine V_iinc (y := _ + 1) (pc2 := 44) (lv2 := [(0, _), (1, _)]) (dk D_X5_readBlock 21 rfl) (V_lg 1 rfl) rfl (by decide) rfl rfl ?_
        refine V_goto (tgt := 13) (dk D_X5_readBlock 22 rfl) (by decide) ?_
        exact h
      · have h := h.2 q10
        refine V_iconst (x := 0) (pc2 := 40) (dk D_X5_readBlock 19 rfl) (by decide) rfl ?_
        exact V_zreturn (dk D_X5_readBlock 20 rfl) rfl (Or.inl rfl) h
theorem w_X5_readBlock_47 {X : Cx} {d : Nat} {S : Mem} {Q : Res → Mem → Prop} (r0 : Nat) (x1 : Int32) (h : (isK S r0 5) ∧ ∃ e1 : Nat, e1 + 1 ≤ d ∧ C X e1 MX5_takeClosing [vR r0, vI 125] S (RI fun y4 S5 => (y4 = 0 ∨ y4 = 1) ∧ Q (.inl (some (vI y4))) S5)) : V X d MX5_readBlock 47 [(0, vR r0), (1, vI x1)] [] S Q := by
  refine V_aload_n (pc2 := 48) (dk D_X5_readBlock 23 rfl) rfl (V_lg 0 rfl) rfl ?_
  refine V_bipush (x := 125) (pc2 := 50) (dk D_X5_readBlock 24 rfl) (by decide) rfl ?_
  obtain ⟨h6, h⟩ := h
  obtain ⟨e1, he2, hc3⟩ := h
  refine V_callV (as := [_]) (st := []) (M' := MX5_takeClosing) (ci := 5) (pc2 := 53) (dk D_X5_readBlock 25 rfl) ml_5_112 mv_X5_takeClosing rfl rfl (by decide) rfl (Nat.le_of_ble_eq_true rfl) rfl he2 h6 hc3 (RI.k fun y4 S5 h => ?_)
  obtain ⟨h7, h⟩ := h
  exact V_zreturn (dk D_X5_readBlock 26 rfl) rfl h7 h
def L_X5_readStatement : List (Nat × Instr × Nat) := [(0, .aload_n 0, 1), (1, .getfield 9, 3), (4, .getfield 70, 3), (7, .istore_n 1, 1), (8, .aload_n 0, 1), (9, .getfield 25, 3), (12, .bipush 20, 2), (14, .iload_n 1, 1), (15, .invokevirtual 57, 3), (18, .pop, 1), (19, .aload_n 0, 1), (20, .getfield 9, 3), (23, .getfield 41, 3), (26, .tableswitch 126 202 221 #[94, 126, 99, 111, 126, 126, 121, 116, 126, 126, 126, 126, 126, 126, 126, 126, 126, 126, 126, 105], 94), (120, .aload_n 0, 1), (121, .invokevirtual 126, 3), (124, .ireturn, 1), (125, .aload_n 0, 1), (126, .iload_n 1, 1), (127, .invokevirtual 129, 3), (130, .ireturn, 1), (131, .aload_n 0, 1), (132, .iload_n 1, 1), (133, .invokevirtual 132, 3), (136, .ireturn, 1), (137, .aload_n 0, 1), (138, .invokevirtual 135, 3), (141, .ireturn, 1), (142, .aload_n 0, 1), (143, .invokevirtual 138, 3), (146, .ireturn, 1), (147, .aload_n 0, 1), (148, .invokevirtual 141, 3), (151, .ireturn, 1), (152, .aload_n 0, 1), (153, .invokevirtual 144, 3), (156, .ireturn, 1)]
theorem D_X5_readStatement : dOk cX5_readStatement L_X5_readStatement = true := by decide +kernel
theorem w_X5_readStatement_0 {X : Cx} {d : Nat} {S : Mem} {Q : Res → Mem → Prop} (r0 : Nat) (h : (isK S r0 5) ∧ (isK S (gR S r0 0) 9) ∧ (isK S (gR S r0 2) 1) ∧ ∃ e3 : Nat, e3 + 1 ≤ d ∧ C X e3 MX1_add [vR (gR S r0 2), vI 20, vI (gI S (gR S r0 0) 8)] S (RI fun y6 S7 => (isK S7 r0 5) ∧ (isK S7 (gR S7 r0 0) 9) ∧ (((gI S7 (gR S7 r0 0) 7) = 202 → ∃ e25 : Nat, e25 + 1 ≤ d ∧ C X e25 MX5_readIf [vR r0] S7 (RI fun y28 S29 => (y28 = 0 ∨ y28 = 1) ∧ Q (.inl (some (vI y28))) S29)) ∧ ((gI S7 (gR S7 r0 0) 7) = 204 → ∃ e31 : Nat, e31 + 1 ≤ d ∧ C X e31 MX5_readWhile [vR r0, vI (gI S (gR S r0 0) 8)] S7 (RI fun y34 S35 => (y34 = 0 ∨ y34 = 1) ∧ Q (.inl (some (vI y34))) S35)) ∧ ((gI S7 (gR S7 r0 0) 7) = 205 → ∃ e37 : Nat, e37 + 1 ≤ d ∧ C X e37 MX5_readTry [vR r0] S7 (RI fun y40 S41 => (y40 = 0 ∨ y40 = 1) ∧ Q (.inl (some (vI y40))) S41)) ∧ ((gI S7 (gR S7 r0 0) 7) = 208 → ∃ e43 : Nat, e43 + 1 ≤ d ∧ C X e43 MX5_readThrow [vR r0] S7 (RI fun y46 S47 => (y46 = 0 ∨ y46 = 1) ∧ Q (.inl (some (vI y46))) S47)) ∧ ((gI S7 (gR S7 r0 0) 7) = 209 → ∃ e49 : Nat, e49 + 1 ≤ d ∧ C X e49 MX5_readReturn [vR r0] S7 (RI fun y52 S53 => (y52 = 0 ∨ y52 = 1) ∧ Q (.inl (some (vI y52))) S53)) ∧ ((gI S7 (gR S7 r0 0) 7) = 221 → ∃ e55 : Nat, e55 + 1 ≤ d ∧ C X e55 MX5_readEach [vR r0, vI (gI S (gR S r0 0) 8)] S7 (RI fun y58 S59 => (y58 = 0 ∨ y58 = 1) ∧ Q (.inl (some (vI y58))) S59)) ∧ (¬ ((gI S7 (gR S7 r0 0) 7) = 202 ∨ (gI S7 (gR S7 r0 0) 7) = 204 ∨ (gI S7 (gR S7 r0 0) 7) = 205 ∨ (gI S7 (gR S7 r0 0) 7) = 208 ∨ (gI S7 (gR S7 r0 0) 7) = 209 ∨ (gI S7 (gR S7 r0 0) 7) = 221) → ∃ e13 : Nat, e13 + 1 ≤ d ∧ C X e13 MX5_readSimple [vR r0] S7 (RI fun y16 S17 => (y16 = 0 ∨ y16 = 1) ∧ Q (.inl (some (vI y16))) S17))))) : V X d MX5_readStatement 0 [(0, vR r0)] [] S Q := by
  refine V_aload_n (pc2 := 1) (dk D_X5_readStatement 0 rfl) rfl (V_lg 0 rfl) rfl ?_
  obtain ⟨h1, h⟩ := h
  refine V_getR kc5 (pc2 := 4) 0 (dk D_X5_readStatement 1 rfl) fl_5_9 (by decide) (fun _ => rfl) rfl h1 ?_
  obtain ⟨h2, h⟩ := h
  refine V_getI kc9 (pc2 := 7) 8 (dk D_X5_readStatement 2 rfl) fl_5_70 (by decide) (fun _ => rfl) rfl h2 ?_
  refine V_istore_n (pc2 := 8) (lv2 := [(0, _), (1, _)]) (dk D_X5_readStatement 3 rfl) rfl (by decide) rfl rfl ?_
  refine V_aload_n (pc2 := 9) (dk D_X5_readStatement 4 rfl) rfl (V_lg 0 rfl) rfl ?_
  refine V_getR kc5 (pc2 := 12) 2 (dk D_X5_readStatement 5 rfl) fl_5_25 (by decide) (fun _ => rfl) rfl h1 ?_
  refine V_bipush (x := 20) (pc2 := 14) (dk D_X5_readStatement 6 rfl) (by decide) rfl ?_
  refine V_iload_n (pc2 := 15) (dk D_X5_readStatement 7 rfl) rfl (V_lg 1 rfl) rfl ?_
  obtain ⟨h8, h⟩ := h
  obtain ⟨e3, he4, hc5⟩ := h
  refine V_callV (as := [_, _]) (st := []) (M' := MX1_add) (ci := 1) (pc2 := 18) (dk D_X5_readStatement 8 rfl) ml_5_57 mv_X1_add rfl rfl (by decide) rfl (Nat.le_of_ble_eq_true rfl) rfl he4 h8 hc5 (RI.k fun y6 S7 h => ?_)
  refine V_pop (pc2 := 19) (dk D_X5_readStatement 9 rfl) rfl rfl ?_
  refine V_aload_n (pc2 := 20) (dk D_X5_readStatement 10 rfl) rfl (V_lg 0 rfl) rfl ?_
  obtain ⟨h9, h⟩ := h
  refine V_getR kc5 (pc2 := 23) 0 (dk D_X5_readStatement 11 rfl) fl_5_9 (by decide) (fun _ => rfl) rfl h9 ?_
  obtain ⟨h10, h⟩ := h
  refine V_getI kc9 (pc2 := 26) 7 (dk D_X5_readStatement 12 rfl) fl_5_41 (by decide) (fun _ => rfl) rfl h10 ?_
  refine V_table (dk D_X5_readStatement 13 rfl) [120, 152, 125, 137, 152, 152, 147, 142, 152, 152, 152, 152, 152, 152, 152, 152, 152, 152, 152, 131] 152 (by decide) rfl (by decide) (fun q11 => ?_) (fun j12 hj q11 => ?_)
  · have h := h.2.2.2.2.2.2 (by rintro (hk | hk | hk | hk | hk | hk) <;> (rw [hk] at q11; revert q11; decide))
    refine V_aload_n (pc2 := 153) (dk D_X5_readStatement 34 rfl) rfl (V_lg 0 rfl) rfl ?_
    obtain ⟨e19, he20, hc21⟩ := h
    refine V_callV (as := []) (st := []) (M' := MX5_readSimple) (ci := 5) (pc2 := 156) (dk D_X5_readStatement 35 rfl) ml_5_144 mv_X5_readSimple rfl rfl (by decide) rfl (Nat.le_of_ble_eq_true rfl) rfl he20 h9 hc21 (RI.k fun y22 S23 h => ?_)
    obtain ⟨h24, h⟩ := h
    exact V_zreturn (dk D_X5_readStatement 36 rfl) rfl h24 h
  · have hj2 : j12 = 0 ∨ j12 = 1 ∨ j12 = 2 ∨ j12 = 3 ∨ j12 = 4 ∨ j12 = 5 ∨ j12 = 6 ∨ j12 = 7 ∨ j12 = 8 ∨ j12 = 9 ∨ j12 = 10 ∨ j12 = 11 ∨ j12 = 12 ∨ j12 = 13 ∨ j12 = 14 ∨ j12 = 15 ∨ j12 = 16 ∨ j12 = 17 ∨ j12 = 18 ∨ j12 = 19 := by simp at hj; omega
    clear hj
    rcases hj2 with rfl | rfl | rfl | rfl | rfl | rfl | rfl | rfl | rfl | rfl | rfl | rfl | rfl | rfl | rfl | rfl | rfl | rfl | rfl | rfl
    · have hx : (gI S7 (gR S7 r0 0) 7) = 202 := Int32.toInt_inj.mp (by rw [q11]; decide)
      have h := h.1 hx
      refine V_aload_n (pc2 := 121) (dk D_X5_readStatement 14 rfl) rfl (V_lg 0 rfl) rfl ?_
      obtain ⟨e25, he26, hc27⟩ := h
      refine V_callV (as := []) (st := []) (M' := MX5_readIf) (ci := 5) (pc2 := 124) (dk D_X5_readStatement 15 rfl) ml_5_126 mv_X5_readIf rfl rfl (by decide) rfl (Nat.le_of_ble_eq_true rfl) rfl he26 h9 hc27 (RI.k fun y28 S29 h => ?_)
      obtain ⟨h30, h⟩ := h
      exact V_zreturn (dk D_X5_readStatement 16 rfl) rfl h30 h
    · have h := h.2.2.2.2.2.2 (by rintro (hk | hk | hk | hk | hk | hk) <;> (rw [hk] at q11; revert q11; decide))
      refine V_aload_n (pc2 := 153) (dk D_X5_readStatement 34 rfl) rfl (V_lg 0 rfl) rfl ?_
      obtain ⟨e13, he14, hc15⟩ := h
      refine V_callV (as := []) (st := []) (M' := MX5_readSimple) (ci := 5) (pc2 := 156) (dk D_X5_readStatement 35 rfl) ml_5_144 mv_X5_readSimple rfl rfl (by decide) rfl (Nat.le_of_ble_eq_true rfl) rfl he14 h9 hc15 (RI.k fun y16 S17 h => ?_)
      obtain ⟨h18, h⟩ := h
      exact V_zreturn (dk D_X5_readStatement 36 rfl) rfl h18 h
    · have hx : (gI S7 (gR S7 r0 0) 7) = 204 := Int32.toInt_inj.mp (by rw [q11]; decide)
      have h := h.2.1 hx
      refine V_aload_n (pc2 := 126) (dk D_X5_readStatement 17 rfl) rfl (V_lg 0 rfl) rfl ?_
      refine V_iload_n (pc2 := 127) (dk D_X5_readStatement 18 rfl) rfl (V_lg 1 rfl) rfl ?_
      obtain ⟨e31, he32, hc33⟩ := h
      refine V_callV (as := [_]) (st := []) (M' := MX5_readWhile) (ci := 5) (pc2 := 130) (dk D_X5_readStatement 19 rfl) ml_5_129 mv_X5_readWhile rfl rfl (by decide) rfl (Nat.le_of_ble_eq_true rfl) rfl he32 h9 hc33 (RI.k fun y34 S35 h => ?_)
      obtain ⟨h36, h⟩ := h
      exact V_zreturn (dk D_X5_readStatement 20 rfl) rfl h36 h
    · have hx : (gI S7 (gR S7 r0 0) 7) = 205 := Int32.toInt_inj.mp (by rw [q11]; decide)
      have h := h.2.2.1 hx
      refine V_aload_n (pc2 := 138) (dk D_X5_readStatement 25 rfl) rfl (V_lg 0 rfl) rfl ?_
      obtain ⟨e37, he38, hc39⟩ := h
      refine V_callV (as := []) (st := []) (M' := MX5_readTry) (ci := 5) (pc2 := 141) (dk D_X5_readStatement 26 rfl) ml_5_135 mv_X5_readTry rfl rfl (by decide) rfl (Nat.le_of_ble_eq_true rfl) rfl he38 h9 hc39 (RI.k fun y40 S41 h => ?_)
      obtain ⟨h42, h⟩ := h
      exact V_zreturn (dk D_X5_readStatement 27 rfl) rfl h42 h
    · have h := h.2.2.2.2.2.2 (by rintro (hk | hk | hk | hk | hk | hk) <;> (rw [hk] at q11; revert q11; decide))
      refine V_aload_n (pc2 := 153) (dk D_X5_readStatement 34 rfl) rfl (V_lg 0 rfl) rfl ?_
      obtain ⟨e13, he14, hc15⟩ := h
      refine V_callV (as := []) (st := []) (M' := MX5_readSimple) (ci := 5) (pc2 := 156) (dk D_X5_readStatement 35 rfl) ml_5_144 mv_X5_readSimple rfl rfl (by decide) rfl (Nat.le_of_ble_eq_true rfl) rfl he14 h9 hc15 (RI.k fun y16 S17 h => ?_)
      obtain ⟨h18, h⟩ := h
      exact V_zreturn (dk D_X5_readStatement 36 rfl) rfl h18 h
    · have h := h.2.2.2.2.2.2 (by rintro (hk | hk | hk | hk | hk | hk) <;> (rw [hk] at q11; revert q11; decide))
      refine V_aload_n (pc2 := 153) (dk D_X5_readStatement 34 rfl) rfl (V_lg 0 rfl) rfl ?_
      obtain ⟨e13, he14, hc15⟩ := h
      refine V_callV (as := []) (st := []) (M' := MX5_readSimple) (ci := 5) (pc2 := 156) (dk D_X5_readStatement 35 rfl) ml_5_144 mv_X5_readSimple rfl rfl (by decide) rfl (Nat.le_of_ble_eq_true rfl) rfl he14 h9 hc15 (RI.k fun y16 S17 h => ?_)
      obtain ⟨h18, h⟩ := h
      exact V_zreturn (dk D_X5_readStatement 36 rfl) rfl h18 h
    · have hx : (gI S7 (gR S7 r0 0) 7) = 208 := Int32.toInt_inj.mp (by rw [q11]; decide)
      have h := h.2.2.2.1 hx
      refine V_aload_n (pc2 := 148) (dk D_X5_readStatement 31 rfl) rfl (V_lg 0 rfl) rfl ?_
      obtain ⟨e43, he44, hc45⟩ := h
      refine V_callV (as := []) (st := []) (M' := MX5_readThrow) (ci := 5) (pc2 := 151) (dk D_X5_readStatement 32 rfl) ml_5_141 mv_X5_readThrow rfl rfl (by decide) rfl (Nat.le_of_ble_eq_true rfl) rfl he44 h9 hc45 (RI.k fun y46 S47 h => ?_)
      obtain ⟨h48, h⟩ := h
      exact V_zreturn (dk D_X5_readStatement 33 rfl) rfl h48 h
    · have hx : (gI S7 (gR S7 r0 0) 7) = 209 := Int32.toInt_inj.mp (by rw [q11]; decide)
      have h := h.2.2.2.2.1 hx
      refine V_aload_n (pc2 := 143) (dk D_X5_readStatement 28 rfl) rfl (V_lg 0 rfl) rfl ?_
      obtain ⟨e49, he50, hc51⟩ := h
      refine V_callV (as := []) (st := []) (M' := MX5_readReturn) (ci := 5) (pc2 := 146) (dk D_X5_readStatement 29 rfl) ml_5_138 mv_X5_readReturn rfl rfl (by decide) rfl (Nat.le_of_ble_eq_true rfl) rfl he50 h9 hc51 (RI.k fun y52 S53 h => ?_)
      obtain ⟨h54, h⟩ := h
      exact V_zreturn (dk D_X5_readStatement 30 rfl) rfl h54 h
    · have h := h.2.2.2.2.2.2 (by rintro (hk | hk | hk | hk | hk | hk) <;> (rw [hk] at q11; revert q11; decide))
      refine V_aload_n (pc2 := 153) (dk D_X5_readStatement 34 rfl) rfl (V_lg 0 rfl) rfl ?_
      obtain ⟨e13, he14, hc15⟩ := h
      refine V_callV (as := []) (st := []) (M' := MX5_readSimple) (ci := 5) (pc2 := 156) (dk D_X5_readStatement 35 rfl) ml_5_144 mv_X5_readSimple rfl rfl (by decide) rfl (Nat.le_of_ble_eq_true rfl) rfl he14 h9 hc15 (RI.k fun y16 S17 h => ?_)
      obtain ⟨h18, h⟩ := h
      exact V_zreturn (dk D_X5_readStatement 36 rfl) rfl h18 h
    · have h := h.2.2.2.2.2.2 (by rintro (hk | hk | hk | hk | hk | hk) <;> (rw [hk] at q11; revert q11; decide))
      refine V_aload_n (pc2 := 153) (dk D_X5_readStatement 34 rfl) rfl (V_lg 0 rfl) rfl ?_
      obtain ⟨e13, he14, hc15⟩ := h
      refine V_callV (as := []) (st := []) (M' := MX5_readSimple) (ci := 5) (pc2 := 156) (dk D_X5_readStatement 35 rfl) ml_5_144 mv_X5_readSimple rfl rfl (by decide) rfl (Nat.le_of_ble_eq_true rfl) rfl he14 h9 hc15 (RI.k fun y16 S17 h => ?_)
      obtain ⟨h18, h⟩ := h
      exact V_zreturn (dk D_X5_readStatement 36 rfl) rfl h18 h
    · have h := h.2.2.2.2.2.2 (by rintro (hk | hk | hk | hk | hk | hk) <;> (rw [hk] at q11; revert q11; decide))
      refine V_aload_n (pc2 := 153) (dk D_X5_readStatement 34 rfl) rfl (V_lg 0 rfl) rfl ?_
      obtain ⟨e13, he14, hc15⟩ := h
      refine V_callV (as := []) (st := []) (M' := MX5_readSimple) (ci := 5) (pc2 := 156) (dk D_X5_readStatement 35 rfl) ml_5_144 mv_X5_readSimple rfl rfl (by decide) rfl (Nat.le_of_ble_eq_true rfl) rfl he14 h9 hc15 (RI.k fun y16 S17 h => ?_)
      obtain ⟨h18, h⟩ := h
      exact V_zreturn (dk D_X5_readStatement 36 rfl) rfl h18 h
    · have h := h.2.2.2.2.2.2 (by rintro (hk | hk | hk | hk | hk | hk) <;> (rw [hk] at q11; revert q11; decide))
      refine V_aload_n (pc2 := 153) (dk D_X5_readStatement 34 rfl) rfl (V_lg 0 rfl) rfl ?_
      obtain ⟨e13, he14, hc15⟩ := h
      refine V_callV (as := []) (st := []) (M' := MX5_readSimple) (ci := 5) (pc2 := 156) (dk D_X5_readStatement 35 rfl) ml_5_144 mv_X5_readSimple rfl rfl (by decide) rfl (Nat.le_of_ble_eq_true rfl) rfl he14 h9 hc15 (RI.k fun y16 S17 h => ?_)
      obtain ⟨h18, h⟩ := h
      exact V_zreturn (dk D_X5_readStatement 36 rfl) rfl h18 h
    · have h := h.2.2.2.2.2.2 (by rintro (hk | hk | hk | hk | hk | hk) <;> (rw [hk] at q11; revert q11; decide))
      refine V_aload_n (pc2 := 153) (dk D_X5_readStatement 34 rfl) rfl (V_lg 0 rfl) rfl ?_
      obtain ⟨e13, he14, hc15⟩ := h
      refine V_callV (as := []) (st := []) (M' := MX5_readSimple) (ci := 5) (pc2 := 156) (dk D_X5_readStatement 35 rfl) ml_5_144 mv_X5_readSimple rfl rfl (by decide) rfl (Nat.le_of_ble_eq_true rfl) rfl he14 h9 hc15 (RI.k fun y16 S17 h => ?_)
      obtain ⟨h18, h⟩ := h
      exact V_zreturn (dk D_X5_readStatement 36 rfl) rfl h18 h
    · have h := h.2.2.2.2.2.2 (by rintro (hk | hk | hk | hk | hk | hk) <;> (rw [hk] at q11; revert q11; decide))
      refine V_aload_n (pc2 := 153) (dk D_X5_readStatement 34 rfl) rfl (V_lg 0 rfl) rfl ?_
      obtain ⟨e13, he14, hc15⟩ := h
      refine V_callV (as := []) (st := []) (M' := MX5_readSimple) (ci := 5) (pc2 := 156) (dk D_X5_readStatement 35 rfl) ml_5_144 mv_X5_readSimple rfl rfl (by decide) rfl (Nat.le_of_ble_eq_true rfl) rfl he14 h9 hc15 (RI.k fun y16 S17 h => ?_)
      obtain ⟨h18, h⟩ := h
      exact V_zreturn (dk D_X5_readStatement 36 rfl) rfl h18 h
    · have h := h.2.2.2.2.2.2 (by rintro (hk | hk | hk | hk | hk | hk) <;> (rw [hk] at q11; revert q11; decide))
      refine V_aload_n (pc2 := 153) (dk D_X5_readStatement 34 rfl) rfl (V_lg 0 rfl) rfl ?_
      obtain ⟨e13, he14, hc15⟩ := h
      refine V_callV (as := []) (st := []) (M' := MX5_readSimple) (ci := 5) (pc2 := 156) (dk D_X5_readStatement 35 rfl) ml_5_144 mv_X5_readSimple rfl rfl (by decide) rfl (Nat.le_of_ble_eq_true rfl) rfl he14 h9 hc15 (RI.k fun y16 S17 h => ?_)
      obtain ⟨h18, h⟩ := h
      exact V_zreturn (dk D_X5_readStatement 36 rfl) rfl h18 h
    · have h := h.2.2.2.2.2.2 (by rintro (hk | hk | hk | hk | hk | hk) <;> (rw [hk] at q11; revert q11; decide))
      refine V_aload_n (pc2 := 153) (dk D_X5_readStatement 34 rfl) rfl (V_lg 0 rfl) rfl ?_
      obtain ⟨e13, he14, hc15⟩ := h
      refine V_callV (as := []) (st := []) (M' := MX5_readSimple) (ci := 5) (pc2 := 156) (dk D_X5_readStatement 35 rfl) ml_5_144 mv_X5_readSimple rfl rfl (by decide) rfl (Nat.le_of_ble_eq_true rfl) rfl he14 h9 hc15 (RI.k fun y16 S17 h => ?_)
      obtain ⟨h18, h⟩ := h
      exact V_zreturn (dk D_X5_readStatement 36 rfl) rfl h18 h
    · have h := h.2.2.2.2.2.2 (by rintro (hk | hk | hk | hk | hk | hk) <;> (rw [hk] at q11; revert q11; decide))
      refine V_aload_n (pc2 := 153) (dk D_X5_readStatement 34 rfl) rfl (V_lg 0 rfl) rfl ?_
      obtain ⟨e13, he14, hc15⟩ := h
      refine V_callV (as := []) (st := []) (M' := MX5_readSimple) (ci := 5) (pc2 := 156) (dk D_X5_readStatement 35 rfl) ml_5_144 mv_X5_readSimple rfl rfl (by decide) rfl (Nat.le_of_ble_eq_true rfl) rfl he14 h9 hc15 (RI.k fun y16 S17 h => ?_)
      obtain ⟨h18, h⟩ := h
      exact V_zreturn (dk D_X5_readStatement 36 rfl) rfl h18 h
    · have h := h.2.2.2.2.2.2 (by rintro (hk | hk | hk | hk | hk | hk) <;> (rw [hk] at q11; revert q11; decide))
      refine V_aload_n (pc2 := 153) (dk D_X5_readStatement 34 rfl) rfl (V_lg 0 rfl) rfl ?_
      obtain ⟨e13, he14, hc15⟩ := h
      refine V_callV (as := []) (st := []) (M' := MX5_readSimple) (ci := 5) (pc2 := 156) (dk D_X5_readStatement 35 rfl) ml_5_144 mv_X5_readSimple rfl rfl (by decide) rfl (Nat.le_of_ble_eq_true rfl) rfl he14 h9 hc15 (RI.k fun y16 S17 h => ?_)
      obtain ⟨h18, h⟩ := h
      exact V_zreturn (dk D_X5_readStatement 36 rfl) rfl h18 h
    · have h := h.2.2.2.2.2.2 (by rintro (hk | hk | hk | hk | hk | hk) <;> (rw [hk] at q11; revert q11; decide))
      refine V_aload_n (pc2 := 153) (dk D_X5_readStatement 34 rfl) rfl (V_lg 0 rfl) rfl ?_
      obtain ⟨e13, he14, hc15⟩ := h
      refine V_callV (as := []) (st := []) (M' := MX5_readSimple) (ci := 5) (pc2 := 156) (dk D_X5_readStatement 35 rfl) ml_5_144 mv_X5_readSimple rfl rfl (by decide) rfl (Nat.le_of_ble_eq_true rfl) rfl he14 h9 hc15 (RI.k fun y16 S17 h => ?_)
      obtain ⟨h18, h⟩ := h
      exact V_zreturn (dk D_X5_readStatement 36 rfl) rfl h18 h
    · have hx : (gI S7 (gR S7 r0 0) 7) = 221 := Int32.toInt_inj.mp (by rw [q11]; decide)
      have h := h.2.2.2.2.2.1 hx
      refine V_aload_n (pc2 := 132) (dk D_X5_readStatement 21 rfl) rfl (V_lg 0 rfl) rfl ?_
      refine V_iload_n (pc2 := 133) (dk D_X5_readStatement 22 rfl) rfl (V_lg 1 rfl) rfl ?_
      obtain ⟨e55, he56, hc57⟩ := h
      refine V_callV (as := [_]) (st := []) (M' := MX5_readEach) (ci := 5) (pc2 := 136) (dk D_X5_readStatement 23 rfl) ml_5_132 mv_X5_readEach rfl rfl (by decide) rfl (Nat.le_of_ble_eq_true rfl) rfl he56 h9 hc57 (RI.k fun y58 S59 h => ?_)
      obtain ⟨h60, h⟩ := h
      exact V_zreturn (dk D_X5_readStatement 24 rfl) rfl h60 h
def L_X5_readSimple : List (Nat × Instr × Nat) := [(0, .iconst 4, 1), (1, .istore_n 1, 1), (2, .iconst 0, 1), (3, .istore_n 2, 1), (4, .aload_n 0, 1), (5, .getfield 9, 3), (8, .getfield 41, 3), (11, .sipush 210, 3), (14, .if_icmp .eq 16, 3), (17, .aload_n 0, 1), (18, .getfield 9, 3), (21, .getfield 41, 3), (24, .sipush 215, 3), (27, .if_icmp .ne 34, 3), (30, .aload_n 0, 1), (31, .getfield 9, 3), (34, .getfield 41, 3), (37, .sipush 210, 3), (40, .if_icmp .ne 8, 3), (43, .bipush 21, 2), (45, .goto 5, 3), (48, .bipush 29, 2), (50, .istore_n 1, 1), (51, .aload_n 0, 1), (52, .getfield 9, 3), (55, .invokevirtual 77, 3), (58, .goto 47, 3), (61, .aload_n 0, 1), (62, .getfield 9, 3), (65, .getfield 41, 3), (68, .iconst 2, 1), (69, .if_icmp .ne 36, 3), (72, .aload_n 0, 1), (73, .getfield 9, 3), (76, .invokevirtual 147, 3), (79, .bipush 61, 2), (81, .if_icmp .ne 24, 3), (84, .iconst 3, 1), (85, .istore_n 1, 1), (86, .aload_n 0, 1), (87, .invokevirtual 150, 3), (90, .istore_n 2, 1), (91, .aload_n 0, 1), (92, .getfield 9, 3), (95, .invokevirtual 77, 3), (98, .aload_n 0, 1), (99, .getfield 9, 3), (102, .invokevirtual 77, 3), (105, .aload_n 0, 1), (106, .invokevirtual 153, 3), (109, .ifCond .eq 12, 3), (112, .aload_n 0, 1), (113, .bipush 59, 2), (115, .invokevirtual 156, 3), (118, .ifCond .ne 5, 3), (121, .iconst 0, 1), (122, .ireturn, 1), (123, .aload_n 0, 1), (124, .getfield 25, 3), (127, .iload_n 1, 1), (128, .iload_n 2, 1), (129, .invokevirtual 57, 3), (132, .pop, 1), (133, .iconst 1, 1), (134, .ireturn, 1)]
theorem D_X5_readSimple : dOk cX5_readSimple L_X5_readSimple = true := by decide +kernel
theorem w_X5_readSimple_0 {X : Cx} {d : Nat} {S : Mem} {Q : Res → Mem → Prop} (r0 : Nat) (h : (isK S r0 5) ∧ (isK S (gR S r0 0) 9) ∧ (((gI S (gR S r0 0) 7) = 210 → V X d MX5_readSimple 30 [(0, vR r0), (1, vI 4), (2, vI 0)] [] S Q) ∧ (¬ (gI S (gR S r0 0) 7) = 210 → ((¬ (gI S (gR S r0 0) 7) = 215 → ((¬ (gI S (gR S r0 0) 7) = 2 → V X d MX5_readSimple 105 [(0, vR r0), (1, vI 4), (2, vI 0)] [] S Q) ∧ ((gI S (gR S r0 0) 7) = 2 → ∃ e6 : Nat, e6 + 1 ≤ d ∧ C X e6 MX9_kindBehind [vR (gR S r0 0)] S (RI fun y9 S10 => ((¬ y9 = 61 → V X d MX5_readSimple 105 [(0, vR r0), (1, vI 4), (2, vI 0)] [] S10 Q) ∧ (y9 = 61 → (isK S10 r0 5) ∧ ∃ e12 : Nat, e12 + 1 ≤ d ∧ C X e12 MX5_declareHere [vR r0] S10 (RI fun y15 S16 => (isK S16 r0 5) ∧ (isK S16 (gR S16 r0 0) 9) ∧ ∃ e19 : Nat, e19 + 1 ≤ d ∧ C X e19 MX9_next [vR (gR S16 r0 0)] S16 (RV fun  S22 => (isK S22 r0 5) ∧ (isK S22 (gR S22 r0 0) 9) ∧ ∃ e25 : Nat, e25 + 1 ≤ d ∧ C X e25 MX9_next [vR (gR S22 r0 0)] S22 (RV fun  S28 => V X d MX5_readSimple 105 [(0, vR r0), (1, vI 3), (2, vI y15)] [] S28 Q))))))))) ∧ ((gI S (gR S r0 0) 7) = 215 → V X d MX5_readSimple 30 [(0, vR r0), (1, vI 4), (2, vI 0)] [] S Q))))) : V X d MX5_readSimple 0 [(0, vR r0)] [] S Q := by
  refine V_iconst (x := 4) (pc2 := 1) (dk D_X5_readSimple 0 rfl) (by decide) rfl ?_
  refine V_istore_n (pc2 := 2) (lv2 := [(0, _), (1, _)]) (dk D_X5_readSimple 1 rfl) rfl (by decide) rfl rfl ?_
  refine V_iconst (x := 0) (pc2 := 3) (dk D_X5_readSimple 2 rfl) (by decide) rfl ?_
  refine V_istore_n (pc2 := 4) (lv2 := [(0, _), (1, _), (2, _)]) (dk D_X5_readSimple 3 rfl) rfl (by decide) rfl rfl ?_
  refine V_aload_n (pc2 := 5) (dk D_X5_readSimple 4 rfl) rfl (V_lg 0 rfl) rfl ?_
  obtain ⟨h1, h⟩ := h
  refine V_getR kc5 (pc2 := 8) 0 (dk D_X5_readSimple 5 rfl) fl_5_9 (by decide) (fun _ => rfl) rfl h1 ?_
  obtain ⟨h2, h⟩ := h
  refine V_getI kc9 (pc2 := 11) 7 (dk D_X5_readSimple 6 rfl) fl_5_41 (by decide) (fun _ => rfl) rfl h2 ?_
  refine V_sipush (x := 210) (pc2 := 14) (dk D_X5_readSimple 7 rfl) (by decide) rfl ?_
  refine V_cmpeq (tgt := 30) (pc2 := 17) (dk D_X5_readSimple 8 rfl) (by decide) rfl (fun q3 => ?_) (fun q3 => ?_)
  · have h := h.1 q3
    exact h
  · have h := h.2 q3
    refine V_aload_n (pc2 := 18) (dk D_X5_readSimple 9 rfl) rfl (V_lg 0 rfl) rfl ?_
    refine V_getR kc5 (pc2 := 21) 0 (dk D_X5_readSimple 10 rfl) fl_5_9 (by decide) (fun _ => rfl) rfl h1 ?_
    refine V_getI kc9 (pc2 := 24) 7 (dk D_X5_readSimple 11 rfl) fl_5_41 (by decide) (fun _ => rfl) rfl h2 ?_
    refine V_sipush (x := 215) (pc2 := 27) (dk D_X5_readSimple 12 rfl) (by decide) rfl ?_
    refine V_cmpne (tgt := 61) (pc2 := 30) (dk D_X5_readSimple 13 rfl) (by decide) rfl (fun q4 => ?_) (fun q4 => ?_)
    · have h := h.1 q4
      refine V_aload_n (pc2 := 62) (dk D_X5_readSimple 27 rfl) rfl (V_lg 0 rfl) rfl ?_
      refine V_getR kc5 (pc2 := 65) 0 (dk D_X5_readSimple 28 rfl) fl_5_9 (by decide) (fun _ => rfl) rfl h1 ?_
      refine V_getI kc9 (pc2 := 68) 7 (dk D_X5_readSimple 29 rfl) fl_5_41 (by decide) (fun _ => rfl) rfl h2 ?_
      refine V_iconst (x := 2) (pc2 := 69) (dk D_X5_readSimple 30 rfl) (by decide) rfl ?_
      refine V_cmpne (tgt := 105) (pc2 := 72) (dk D_X5_readSimple 31 rfl) (by decide) rfl (fun q5 => ?_) (fun q5 => ?_)
      · have h := h.1 q5
        exact h
      · have h := h.2 q5
        refine V_aload_n (pc2 := 73) (dk D_X5_readSimple 32 rfl) rfl (V_lg 0 rfl) rfl ?_
        refine V_getR kc5 (pc2 := 76) 0 (dk D_X5_readSimple 33 rfl) fl_5_9 (by decide) (fun _ => rfl) rfl h1 ?_
        obtain ⟨e6, he7, hc8⟩ := h
        refine V_callV (as := []) (st := []) (M' := MX9_kindBehind) (ci := 9) (pc2 := 79) (dk D_X5_readSimple 34 rfl) ml_5_147 mv_X9_kindBehind rfl rfl (by decide) rfl (Nat.le_of_ble_eq_true rfl) rfl he7 h2 hc8 (RI.k fun y9 S10 h => ?_)
        refine V_bipush (x := 61) (pc2 := 81) (dk D_X5_readSimple 35 rfl) (by decide) rfl ?_
        refine V_cmpne (tgt := 105) (pc2 := 84) (dk D_X5_readSimple 36 rfl) (by decide) rfl (fun q11 => ?_) (fun q11 => ?_)
        · have h := h.1 q11
          exact h
        · have h := h.2 q11
          refine V_iconst (x := 3) (pc2 := 85) (dk D_X5_readSimple 37 rfl) (by decide) rfl ?_
          refine V_istore_n (pc2 := 86) (lv2 := [(0, _), (1, _), (2, _)]) (dk D_X5_readSimple 38 rfl) rfl (by decide) rfl rfl ?_
          refine V_aload_n (pc2 := 87) (dk D_X5_readSimple 39 rfl) rfl (V_lg 0 rfl) rfl ?_
          obtain ⟨h17, h⟩ := h
          obtain ⟨e12, he13, hc14⟩ := h
          refine V_callV (as := []) (st := []) (M' := MX5_declareHere) (ci := 5) (pc2 := 90) (dk D_X5_readSimple 40 rfl) ml_5_150 mv_X5_declareHere rfl rfl (by decide) rfl (Nat.le_of_ble_eq_true rfl) rfl he13 h17 hc14 (RI.k fun y15 S16 h => ?_)
          refine V_istore_n (pc2 := 91) (lv2 := [(0, _), (1, _), (2, _)]) (dk D_X5_readSimple 41 rfl) rfl (by decide) rfl rfl ?_
          refine V_aload_n (pc2 := 92) (dk D_X5_readSimple 42 rfl) rfl (V_lg 0 rfl) rfl ?_
          obtain ⟨h18, h⟩ := h
          refine V_getR kc5 (pc2 := 95) 0 (dk D_X5_readSimple 43 rfl) fl_5_9 (by decide) (fun _ => rfl) rfl h18 ?_
          obtain ⟨h23, h⟩ := h
          obtain ⟨e19, he20, hc21⟩ := h
          refine V_callV (as := []) (st := []) (M' := MX9_next) (ci := 9) (pc2 := 98) (dk D_X5_readSimple 44 rfl) ml_5_77 mv_X9_next rfl rfl (by decide) rfl (Nat.le_of_ble_eq_true rfl) rfl he20 h23 hc21 (RV.k fun  S22 h => ?_)
          refine V_aload_n (pc2 := 99) (dk D_X5_readSimple 45 rfl) rfl (V_lg 0 rfl) rfl ?_
          obtain ⟨h24, h⟩ := h
          refine V_getR kc5 (pc2 := 102) 0 (dk D_X5_readSimple 46 rfl) fl_5_9 (by decide) (fun _ => rfl) rfl h24 ?_
          obtain ⟨h29, h⟩ := h
          obtain ⟨e25, he26, hc27⟩ := h
          refine V_callV (as := []) (st := []) (M' := MX9_next) (ci := 9) (pc2 := 105) (dk D_X5_readSimple 47 rfl) ml_5_77 mv_X9_next rfl rfl (by decide) rfl (Nat.le_of_ble_eq_true rfl) rfl he26 h29 hc27 (RV.k fun  S28 h => ?_)
          exact h
    · have h := h.2 q4
      exact h
theorem w_X5_readSimple_30 {X : Cx} {d : Nat} {S : Mem} {Q : Res → Mem → Prop} (r0 : Nat) (x1 : Int32) (x2 : Int32) (h : (isK S r0 5) ∧ (isK S (gR S r0 0) 9) ∧ ((¬ (gI S (gR S r0 0) 7) = 210 → V X d MX5_readSimple 50 [(0, vR r0), (1, vI x1), (2, vI x2)] [vI 29] S Q) ∧ ((gI S (gR S r0 0) 7) = 210 → V X d MX5_readSimple 50 [(0, vR r0), (1, vI x1), (2, vI x2)] [vI 21] S Q))) : V X d MX5_readSimple 30 [(0, vR r0), (1, vI x1), (2, vI x2)] [] S Q := by
  refine V_aload_n (pc2 := 31) (dk D_X5_readSimple 14 rfl) rfl (V_lg 0 rfl) rfl ?_
  obtain ⟨h1, h⟩ := h
  refine V_getR kc5 (pc2 := 34) 0 (dk D_X5_readSimple 15 rfl) fl_5_9 (by decide) (fun _ => rfl) rfl h1 ?_
  obtain ⟨h2, h⟩ := h
  refine V_getI kc9 (pc2 := 37) 7 (dk D_X5_readSimple 16 rfl) fl_5_41 (by decide) (fun _ => rfl) rfl h2 ?_
  refine V_sipush (x := 210) (pc2 := 40) (dk D_X5_readSimple 17 rfl) (by decide) rfl ?_
  refine V_cmpne (tgt := 48) (pc2 := 43) (dk D_X5_readSimple 18 rfl) (by decide) rfl (fun q3 => ?_) (fun q3 => ?_)
  · have h := h.1 q3
    refine V_bipush (x := 29) (pc2 := 50) (dk D_X5_readSimple 21 rfl) (by decide) rfl ?_
    exact h
  · have h := h.2 q3
    refine V_bipush (x := 21) (pc2 := 45) (dk D_X5_readSimple 19 rfl) (by decide) rfl ?_
    refine V_goto (tgt := 50) (dk D_X5_readSimple 20 rfl) (by decide) ?_
    exact h
theorem w_X5_readSimple_50 {X : Cx} {d : Nat} {S : Mem} {Q : Res → Mem → Prop} (r0 : Nat) (x1 : Int32) (x2 : Int32) (t0 : Int32) (h : (isK S r0 5) ∧ (isK S (gR S r0 0) 9) ∧ ∃ e2 : Nat, e2 + 1 ≤ d ∧ C X e2 MX9_next [vR (gR S r0 0)] S (RV fun  S5 => V X d MX5_readSimple 105 [(0, vR r0), (1, vI t0), (2, vI x2)] [] S5 Q)) : V X d MX5_readSimple 50 [(0, vR r0), (1, vI x1), (2, vI x2)] [vI t0] S Q := by
  refine V_istore_n (pc2 := 51) (lv2 := [(0, _), (1, _), (2, _)]) (dk D_X5_readSimple 22 rfl) rfl (by decide) rfl rfl ?_
  refine V_aload_n (pc2 := 52) (dk D_X5_readSimple 23 rfl) rfl (V_lg 0 rfl) rfl ?_
  obtain ⟨h1, h⟩ := h
  refine V_getR kc5 (pc2 := 55) 0 (dk D_X5_readSimple 24 rfl) fl_5_9 (by decide) (fun _ => rfl) rfl h1 ?_
  obtain ⟨h6, h⟩ := h
  obtain ⟨e2, he3, hc4⟩ := h
  refine V_callV (as := []) (st := []) (M' := MX9_next) (ci := 9) (pc2 := 58) (dk D_X5_readSimple 25 rfl) ml_5_77 mv_X9_next rfl rfl (by decide) rfl (Nat.le_of_ble_eq_true rfl) rfl he3 h6 hc4 (RV.k fun  S5 h => ?_)
  refine V_goto (tgt := 105) (dk D_X5_readSimple 26 rfl) (by decide) ?_
  exact h
theorem w_X5_readSimple_105 {X : Cx} {d : Nat} {S : Mem} {Q : Res → Mem → Prop} (r0 : Nat) (x1 : Int32) (x2 : Int32) (h : (isK S r0 5) ∧ ∃ e1 : Nat, e1 + 1 ≤ d ∧ C X e1 MX5_readComparison [vR r0] S (RI fun y4 S5 => ((y4 = 0 → V X d MX5_readSimple 121 [(0, vR r0), (1, vI x1), (2, vI x2)] [] S5 Q) ∧ (¬ y4 = 0 → (isK S5 r0 5) ∧ ∃ e8 : Nat, e8 + 1 ≤ d ∧ C X e8 MX5_take [vR r0, vI 59] S5 (RI fun y11 S12 => ((¬ y11 = 0 → (isK S12 r0 5) ∧ (isK S12 (gR S12 r0 2) 1) ∧ ∃ e16 : Nat, e16 + 1 ≤ d ∧ C X e16 MX1_add [vR (gR S12 r0 2), vI x1, vI x2] S12 (RI fun y19 S20 => Q (.inl (some (vI 1))) S20)) ∧ (y11 = 0 → V X d MX5_readSimple 121 [(0, vR r0), (1, vI x1), (2, vI x2)] [] S12 Q))))))) : V X d MX5_readSimple 105 [(0, vR r0), (1, vI x1), (2, vI x2)] [] S Q := by
  refine V_aload_n (pc2 := 106) (dk D_X5_readSimple 48 rfl) rfl (V_lg 0 rfl) rfl ?_
  obtain ⟨h6, h⟩ := h
  obtain ⟨e1, he2, hc3⟩ := h
  refine V_callV (as := []) (st := []) (M' := MX5_readComparison) (ci := 5) (pc2 := 109) (dk D_X5_readSimple 49 rfl) ml_5_153 mv_X5_readComparison rfl rfl (by decide) rfl (Nat.le_of_ble_eq_true rfl) rfl he2 h6 hc3 (RI.k fun y4 S5 h => ?_)
  refine V_ifeq (tgt := 121) (pc2 := 112) (dk D_X5_readSimple 50 rfl) (by decide) rfl (fun q7 => ?_) (fun q7 => ?_)
  · have h := h.1 q7
    exact h
  · have h := h.2 q7
    refine V_aload_n (pc2 := 113) (dk D_X5_readSimple 51 rfl) rfl (V_lg 0 rfl) rfl ?_
    refine V_bipush (x := 59) (pc2 := 115) (dk D_X5_readSimple 52 rfl) (by decide) rfl ?_
    obtain ⟨h13, h⟩ := h
    obtain ⟨e8, he9, hc10⟩ := h
    refine V_callV (as := [_]) (st := []) (M' := MX5_take) (ci := 5) (pc2 := 118) (dk D_X5_readSimple 53 rfl) ml_5_156 mv_X5_take rfl rfl (by decide) rfl (Nat.le_of_ble_eq_true rfl) rfl he9 h13 hc10 (RI.k fun y11 S12 h => ?_)
    refine V_ifne (tgt := 123) (pc2 := 121) (dk D_X5_readSimple 54 rfl) (by decide) rfl (fun q14 => ?_) (fun q14 => ?_)
    · have h := h.1 q14
      refine V_aload_n (pc2 := 124) (dk D_X5_readSimple 57 rfl) rfl (V_lg 0 rfl) rfl ?_
      obtain ⟨h15, h⟩ := h
      refine V_getR kc5 (pc2 := 127) 2 (dk D_X5_readSimple 58 rfl) fl_5_25 (by decide) (fun _ => rfl) rfl h15 ?_
      refine V_iload_n (pc2 := 128) (dk D_X5_readSimple 59 rfl) rfl (V_lg 1 rfl) rfl ?_
      refine V_iload_n (pc2 := 129) (dk D_X5_readSimple 60 rfl) rfl (V_lg 2 rfl) rfl ?_
      obtain ⟨h21, h⟩ := h
      obtain ⟨e16, he17, hc18⟩ := h
      refine V_callV (as := [_, _]) (st := []) (M' := MX1_add) (ci := 1) (pc2 := 132) (dk D_X5_readSimple 61 rfl) ml_5_57 mv_X1_add rfl rfl (by decide) rfl (Nat.le_of_ble_eq_true rfl) rfl he17 h21 hc18 (RI.k fun y19 S20 h => ?_)
      refine V_pop (pc2 := 133) (dk D_X5_readSimple 62 rfl) rfl rfl ?_
      refine V_iconst (x := 1) (pc2 := 134) (dk D_X5_readSimple 63 rfl) (by decide) rfl ?_
      exact V_zreturn (dk D_X5_readSimple 64 rfl) rfl (Or.inr rfl) h
    · have h := h.2 q14
      exact h
theorem w_X5_readSimple_121 {X : Cx} {d : Nat} {S : Mem} {Q : Res → Mem → Prop} (r0 : Nat) (x1 : Int32) (x2 : Int32) (h : Q (.inl (some (vI 0))) S) : V X d MX5_readSimple 121 [(0, vR r0), (1, vI x1), (2, vI x2)] [] S Q := by
  refine V_iconst (x := 0) (pc2 := 122) (dk D_X5_readSimple 55 rfl) (by decide) rfl ?_
  exact V_zreturn (dk D_X5_readSimple 56 rfl) rfl (Or.inl rfl) h
def L_X5_readReturn : List (Nat × Instr × Nat) := [(0, .aload_n 0, 1), (1, .getfield 9, 3), (4, .invokevirtual 77, 3), (7, .aload_n 0, 1), (8, .getfield 9, 3), (11, .getfield 41, 3), (14, .bipush 59, 2), (16, .if_icmp .ne 16, 3), (19, .aload_n 0, 1), (20, .getfield 25, 3), (23, .iconst 1, 1), (24, .iconst 0, 1), (25, .invokevirtual 57, 3), (28, .pop, 1), (29, .goto 12, 3), (32, .aload_n 0, 1), (33, .invokevirtual 153, 3), (36, .ifCond .ne 5, 3), (39, .iconst 0, 1), (40, .ireturn, 1), (41, .aload_n 0, 1), (42, .getfield 25, 3), (45, .bipush 46, 2), (47, .iconst 0, 1), (48, .invokevirtual 57, 3), (51, .pop, 1), (52, .aload_n 0, 1), (53, .bipush 59, 2), (55, .invokevirtual 156, 3), (58, .ireturn, 1)]
theorem D_X5_readReturn : dOk cX5_readReturn L_X5_readReturn = true := by decide +kernel
theorem w_X5_readReturn_0 {X : Cx} {d : Nat} {S : Mem} {Q : Res → Mem → Prop} (r0 : Nat) (h : (isK S r0 5) ∧ (isK S (gR S r0 0) 9) ∧ ∃ e2 : Nat, e2 + 1 ≤ d ∧ C X e2 MX9_next [vR (gR S r0 0)] S (RV fun  S5 => (isK S5 r0 5) ∧ (isK S5 (gR S5 r0 0) 9) ∧ ((¬ (gI S5 (gR S5 r0 0) 7) = 59 → ∃ e10 : Nat, e10 + 1 ≤ d ∧ C X e10 MX5_readComparison [vR r0] S5 (RI fun y13 S14 => ((¬ y13 = 0 → V X d MX5_readReturn 41 [(0, vR r0)] [] S14 Q) ∧ (y13 = 0 → Q (.inl (some (vI 0))) S14)))) ∧ ((gI S5 (gR S5 r0 0) 7) = 59 → (isK S5 (gR S5 r0 2) 1) ∧ ∃ e16 : Nat, e16 + 1 ≤ d ∧ C X e16 MX1_add [vR (gR S5 r0 2), vI 1, vI 0] S5 (RI fun y19 S20 => V X d MX5_readReturn 41 [(0, vR r0)] [] S20 Q))))) : V X d MX5_readReturn 0 [(0, vR r0)] [] S Q := by
  refine V_aload_n (pc2 := 1) (dk D_X5_readReturn 0 rfl) rfl (V_lg 0 rfl) rfl ?_
  obtain ⟨h1, h⟩ := h
  refine V_getR kc5 (pc2 := 4) 0 (dk D_X5_readReturn 1 rfl) fl_5_9 (by decide) (fun _ => rfl) rfl h1 ?_
  obtain ⟨h6, h⟩ := h
  obtain ⟨e2, he3, hc4⟩ := h
  refine V_callV (as := []) (st := []) (M' := MX9_next) (ci := 9) (pc2 := 7) (dk D_X5_readReturn 2 rfl) ml_5_77 mv_X9_next rfl rfl (by decide) rfl (Nat.le_of_ble_eq_true rfl) rfl he3 h6 hc4 (RV.k fun  S5 h => ?_)
  refine V_aload_n (pc2 := 8) (dk D_X5_readReturn 3 rfl) rfl (V_lg 0 rfl) rfl ?_
  obtain ⟨h7, h⟩ := h
  refine V_getR kc5 (pc2 := 11) 0 (dk D_X5_readReturn 4 rfl) fl_5_9 (by decide) (fun _ => rfl) rfl h7 ?_
  obtain ⟨h8, h⟩ := h
  refine V_getI kc9 (pc2 := 14) 7 (dk D_X5_readReturn 5 rfl) fl_5_41 (by decide) (fun _ => rfl) rfl h8 ?_
  refine V_bipush (x := 59) (pc2 := 16) (dk D_X5_readReturn 6 rfl) (by decide) rfl ?_
  refine V_cmpne (tgt := 32) (pc2 := 19) (dk D_X5_readReturn 7 rfl) (by decide) rfl (fun q9 => ?_) (fun q9 => ?_)
  · have h := h.1 q9
    refine V_aload_n (pc2 := 33) (dk D_X5_readReturn 15 rfl) rfl (V_lg 0 rfl) rfl ?_
    obtain ⟨e10, he11, hc12⟩ := h
    refine V_callV (as := []) (st := []) (M' := MX5_readComparison) (ci := 5) (pc2 := 36) (dk D_X5_readReturn 16 rfl) ml_5_153 mv_X5_readComparison rfl rfl (by decide) rfl (Nat.le_of_ble_eq_true rfl) rfl he11 h7 hc12 (RI.k fun y13 S14 h => ?_)
    refine V_ifne (tgt := 41) (pc2 := 39) (dk D_X5_readReturn 17 rfl) (by decide) rfl (fun q15 => ?_) (fun q15 => ?_)
    · have h := h.1 q15
      exact h
    · have h := h.2 q15
      refine V_iconst (x := 0) (pc2 := 40) (dk D_X5_readReturn 18 rfl) (by decide) rfl ?_
      exact V_zreturn (dk D_X5_readReturn 19 rfl) rfl (Or.inl rfl) h
  · have h := h.2 q9
    refine V_aload_n (pc2 := 20) (dk D_X5_readReturn 8 rfl) rfl (V_lg 0 rfl) rfl ?_
    refine V_getR kc5 (pc2 := 23) 2 (dk D_X5_readReturn 9 rfl) fl_5_25 (by decide) (fun _ => rfl) rfl h7 ?_
    refine V_iconst (x := 1) (pc2 := 24) (dk D_X5_readReturn 10 rfl) (by decide) rfl ?_
    refine V_iconst (x := 0) (pc2 := 25) (dk D_X5_readReturn 11 rfl) (by decide) rfl ?_
    obtain ⟨h21, h⟩ := h
    obtain ⟨e16, he17, hc18⟩ := h
    refine V_callV (as := [_, _]) (st := []) (M' := MX1_add) (ci := 1) (pc2 := 28) (dk D_X5_readReturn 12 rfl) ml_5_57 mv_X1_add rfl rfl (by decide) rfl (Nat.le_of_ble_eq_true rfl) rfl he17 h21 hc18 (RI.k fun y19 S20 h => ?_)
    refine V_pop (pc2 := 29) (dk D_X5_readReturn 13 rfl) rfl rfl ?_
    refine V_goto (tgt := 41) (dk D_X5_readReturn 14 rfl) (by decide) ?_
    exact h
theorem w_X5_readReturn_41 {X : Cx} {d : Nat} {S : Mem} {Q : Res → Mem → Prop} (r0 : Nat) (h : (isK S r0 5) ∧ (isK S (gR S r0 2) 1) ∧ ∃ e2 : Nat, e2 + 1 ≤ d ∧ C X e2 MX1_add [vR (gR S r0 2), vI 46, vI 0] S (RI fun y5 S6 => (isK S6 r0 5) ∧ ∃ e8 : Nat, e8 + 1 ≤ d ∧ C X e8 MX5_take [vR r0, vI 59] S6 (RI fun y11 S12 => (y11 = 0 ∨ y11 = 1) ∧ Q (.inl (some (vI y11))) S12))) : V X d MX5_readReturn 41 [(0, vR r0)] [] S Q := by
  refine V_aload_n (pc2 := 42) (dk D_X5_readReturn 20 rfl) rfl (V_lg 0 rfl) rfl ?_
  obtain ⟨h1, h⟩ := h
  refine V_getR kc5 (pc2 := 45) 2 (dk D_X5_readReturn 21 rfl) fl_5_25 (by decide) (fun _ => rfl) rfl h1 ?_
  refine V_bipush (x := 46) (pc2 := 47) (dk D_X5_readReturn 22 rfl) (by decide) rfl ?_
  refine V_iconst (x := 0) (pc2 := 48) (dk D_X5_readReturn 23 rfl) (by decide) rfl ?_
  obtain ⟨h7, h⟩ := h
  obtain ⟨e2, he3, hc4⟩ := h
  refine V_callV (as := [_, _]) (st := []) (M' := MX1_add) (ci := 1) (pc2 := 51) (dk D_X5_readReturn 24 rfl) ml_5_57 mv_X1_add rfl rfl (by decide) rfl (Nat.le_of_ble_eq_true rfl) rfl he3 h7 hc4 (RI.k fun y5 S6 h => ?_)
  refine V_pop (pc2 := 52) (dk D_X5_readReturn 25 rfl) rfl rfl ?_
  refine V_aload_n (pc2 := 53) (dk D_X5_readReturn 26 rfl) rfl (V_lg 0 rfl) rfl ?_
  refine V_bipush (x := 59) (pc2 := 55) (dk D_X5_readReturn 27 rfl) (by decide) rfl ?_
  obtain ⟨h13, h⟩ := h
  obtain ⟨e8, he9, hc10⟩ := h
  refine V_callV (as := [_]) (st := []) (M' := MX5_take) (ci := 5) (pc2 := 58) (dk D_X5_readReturn 28 rfl) ml_5_156 mv_X5_take rfl rfl (by decide) rfl (Nat.le_of_ble_eq_true rfl) rfl he9 h13 hc10 (RI.k fun y11 S12 h => ?_)
  obtain ⟨h14, h⟩ := h
  exact V_zreturn (dk D_X5_readReturn 29 rfl) rfl h14 h
def L_X5_readThrow : List (Nat × Instr × Nat) := [(0, .aload_n 0, 1), (1, .getfield 9, 3), (4, .invokevirtual 77, 3), (7, .aload_n 0, 1), (8, .invokevirtual 159, 3), (11, .ifCond .ne 5, 3), (14, .iconst 0, 1), (15, .ireturn, 1), (16, .aload_n 0, 1), (17, .invokevirtual 162, 3), (20, .bipush 10, 2), (22, .irem, 1), (23, .istore_n 1, 1), (24, .aload_n 0, 1), (25, .getfield 9, 3), (28, .invokevirtual 77, 3), (31, .aload_n 0, 1), (32, .invokevirtual 153, 3), (35, .ifCond .ne 5, 3), (38, .iconst 0, 1), (39, .ireturn, 1), (40, .aload_n 0, 1), (41, .getfield 25, 3), (44, .bipush 47, 2), (46, .iload_n 1, 1), (47, .invokevirtual 57, 3), (50, .pop, 1), (51, .aload_n 0, 1), (52, .bipush 59, 2), (54, .invokevirtual 156, 3), (57, .ireturn, 1)]
theorem D_X5_readThrow : dOk cX5_readThrow L_X5_readThrow = true := by decide +kernel
theorem w_X5_readThrow_0 {X : Cx} {d : Nat} {S : Mem} {Q : Res → Mem → Prop} (r0 : Nat) (h : (isK S r0 5) ∧ (isK S (gR S r0 0) 9) ∧ ∃ e2 : Nat, e2 + 1 ≤ d ∧ C X e2 MX9_next [vR (gR S r0 0)] S (RV fun  S5 => (isK S5 r0 5) ∧ ∃ e7 : Nat, e7 + 1 ≤ d ∧ C X e7 MX5_isNumber [vR r0] S5 (RI fun y10 S11 => ((¬ y10 = 0 → (isK S11 r0 5) ∧ ∃ e14 : Nat, e14 + 1 ≤ d ∧ C X e14 MX5_numberHere [vR r0] S11 (RI fun y17 S18 => (isK S18 r0 5) ∧ (isK S18 (gR S18 r0 0) 9) ∧ ∃ e21 : Nat, e21 + 1 ≤ d ∧ C X e21 MX9_next [vR (gR S18 r0 0)] S18 (RV fun  S24 => (isK S24 r0 5) ∧ ∃ e26 : Nat, e26 + 1 ≤ d ∧ C X e26 MX5_readComparison [vR r0] S24 (RI fun y29 S30 => ((¬ y29 = 0 → (isK S30 r0 5) ∧ (isK S30 (gR S30 r0 2) 1) ∧ ∃ e34 : Nat, e34 + 1 ≤ d ∧ C X e34 MX1_add [vR (gR S30 r0 2), vI 47, vI (y17 - y17 / 10 * 10)] S30 (RI fun y37 S38 => (isK S38 r0 5) ∧ ∃ e40 : Nat, e40 + 1 ≤ d ∧ C X e40 MX5_take [vR r0, vI 59] S38 (RI fun y43 S44 => (y43 = 0 ∨ y43 = 1) ∧ Q (.inl (some (vI y43))) S44))) ∧ (y29 = 0 → Q (.inl (some (vI 0))) S30)))))) ∧ (y10 = 0 → Q (.inl (some (vI 0))) S11))))) : V X d MX5_readThrow 0 [(0, vR r0)] [] S Q := by
  refine V_aload_n (pc2 := 1) (dk D_X5_readThrow 0 rfl) rfl (V_lg 0 rfl) rfl ?_
  obtain ⟨h1, h⟩ := h
  refine V_getR kc5 (pc2 := 4) 0 (dk D_X5_readThrow 1 rfl) fl_5_9 (by decide) (fun _ => rfl) rfl h1 ?_
  obtain ⟨h6, h⟩ := h
  obtain ⟨e2, he3, hc4⟩ := h
  refine V_callV (as := []) (st := []) (M' := MX9_next) (ci := 9) (pc2 := 7) (dk D_X5_readThrow 2 rfl) ml_5_77 mv_X9_next rfl rfl (by decide) rfl (Nat.le_of_ble_eq_true rfl) rfl he3 h6 hc4 (RV.k fun  S5 h => ?_)
  refine V_aload_n (pc2 := 8) (dk D_X5_readThrow 3 rfl) rfl (V_lg 0 rfl) rfl ?_
  obtain ⟨h12, h⟩ := h
  obtain ⟨e7, he8, hc9⟩ := h
  refine V_callV (as := []) (st := []) (M' := MX5_isNumber) (ci := 5) (pc2 := 11) (dk D_X5_readThrow 4 rfl) ml_5_159 mv_X5_isNumber rfl rfl (by decide) rfl (Nat.le_of_ble_eq_true rfl) rfl he8 h12 hc9 (RI.k fun y10 S11 h => ?_)
  refine V_ifne (tgt := 16) (pc2 := 14) (dk D_X5_readThrow 5 rfl) (by decide) rfl (fun q13 => ?_) (fun q13 => ?_)
  · have h := h.1 q13
    refine V_aload_n (pc2 := 17) (dk D_X5_readThrow 8 rfl) rfl (V_lg 0 rfl) rfl ?_
    obtain ⟨h19, h⟩ := h
    obtain ⟨e14, he15, hc16⟩ := h
    refine V_callV (as := []) (st := []) (M' := MX5_numberHere) (ci := 5) (pc2 := 20) (dk D_X5_readThrow 9 rfl) ml_5_162 mv_X5_numberHere rfl rfl (by decide) rfl (Nat.le_of_ble_eq_true rfl) rfl he15 h19 hc16 (RI.k fun y17 S18 h => ?_)
    refine V_bipush (x := 10) (pc2 := 22) (dk D_X5_readThrow 10 rfl) (by decide) rfl ?_
    refine V_irem (pc2 := 23) (dk D_X5_readThrow 11 rfl) rfl (by decide) ?_
    refine V_istore_n (pc2 := 24) (lv2 := [(0, _), (1, _)]) (dk D_X5_readThrow 12 rfl) rfl (by decide) rfl rfl ?_
    refine V_aload_n (pc2 := 25) (dk D_X5_readThrow 13 rfl) rfl (V_lg 0 rfl) rfl ?_
    obtain ⟨h20, h⟩ := h
    refine V_getR kc5 (pc2 := 28) 0 (dk D_X5_readThrow 14 rfl) fl_5_9 (by decide) (fun _ => rfl) rfl h20 ?_
    obtain ⟨h25, h⟩ := h
    obtain ⟨e21, he22, hc23⟩ := h
    refine V_callV (as := []) (st := []) (M' := MX9_next) (ci := 9) (pc2 := 31) (dk D_X5_readThrow 15 rfl) ml_5_77 mv_X9_next rfl rfl (by decide) rfl (Nat.le_of_ble_eq_true rfl) rfl he22 h25 hc23 (RV.k fun  S24 h => ?_)
    refine V_aload_n (pc2 := 32) (dk D_X5_readThrow 16 rfl) rfl (V_lg 0 rfl) rfl ?_
    obtain ⟨h31, h⟩ := h
    obtain ⟨e26, he27, hc28⟩ := h
    refine V_callV (as := []) (st := []) (M' := MX5_readComparison) (ci := 5) (pc2 := 35) (dk D_X5_readThrow 17 rfl) ml_5_153 mv_X5_readComparison rfl rfl (by decide) rfl (Nat.le_of_ble_eq_true rfl) rfl he27 h31 hc28 (RI.k fun y29 S30 h => ?_)
    refine V_ifne (tgt := 40) (pc2 := 38) (dk D_X5_readThrow 18 rfl) (by decide) rfl (fun q32 => ?_) (fun q32 => ?_)
    · have h := h.1 q32
      refine V_aload_n (pc2 := 41) (dk D_X5_readThrow 21 rfl) rfl (V_lg 0 rfl) rfl ?_
      obtain ⟨h33, h⟩ := h
      refine V_getR kc5 (pc2 := 44) 2 (dk D_X5_readThrow 22 rfl) fl_5_25 (by decide) (fun _ => rfl) rfl h33 ?_
      refine V_bipush (x := 47) (pc2 := 46) (dk D_X5_readThrow 23 rfl) (by decide) rfl ?_
      refine V_iload_n (pc2 := 47) (dk D_X5_readThrow 24 rfl) rfl (V_lg 1 rfl) rfl ?_
      obtain ⟨h39, h⟩ := h
      obtain ⟨e34, he35, hc36⟩ := h
      refine V_callV (as := [_, _]) (st := []) (M' := MX1_add) (ci := 1) (pc2 := 50) (dk D_X5_readThrow 25 rfl) ml_5_57 mv_X1_add rfl rfl (by decide) rfl (Nat.le_of_ble_eq_true rfl) rfl he35 h39 hc36 (RI.k fun y37 S38 h => ?_)
      refine V_pop (pc2 := 51) (dk D_X5_readThrow 26 rfl) rfl rfl ?_
      refine V_aload_n (pc2 := 52) (dk D_X5_readThrow 27 rfl) rfl (V_lg 0 rfl) rfl ?_
      refine V_bipush (x := 59) (pc2 := 54) (dk D_X5_readThrow 28 rfl) (by decide) rfl ?_
      obtain ⟨h45, h⟩ := h
      obtain ⟨e40, he41, hc42⟩ := h
      refine V_callV (as := [_]) (st := []) (M' := MX5_take) (ci := 5) (pc2 := 57) (dk D_X5_readThrow 29 rfl) ml_5_156 mv_X5_take rfl rfl (by decide) rfl (Nat.le_of_ble_eq_true rfl) rfl he41 h45 hc42 (RI.k fun y43 S44 h => ?_)
      obtain ⟨h46, h⟩ := h
      exact V_zreturn (dk D_X5_readThrow 30 rfl) rfl h46 h
    · have h := h.2 q32
      refine V_iconst (x := 0) (pc2 := 39) (dk D_X5_readThrow 19 rfl) (by decide) rfl ?_
      exact V_zreturn (dk D_X5_readThrow 20 rfl) rfl (Or.inl rfl) h
  · have h := h.2 q13
    refine V_iconst (x := 0) (pc2 := 15) (dk D_X5_readThrow 6 rfl) (by decide) rfl ?_
    exact V_zreturn (dk D_X5_readThrow 7 rfl) rfl (Or.inl rfl) h
def L_X5_declareHere : List (Nat × Instr × Nat) := [(0, .aload_n 0, 1), (1, .getfield 51, 3), (4, .aload_n 0, 1), (5, .getfield 9, 3), (8, .aload_n 0, 1), (9, .getfield 9, 3), (12, .invokevirtual 80, 3), (15, .invokevirtual 83, 3), (18, .aload_n 0, 1), (19, .getfield 9, 3), (22, .getfield 70, 3), (25, .invokevirtual 116, 3), (28, .iconst (-1), 1), (29, .aload_n 0, 1), (30, .getfield 9, 3), (33, .invokevirtual 80, 3), (36, .isub, 1), (37, .ireturn, 1)]
theorem D_X5_declareHere : dOk cX5_declareHere L_X5_declareHere = true := by decide +kernel
theorem w_X5_declareHere_0 {X : Cx} {d : Nat} {S : Mem} {Q : Res → Mem → Prop} (r0 : Nat) (h : (isK S r0 5) ∧ (isK S (gR S r0 0) 9) ∧ ∃ e2 : Nat, e2 + 1 ≤ d ∧ C X e2 MX9_index [vR (gR S r0 0)] S (RI fun y5 S6 => (isK S6 (gR S r0 0) 9) ∧ ∃ e8 : Nat, e8 + 1 ≤ d ∧ C X e8 MX9_valueOf [vR (gR S r0 0), vI y5] S6 (RJ fun w11 S12 => (isK S12 r0 5) ∧ (isK S12 (gR S12 r0 0) 9) ∧ (isK S12 (gR S r0 3) 0) ∧ ∃ e16 : Nat, e16 + 1 ≤ d ∧ C X e16 MX0_declare [vR (gR S r0 3), vL w11, vI (gI S12 (gR S12 r0 0) 8)] S12 (RV fun  S19 => (isK S19 r0 5) ∧ (isK S19 (gR S19 r0 0) 9) ∧ ∃ e22 : Nat, e22 + 1 ≤ d ∧ C X e22 MX9_index [vR (gR S19 r0 0)] S19 (RI fun y25 S26 => Q (.inl (some (vI ((-1) - y25)))) S26))))) : V X d MX5_declareHere 0 [(0, vR r0)] [] S Q := by
  refine V_aload_n (pc2 := 1) (dk D_X5_declareHere 0 rfl) rfl (V_lg 0 rfl) rfl ?_
  obtain ⟨h1, h⟩ := h
  refine V_getR kc5 (pc2 := 4) 3 (dk D_X5_declareHere 1 rfl) fl_5_51 (by decide) (fun _ => rfl) rfl h1 ?_
  refine V_aload_n (pc2 := 5) (dk D_X5_declareHere 2 rfl) rfl (V_lg 0 rfl) rfl ?_
  refine V_getR kc5 (pc2 := 8) 0 (dk D_X5_declareHere 3 rfl) fl_5_9 (by decide) (fun _ => rfl) rfl h1 ?_
  refine V_aload_n (pc2 := 9) (dk D_X5_declareHere 4 rfl) rfl (V_lg 0 rfl) rfl ?_
  refine V_getR kc5 (pc2 := 12) 0 (dk D_X5_declareHere 5 rfl) fl_5_9 (by decide) (fun _ => rfl) rfl h1 ?_
  obtain ⟨h7, h⟩ := h
  obtain ⟨e2, he3, hc4⟩ := h
  refine V_callV (as := []) (st := [_, _]) (M' := MX9_index) (ci := 9) (pc2 := 15) (dk D_X5_declareHere 6 rfl) ml_5_80 mv_X9_index rfl rfl (by decide) rfl (Nat.le_of_ble_eq_true rfl) rfl he3 h7 hc4 (RI.k fun y5 S6 h => ?_)
  obtain ⟨h13, h⟩ := h
  obtain ⟨e8, he9, hc10⟩ := h
  refine V_callV (as := [_]) (st := [_]) (M' := MX9_valueOf) (ci := 9) (pc2 := 18) (dk D_X5_declareHere 7 rfl) ml_5_83 mv_X9_valueOf rfl rfl (by decide) rfl (Nat.le_of_ble_eq_true rfl) rfl he9 h13 hc10 (RJ.k fun w11 S12 h => ?_)
  refine V_aload_n (pc2 := 19) (dk D_X5_declareHere 8 rfl) rfl (V_lg 0 rfl) rfl ?_
  obtain ⟨h14, h⟩ := h
  refine V_getR kc5 (pc2 := 22) 0 (dk D_X5_declareHere 9 rfl) fl_5_9 (by decide) (fun _ => rfl) rfl h14 ?_
  obtain ⟨h15, h⟩ := h
  refine V_getI kc9 (pc2 := 25) 8 (dk D_X5_declareHere 10 rfl) fl_5_70 (by decide) (fun _ => rfl) rfl h15 ?_
  obtain ⟨h20, h⟩ := h
  obtain ⟨e16, he17, hc18⟩ := h
  refine V_callV (as := [_, _]) (st := []) (M' := MX0_declare) (ci := 0) (pc2 := 28) (dk D_X5_declareHere 11 rfl) ml_5_116 mv_X0_declare rfl rfl (by decide) rfl (Nat.le_of_ble_eq_true rfl) rfl he17 h20 hc18 (RV.k fun  S19 h => ?_)
  refine V_iconst (x := (-1)) (pc2 := 29) (dk D_X5_declareHere 12 rfl) (by decide) rfl ?_
  refine V_aload_n (pc2 := 30) (dk D_X5_declareHere 13 rfl) rfl (V_lg 0 rfl) rfl ?_
  obtain ⟨h21, h⟩ := h
  refine V_getR kc5 (pc2 := 33) 0 (dk D_X5_declareHere 14 rfl) fl_5_9 (by decide) (fun _ => rfl) rfl h21 ?_
  obtain ⟨h27, h⟩ := h
  obtain ⟨e22, he23, hc24⟩ := h
  refine V_callV (as := []) (st := [_]) (M' := MX9_index) (ci := 9) (pc2 := 36) (dk D_X5_declareHere 15 rfl) ml_5_80 mv_X9_index rfl rfl (by decide) rfl (Nat.le_of_ble_eq_true rfl) rfl he23 h27 hc24 (RI.k fun y25 S26 h => ?_)
  refine V_isub (pc2 := 37) (dk D_X5_declareHere 16 rfl) rfl ?_
  exact V_ireturn (dk D_X5_declareHere 17 rfl) rfl h
def L_X5_readCondition : List (Nat × Instr × Nat) := [(0, .aload_n 0, 1), (1, .bipush 40, 2), (3, .invokevirtual 105, 3), (6, .ifCond .eq 23, 3), (9, .aload_n 0, 1), (10, .invokevirtual 153, 3), (13, .ifCond .eq 16, 3), (16, .aload_n 0, 1), (17, .bipush 41, 2), (19, .invokevirtual 112, 3), (22, .ifCond .eq 7, 3), (25, .iconst 1, 1), (26, .goto 4, 3), (29, .iconst 0, 1), (30, .ireturn, 1)]
theorem D_X5_readCondition : dOk cX5_readCondition L_X5_readCondition = true := by decide +kernel
theorem w_X5_readCondition_0 {X : Cx} {d : Nat} {S : Mem} {Q : Res → Mem → Prop} (r0 : Nat) (h : (isK S r0 5) ∧ ∃ e1 : Nat, e1 + 1 ≤ d ∧ C X e1 MX5_takeOpening [vR r0, vI 40] S (RI fun y4 S5 => ((y4 = 0 → V X d MX5_readCondition 29 [(0, vR r0)] [] S5 Q) ∧ (¬ y4 = 0 → (isK S5 r0 5) ∧ ∃ e8 : Nat, e8 + 1 ≤ d ∧ C X e8 MX5_readComparison [vR r0] S5 (RI fun y11 S12 => ((y11 = 0 → V X d MX5_readCondition 29 [(0, vR r0)] [] S12 Q) ∧ (¬ y11 = 0 → (isK S12 r0 5) ∧ ∃ e15 : Nat, e15 + 1 ≤ d ∧ C X e15 MX5_takeClosing [vR r0, vI 41] S12 (RI fun y18 S19 => ((y18 = 0 → V X d MX5_readCondition 29 [(0, vR r0)] [] S19 Q) ∧ (¬ y18 = 0 → V X d MX5_readCondition 30 [(0, vR r0)] [vI 1] S19 Q)))))))))) : V X d MX5_readCondition 0 [(0, vR r0)] [] S Q := by
  refine V_aload_n (pc2 := 1) (dk D_X5_readCondition 0 rfl) rfl (V_lg 0 rfl) rfl ?_
  refine V_bipush (x := 40) (pc2 := 3) (dk D_X5_readCondition 1 rfl) (by decide) rfl ?_
  obtain ⟨h6, h⟩ := h
  obtain ⟨e1, he2, hc3⟩ := h
  refine V_callV (as := [_]) (st := []) (M' := MX5_takeOpening) (ci := 5) (pc2 := 6) (dk D_X5_readCondition 2 rfl) ml_5_105 mv_X5_takeOpening rfl rfl (by decide) rfl (Nat.le_of_ble_eq_true rfl) rfl he2 h6 hc3 (RI.k fun y4 S5 h => ?_)
  refine V_ifeq (tgt := 29) (pc2 := 9) (dk D_X5_readCondition 3 rfl) (by decide) rfl (fun q7 => ?_) (fun q7 => ?_)
  · have h := h.1 q7
    exact h
  · have h := h.2 q7
    refine V_aload_n (pc2 := 10) (dk D_X5_readCondition 4 rfl) rfl (V_lg 0 rfl) rfl ?_
    obtain ⟨h13, h⟩ := h
    obtain ⟨e8, he9, hc10⟩ := h
    refine V_callV (as := []) (st := []) (M' := MX5_readComparison) (ci := 5) (pc2 := 13) (dk D_X5_readCondition 5 rfl) ml_5_153 mv_X5_readComparison rfl rfl (by decide) rfl (Nat.le_of_ble_eq_true rfl) rfl he9 h13 hc10 (RI.k fun y11 S12 h => ?_)
    refine V_ifeq (tgt := 29) (pc2 := 16) (dk D_X5_readCondition 6 rfl) (by decide) rfl (fun q14 => ?_) (fun q14 => ?_)
    · have h := h.1 q14
      exact h
    · have h := h.2 q14
      refine V_aload_n (pc2 := 17) (dk D_X5_readCondition 7 rfl) rfl (V_lg 0 rfl) rfl ?_
      refine V_bipush (x := 41) (pc2 := 19) (dk D_X5_readCondition 8 rfl) (by decide) rfl ?_
      obtain ⟨h20, h⟩ := h
      obtain ⟨e15, he16, hc17⟩ := h
      refine V_callV (as := [_]) (st := []) (M' := MX5_takeClosing) (ci := 5) (pc2 := 22) (dk D_X5_readCondition 9 rfl) ml_5_112 mv_X5_takeClosing rfl rfl (by decide) rfl (Nat.le_of_ble_eq_true rfl) rfl he16 h20 hc17 (RI.k fun y18 S19 h => ?_)
      refine V_ifeq (tgt := 29) (pc2 := 25) (dk D_X5_readCondition 10 rfl) (by decide) rfl (fun q21 => ?_) (fun q21 => ?_)
      · have h := h.1 q21
        exact h
      · have h := h.2 q21
        refine V_iconst (x := 1) (pc2 := 26) (dk D_X5_readCondition 11 rfl) (by decide) rfl ?_
        refine V_goto (tgt := 30) (dk D_X5_readCondition 12 rfl) (by decide) ?_
        exact h
theorem w_X5_readCondition_29 {X : Cx} {d : Nat} {S : Mem} {Q : Res → Mem → Prop} (r0 : Nat) (h : V X d MX5_readCondition 30 [(0, vR r0)] [vI 0] S Q) : V X d MX5_readCondition 29 [(0, vR r0)] [] S Q := by
  refine V_iconst (x := 0) (pc2 := 30) (dk D_X5_readCondition 13 rfl) (by decide) rfl ?_
  exact h
theorem w_X5_readCondition_30 {X : Cx} {d : Nat} {S : Mem} {Q : Res → Mem → Prop} (r0 : Nat) (t0 : Int32) (h : (t0 = 0 ∨ t0 = 1) ∧ Q (.inl (some (vI t0))) S) : V X d MX5_readCondition 30 [(0, vR r0)] [vI t0] S Q := by
  obtain ⟨h1, h⟩ := h
  exact V_zreturn (dk D_X5_readCondition 14 rfl) rfl h1 h
def L_X5_readIf : List (Nat × Instr × Nat) := [(0, .aload_n 0, 1), (1, .getfield 9, 3), (4, .invokevirtual 77, 3), (7, .aload_n 0, 1), (8, .invokevirtual 165, 3), (11, .ifCond .ne 5, 3), (14, .iconst 0, 1), (15, .ireturn, 1), (16, .aload_n 0, 1), (17, .getfield 25, 3), (20, .bipush 16, 2), (22, .iconst 0, 1), (23, .invokevirtual 57, 3), (26, .istore_n 1, 1), (27, .aload_n 0, 1), (28, .invokevirtual 48, 3), (31, .ifCond .ne 5, 3), (34, .iconst 0, 1), (35, .ireturn, 1), (36, .aload_n 0, 1), (37, .getfield 9, 3), (40, .getfield 41, 3), (43, .sipush 203, 3), (46, .if_icmp .ne 47, 3), (49, .aload_n 0, 1), (50, .getfield 9, 3), (53, .invokevirtual 77, 3), (56, .aload_n 0, 1), (57, .getfield 25, 3), (60, .bipush 15, 2), (62, .iconst 0, 1), (63, .invokevirtual 57, 3), (66, .istore_n 2, 1), (67, .aload_n 0, 1), (68, .getfield 25, 3), (71, .iload_n 1, 1), (72, .aload_n 0, 1), (73, .getfield 25, 3), (76, .invokevirtual 61, 3), (79, .invokevirtual 168, 3), (82, .iload_n 2, 1), (83, .istore_n 1, 1), (84, .aload_n 0, 1), (85, .invokevirtual 48, 3), (88, .ifCond .ne 5, 3), (91, .iconst 0, 1), (92, .ireturn, 1), (93, .aload_n 0, 1), (94, .getfield 25, 3), (97, .iload_n 1, 1), (98, .aload_n 0, 1), (99, .getfield 25, 3), (102, .invokevirtual 61, 3), (105, .invokevirtual 168, 3), (108, .iconst 1, 1), (109, .ireturn, 1)]
theorem D_X5_readIf : dOk cX5_readIf L_X5_readIf = true := by decide +kernel
theorem w_X5_readIf_0 {X : Cx} {d : Nat} {S : Mem} {Q : Res → Mem → Prop} (r0 : Nat) (h : (isK S r0 5) ∧ (isK S (gR S r0 0) 9) ∧ ∃ e2 : Nat, e2 + 1 ≤ d ∧ C X e2 MX9_next [vR (gR S r0 0)] S (RV fun  S5 => (isK S5 r0 5) ∧ ∃ e7 : Nat, e7 + 1 ≤ d ∧ C X e7 MX5_readCondition [vR r0] S5 (RI fun y10 S11 => ((¬ y10 = 0 → (isK S11 r0 5) ∧ (isK S11 (gR S11 r0 2) 1) ∧ ∃ e15 : Nat, e15 + 1 ≤ d ∧ C X e15 MX1_add [vR (gR S11 r0 2), vI 16, vI 0] S11 (RI fun y18 S19 => (isK S19 r0 5) ∧ ∃ e21 : Nat, e21 + 1 ≤ d ∧ C X e21 MX5_readBlock [vR r0] S19 (RI fun y24 S25 => ((¬ y24 = 0 → (isK S25 r0 5) ∧ (isK S25 (gR S25 r0 0) 9) ∧ ((¬ (gI S25 (gR S25 r0 0) 7) = 203 → V X d MX5_readIf 93 [(0, vR r0), (1, vI y18)] [] S25 Q) ∧ ((gI S25 (gR S25 r0 0) 7) = 203 → ∃ e31 : Nat, e31 + 1 ≤ d ∧ C X e31 MX9_next [vR (gR S25 r0 0)] S25 (RV fun  S34 => (isK S34 r0 5) ∧ (isK S34 (gR S34 r0 2) 1) ∧ ∃ e36 : Nat, e36 + 1 ≤ d ∧ C X e36 MX1_add [vR (gR S34 r0 2), vI 15, vI 0] S34 (RI fun y39 S40 => (isK S40 r0 5) ∧ (isK S40 (gR S40 r0 2) 1) ∧ ∃ e43 : Nat, e43 + 1 ≤ d ∧ C X e43 MX1_size [vR (gR S40 r0 2)] S40 (RI fun y46 S47 => (isK S47 (gR S40 r0 2) 1) ∧ ∃ e49 : Nat, e49 + 1 ≤ d ∧ C X e49 MX1_patch [vR (gR S40 r0 2), vI y18, vI y46] S47 (RV fun  S52 => (isK S52 r0 5) ∧ ∃ e54 : Nat, e54 + 1 ≤ d ∧ C X e54 MX5_readBlock [vR r0] S52 (RI fun y57 S58 => ((¬ y57 = 0 → V X d MX5_readIf 93 [(0, vR r0), (1, vI y39)] [] S58 Q) ∧ (y57 = 0 → Q (.inl (some (vI 0))) S58)))))))))) ∧ (y24 = 0 → Q (.inl (some (vI 0))) S25))))) ∧ (y10 = 0 → Q (.inl (some (vI 0))) S11))))) : V X d MX5_readIf 0 [(0, vR r0)] [] S Q := by
  refine V_aload_n (pc2 := 1) (dk D_X5_readIf 0 rfl) rfl (V_lg 0 rfl) rfl ?_
  obtain ⟨h1, h⟩ := h
  refine V_getR kc5 (pc2 := 4) 0 (dk D_X5_readIf 1 rfl) fl_5_9 (by decide) (fun _ => rfl) rfl h1 ?_
  obtain ⟨h6, h⟩ := h
  obtain ⟨e2, he3, hc4⟩ := h
  refine V_callV (as := []) (st := []) (M' := MX9_next) (ci := 9) (pc2 := 7) (dk D_X5_readIf 2 rfl) ml_5_77 mv_X9_next rfl rfl (by decide) rfl (Nat.le_of_ble_eq_true rfl) rfl he3 h6 hc4 (RV.k fun  S5 h => ?_)
  refine V_aload_n (pc2 := 8) (dk D_X5_readIf 3 rfl) rfl (V_lg 0 rfl) rfl ?_
  obtain ⟨h12, h⟩ := h
  obtain ⟨e7, he8, hc9⟩ := h
  refine V_callV (as := []) (st := []) (M' := MX5_readCondition) (ci := 5) (pc2 := 11) (dk D_X5_readIf 4 rfl) ml_5_165 mv_X5_readCondition rfl rfl (by decide) rfl (Nat.le_of_ble_eq_true rfl) rfl he8 h12 hc9 (RI.k fun y10 S11 h => ?_)
  refine V_ifne (tgt := 16) (pc2 := 14) (dk D_X5_readIf 5 rfl) (by decide) rfl (fun q13 => ?_) (fun q13 => ?_)
  · have h := h.1 q13
    refine V_aload_n (pc2 := 17) (dk D_X5_readIf 8 rfl) rfl (V_lg 0 rfl) rfl ?_
    obtain ⟨h14, h⟩ := h
    refine V_getR kc5 (pc2 := 20) 2 (dk D_X5_readIf 9 rfl) fl_5_25 (by decide) (fun _ => rfl) rfl h14 ?_
    refine V_bipush (x := 16) (pc2 := 22) (dk D_X5_readIf 10 rfl) (by decide) rfl ?_
    refine V_iconst (x := 0) (pc2 := 23) (dk D_X5_readIf 11 rfl) (by decide) rfl ?_
    obtain ⟨h20, h⟩ := h
    obtain ⟨e15, he16, hc17⟩ := h
    refine V_callV (as := [_, _]) (st := []) (M' := MX1_add) (ci := 1) (pc2 := 26) (dk D_X5_readIf 12 rfl) ml_5_57 mv_X1_add rfl rfl (by decide) rfl (Nat.le_of_ble_eq_true rfl) rfl he16 h20 hc17 (RI.k fun y18 S19 h => ?_)
    refine V_istore_n (pc2 := 27) (lv2 := [(0, _), (1, _)]) (dk D_X5_readIf 13 rfl) rfl (by decide) rfl rfl ?_
    refine V_aload_n (pc2 := 28) (dk D_X5_readIf 14 rfl) rfl (V_lg 0 rfl) rfl ?_
    obtain ⟨h26, h⟩ := h
    obtain ⟨e21, he22, hc23⟩ := h
    refine V_callV (as := []) (st := []) (M' := MX5_readBlock) (ci := 5) (pc2 := 31) (dk D_X5_readIf 15 rfl) ml_5_48 mv_X5_readBlock rfl rfl (by decide) rfl (Nat.le_of_ble_eq_true rfl) rfl he22 h26 hc23 (RI.k fun y24 S25 h => ?_)
    refine V_ifne (tgt := 36) (pc2 := 34) (dk D_X5_readIf 16 rfl) (by decide) rfl (fun q27 => ?_) (fun q27 => ?_)
    · have h := h.1 q27
      refine V_aload_n (pc2 := 37) (dk D_X5_readIf 19 rfl) rfl (V_lg 0 rfl) rfl ?_
      obtain ⟨h28, h⟩ := h
      refine V_getR kc5 (pc2 := 40) 0 (dk D_X5_readIf 20 rfl) fl_5_9 (by decide) (fun _ => rfl) rfl h28 ?_
      obtain ⟨h29, h⟩ := h
      refine V_getI kc9 (pc2 := 43) 7 (dk D_X5_readIf 21 rfl) fl_5_41 (by decide) (fun _ => rfl) rfl h29 ?_
      refine V_sipush (x := 203) (pc2 := 46) (dk D_X5_readIf 22 rfl) (by decide) rfl ?_
      refine V_cmpne (tgt := 93) (pc2 := 49) (dk D_X5_readIf 23 rfl) (by decide) rfl (fun q30 => ?_) (fun q30 => ?_)
      · have h := h.1 q30
        exact h
      · have h := h.2 q30
        refine V_aload_n (pc2 := 50) (dk D_X5_readIf 24 rfl) rfl (V_lg 0 rfl) rfl ?_
        refine V_getR kc5 (pc2 := 53) 0 (dk D_X5_readIf 25 rfl) fl_5_9 (by decide) (fun _ => rfl) rfl h28 ?_
        obtain ⟨e31, he32, hc33⟩ := h
        refine V_callV (as := []) (st := []) (M' := MX9_next) (ci := 9) (pc2 := 56) (dk D_X5_readIf 26 rfl) ml_5_77 mv_X9_next rfl rfl (by decide) rfl (Nat.le_of_ble_eq_true rfl) rfl he32 h29 hc33 (RV.k fun  S34 h => ?_)
        refine V_aload_n (pc2 := 57) (dk D_X5_readIf 27 rfl) rfl (V_lg 0 rfl) rfl ?_
        obtain ⟨h35, h⟩ := h
        refine V_getR kc5 (pc2 := 60) 2 (dk D_X5_readIf 28 rfl) fl_5_25 (by decide) (fun _ => rfl) rfl h35 ?_
        refine V_bipush (x := 15) (pc2 := 62) (dk D_X5_readIf 29 rfl) (by decide) rfl ?_
        refine V_iconst (x := 0) (pc2 := 63) (dk D_X5_readIf 30 rfl) (by decide) rfl ?_
        obtain ⟨h41, h⟩ := h
        obtain ⟨e36, he37, hc38⟩ := h
        refine V_callV (as := [_, _]) (st := []) (M' := MX1_add) (ci := 1) (pc2 := 66) (dk D_X5_readIf 31 rfl) ml_5_57 mv_X1_add rfl rfl (by decide) rfl (Nat.le_of_ble_eq_true rfl) rfl he37 h41 hc38 (RI.k fun y39 S40 h => ?_)
        refine V_istore_n (pc2 := 67) (lv2 := [(0, _), (1, _), (2, _)]) (dk D_X5_readIf 32 rfl) rfl (by decide) rfl rfl ?_
        refine V_aload_n (pc2 := 68) (dk D_X5_readIf 33 rfl) rfl (V_lg 0 rfl) rfl ?_
        obtain ⟨h42, h⟩ := h
        refine V_getR kc5 (pc2 := 71) 2 (dk D_X5_readIf 34 rfl) fl_5_25 (by decide) (fun _ => rfl) rfl h42 ?_
        refine V_iload_n (pc2 := 72) (dk D_X5_readIf 35 rfl) rfl (V_lg 1 rfl) rfl ?_
        refine V_aload_n (pc2 := 73) (dk D_X5_readIf 36 rfl) rfl (V_lg 0 rfl) rfl ?_
        refine V_getR kc5 (pc2 := 76) 2 (dk D_X5_readIf 37 rfl) fl_5_25 (by decide) (fun _ => rfl) rfl h42 ?_
        obtain ⟨h48, h⟩ := h
        obtain ⟨e43, he44, hc45⟩ := h
        refine V_callV (as := []) (st := [_, _]) (M' := MX1_size) (ci := 1) (pc2 := 79) (dk D_X5_readIf 38 rfl) ml_5_61 mv_X1_size rfl rfl (by decide) rfl (Nat.le_of_ble_eq_true rfl) rfl he44 h48 hc45 (RI.k fun y46 S47 h => ?_)
        obtain ⟨h53, h⟩ := h
        obtain ⟨e49, he50, hc51⟩ := h
        refine V_callV (as := [_, _]) (st := []) (M' := MX1_patch) (ci := 1) (pc2 := 82) (dk D_X5_readIf 39 rfl) ml_5_168 mv_X1_patch rfl rfl (by decide) rfl (Nat.le_of_ble_eq_true rfl) rfl he50 h53 hc51 (RV.k fun  S52 h => ?_)
        refine V_iload_n (pc2 := 83) (dk D_X5_readIf 40 rfl) rfl (V_lg 2 rfl) rfl ?_
        refine V_istore_n (pc2 := 84) (lv2 := [(0, _), (1, _), (2, _)]) (dk D_X5_readIf 41 rfl) rfl (by decide) rfl rfl ?_
        refine V_aload_n (pc2 := 85) (dk D_X5_readIf 42 rfl) rfl (V_lg 0 rfl) rfl ?_
        obtain ⟨h59, h⟩ := h
        obtain ⟨e54, he55, hc56⟩ := h
        refine V_callV (as := []) (st := []) (M' := MX5_readBlock) (ci := 5) (pc2 := 88) (dk D_X5_readIf 43 rfl) ml_5_48 mv_X5_readBlock rfl rfl (by decide) rfl (Nat.le_of_ble_eq_true rfl) rfl he55 h59 hc56 (RI.k fun y57 S58 h => ?_)
        refine V_ifne (tgt := 93) (pc2 := 91) (dk D_X5_readIf 44 rfl) (by decide) rfl (fun q60 => ?_) (fun q60 => ?_)
        · have h := h.1 q60
          refine V_pick [0, 1] (lv2 := [(0, _), (1, _)]) rfl ?_
          exact h
        · have h := h.2 q60
          refine V_iconst (x := 0) (pc2 := 92) (dk D_X5_readIf 45 rfl) (by decide) rfl ?_
          exact V_zreturn (dk D_X5_readIf 46 rfl) rfl (Or.inl rfl) h
    · have h := h.2 q27
      refine V_iconst (x := 0) (pc2 := 35) (dk D_X5_readIf 17 rfl) (by decide) rfl ?_
      exact V_zreturn (dk D_X5_readIf 18 rfl) rfl (Or.inl rfl) h
  · have h := h.2 q13
    refine V_iconst (x := 0) (pc2 := 15) (dk D_X5_readIf 6 rfl) (by decide) rfl ?_
    exact V_zreturn (dk D_X5_readIf 7 rfl) rfl (Or.inl rfl) h
theorem w_X5_readIf_93 {X : Cx} {d : Nat} {S : Mem} {Q : Res → Mem → Prop} (r0 : Nat) (x1 : Int32) (h : (isK S r0 5) ∧ (isK S (gR S r0 2) 1) ∧ ∃ e2 : Nat, e2 + 1 ≤ d ∧ C X e2 MX1_size [vR (gR S r0 2)] S (RI fun y5 S6 => (isK S6 (gR S r0 2) 1) ∧ ∃ e8 : Nat, e8 + 1 ≤ d ∧ C X e8 MX1_patch [vR (gR S r0 2), vI x1, vI y5] S6 (RV fun  S11 => Q (.inl (some (vI 1))) S11))) : V X d MX5_readIf 93 [(0, vR r0), (1, vI x1)] [] S Q := by
  refine V_aload_n (pc2 := 94) (dk D_X5_readIf 47 rfl) rfl (V_lg 0 rfl) rfl ?_
  obtain ⟨h1, h⟩ := h
  refine V_getR kc5 (pc2 := 97) 2 (dk D_X5_readIf 48 rfl) fl_5_25 (by decide) (fun _ => rfl) rfl h1 ?_
  refine V_iload_n (pc2 := 98) (dk D_X5_readIf 49 rfl) rfl (V_lg 1 rfl) rfl ?_
  refine V_aload_n (pc2 := 99) (dk D_X5_readIf 50 rfl) rfl (V_lg 0 rfl) rfl ?_
  refine V_getR kc5 (pc2 := 102) 2 (dk D_X5_readIf 51 rfl) fl_5_25 (by decide) (fun _ => rfl) rfl h1 ?_
  obtain ⟨h7, h⟩ := h
  obtain ⟨e2, he3, hc4⟩ := h
  refine V_callV (as := []) (st := [_, _]) (M' := MX1_size) (ci := 1) (pc2 := 105) (dk D_X5_readIf 52 rfl) ml_5_61 mv_X1_size rfl rfl (by decide) rfl (Nat.le_of_ble_eq_true rfl) rfl he3 h7 hc4 (RI.k fun y5 S6 h => ?_)
  obtain ⟨h12, h⟩ := h
  obtain ⟨e8, he9, hc10⟩ := h
  refine V_callV (as := [_, _]) (st := []) (M' := MX1_patch) (ci := 1) (pc2 := 108) (dk D_X5_readIf 53 rfl) ml_5_168 mv_X1_patch rfl rfl (by decide) rfl (Nat.le_of_ble_eq_true rfl) rfl he9 h12 hc10 (RV.k fun  S11 h => ?_)
  refine V_iconst (x := 1) (pc2 := 109) (dk D_X5_readIf 54 rfl) (by decide) rfl ?_
  exact V_zreturn (dk D_X5_readIf 55 rfl) rfl (Or.inr rfl) h
def L_X5_readWhile : List (Nat × Instr × Nat) := [(0, .aload_n 0, 1), (1, .getfield 9, 3), (4, .invokevirtual 77, 3), (7, .aload_n 0, 1), (8, .getfield 25, 3), (11, .invokevirtual 61, 3), (14, .istore_n 2, 1), (15, .aload_n 0, 1), (16, .invokevirtual 165, 3), (19, .ifCond .ne 5, 3), (22, .iconst 0, 1), (23, .ireturn, 1), (24, .aload_n 0, 1), (25, .getfield 25, 3), (28, .bipush 16, 2), (30, .iconst 0, 1), (31, .invokevirtual 57, 3), (34, .istore_n 3, 1), (35, .aload_n 0, 1), (36, .invokevirtual 48, 3), (39, .ifCond .ne 5, 3), (42, .iconst 0, 1), (43, .ireturn, 1), (44, .aload_n 0, 1), (45, .getfield 25, 3), (48, .bipush 20, 2), (50, .iload_n 1, 1), (51, .invokevirtual 57, 3), (54, .pop, 1), (55, .aload_n 0, 1), (56, .getfield 25, 3), (59, .bipush 15, 2), (61, .iload_n 2, 1), (62, .invokevirtual 57, 3), (65, .pop, 1), (66, .aload_n 0, 1), (67, .getfield 25, 3), (70, .iload_n 3, 1), (71, .aload_n 0, 1), (72, .getfield 25, 3), (75, .invokevirtual 61, 3), (78, .invokevirtual 168, 3), (81, .iconst 1, 1), (82, .ireturn, 1)]
theorem D_X5_readWhile : dOk cX5_readWhile L_X5_readWhile = true := by decide +kernel
theorem w_X5_readWhile_0 {X : Cx} {d : Nat} {S : Mem} {Q : Res → Mem → Prop} (r0 : Nat) (x1 : Int32) (h : (isK S r0 5) ∧ (isK S (gR S r0 0) 9) ∧ ∃ e2 : Nat, e2 + 1 ≤ d ∧ C X e2 MX9_next [vR (gR S r0 0)] S (RV fun  S5 => (isK S5 r0 5) ∧ (isK S5 (gR S5 r0 2) 1) ∧ ∃ e8 : Nat, e8 + 1 ≤ d ∧ C X e8 MX1_size [vR (gR S5 r0 2)] S5 (RI fun y11 S12 => (isK S12 r0 5) ∧ ∃ e14 : Nat, e14 + 1 ≤ d ∧ C X e14 MX5_readCondition [vR r0] S12 (RI fun y17 S18 => ((¬ y17 = 0 → (isK S18 r0 5) ∧ (isK S18 (gR S18 r0 2) 1) ∧ ∃ e22 : Nat, e22 + 1 ≤ d ∧ C X e22 MX1_add [vR (gR S18 r0 2), vI 16, vI 0] S18 (RI fun y25 S26 => (isK S26 r0 5) ∧ ∃ e28 : Nat, e28 + 1 ≤ d ∧ C X e28 MX5_readBlock [vR r0] S26 (RI fun y31 S32 => ((¬ y31 = 0 → (isK S32 r0 5) ∧ (isK S32 (gR S32 r0 2) 1) ∧ ∃ e36 : Nat, e36 + 1 ≤ d ∧ C X e36 MX1_add [vR (gR S32 r0 2), vI 20, vI x1] S32 (RI fun y39 S40 => (isK S40 r0 5) ∧ (isK S40 (gR S40 r0 2) 1) ∧ ∃ e43 : Nat, e43 + 1 ≤ d ∧ C X e43 MX1_add [vR (gR S40 r0 2), vI 15, vI y11] S40 (RI fun y46 S47 => (isK S47 r0 5) ∧ (isK S47 (gR S47 r0 2) 1) ∧ ∃ e50 : Nat, e50 + 1 ≤ d ∧ C X e50 MX1_size [vR (gR S47 r0 2)] S47 (RI fun y53 S54 => (isK S54 (gR S47 r0 2) 1) ∧ ∃ e56 : Nat, e56 + 1 ≤ d ∧ C X e56 MX1_patch [vR (gR S47 r0 2), vI y25, vI y53] S54 (RV fun  S59 => Q (.inl (some (vI 1))) S59))))) ∧ (y31 = 0 → Q (.inl (some (vI 0))) S32))))) ∧ (y17 = 0 → Q (.inl (some (vI 0))) S18)))))) : V X d MX5_readWhile 0 [(0, vR r0), (1, vI x1)] [] S Q := by
  refine V_aload_n (pc2 := 1) (dk D_X5_readWhile 0 rfl) rfl (V_lg 0 rfl) rfl ?_
  obtain ⟨h1, h⟩ := h
  refine V_getR kc5 (pc2 := 4) 0 (dk D_X5_readWhile 1 rfl) fl_5_9 (by decide) (fun _ => rfl) rfl h1 ?_
  obtain ⟨h6, h⟩ := h
  obtain ⟨e2, he3, hc4⟩ := h
  refine V_callV (as := []) (st := []) (M' := MX9_next) (ci := 9) (pc2 := 7) (dk D_X5_readWhile 2 rfl) ml_5_77 mv_X9_next rfl rfl (by decide) rfl (Nat.le_of_ble_eq_true rfl) rfl he3 h6 hc4 (RV.k fun  S5 h => ?_)
  refine V_aload_n (pc2 := 8) (dk D_X5_readWhile 3 rfl) rfl (V_lg 0 rfl) rfl ?_
  obtain ⟨h7, h⟩ := h
  refine V_getR kc5 (pc2 := 11) 2 (dk D_X5_readWhile 4 rfl) fl_5_25 (by decide) (fun _ => rfl) rfl h7 ?_
  obtain ⟨h13, h⟩ := h
  obtain ⟨e8, he9, hc10⟩ := h
  refine V_callV (as := []) (st := []) (M' := MX1_size) (ci := 1) (pc2 := 14) (dk D_X5_readWhile 5 rfl) ml_5_61 mv_X1_size rfl rfl (by decide) rfl (Nat.le_of_ble_eq_true rfl) rfl he9 h13 hc10 (RI.k fun y11 S12 h => ?_)
  refine V_istore_n (pc2 := 15) (lv2 := [(0, _), (1, _), (2, _)]) (dk D_X5_readWhile 6 rfl) rfl (by decide) rfl rfl ?_
  refine V_aload_n (pc2 := 16) (dk D_X5_readWhile 7 rfl) rfl (V_lg 0 rfl) rfl ?_
  obtain ⟨h19, h⟩ := h
  obtain ⟨e14, he15, hc16⟩ := h
  refine V_callV (as := []) (st := []) (M' := MX5_readCondition) (ci := 5) (pc2 := 19) (dk D_X5_readWhile 8 rfl) ml_5_165 mv_X5_readCondition rfl rfl (by decide) rfl (Nat.le_of_ble_eq_true rfl) rfl he15 h19 hc16 (RI.k fun y17 S18 h => ?_)
  refine V_ifne (tgt := 24) (pc2 := 22) (dk D_X5_readWhile 9 rfl) (by decide) rfl (fun q20 => ?_) (fun q20 => ?_)
  · have h := h.1 q20
    refine V_aload_n (pc2 := 25) (dk D_X5_readWhile 12 rfl) rfl (V_lg 0 rfl) rfl ?_
    obtain ⟨h21, h⟩ := h
    refine V_getR kc5 (pc2 := 28) 2 (dk D_X5_readWhile 13 rfl) fl_5_25 (by decide) (fun _ => rfl) rfl h21 ?_
    refine V_bipush (x := 16) (pc2 := 30) (dk D_X5_readWhile 14 rfl) (by decide) rfl ?_
    refine V_iconst (x := 0) (pc2 := 31) (dk D_X5_readWhile 15 rfl) (by decide) rfl ?_
    obtain ⟨h27, h⟩ := h
    obtain ⟨e22, he23, hc24⟩ := h
    refine V_callV (as := [_, _]) (st := []) (M' := MX1_add) (ci := 1) (pc2 := 34) (dk D_X5_readWhile 16 rfl) ml_5_57 mv_X1_add rfl rfl (by decide) rfl (Nat.le_of_ble_eq_true rfl) rfl he23 h27 hc24 (RI.k fun y25 S26 h => ?_)
    refine V_istore_n (pc2 := 35) (lv2 := [(0, _), (1, _), (2, _), (3, _)]) (dk D_X5_readWhile 17 rfl) rfl (by decide) rfl rfl ?_
    refine V_aload_n (pc2 := 36) (dk D_X5_readWhile 18 rfl) rfl (V_lg 0 rfl) rfl ?_
    obtain ⟨h33, h⟩ := h
    obtain ⟨e28, he29, hc30⟩ := h
    refine V_callV (as := []) (st := []) (M' := MX5_readBlock) (ci := 5) (pc2 := 39) (dk D_X5_readWhile 19 rfl) ml_5_48 mv_X5_readBlock rfl rfl (by decide) rfl (Nat.le_of_ble_eq_true rfl) rfl he29 h33 hc30 (RI.k fun y31 S32 h => ?_)
    refine V_ifne (tgt := 44) (pc2 := 42) (dk D_X5_readWhile 20 rfl) (by decide) rfl (fun q34 => ?_) (fun q34 => ?_)
    · have h := h.1 q34
      refine V_aload_n (pc2 := 45) (dk D_X5_readWhile 23 rfl) rfl (V_lg 0 rfl) rfl ?_
      obtain ⟨h35, h⟩ := h
      refine V_getR kc5 (pc2 := 48) 2 (dk D_X5_readWhile 24 rfl) fl_5_25 (by decide) (fun _ => rfl) rfl h35 ?_
      refine V_bipush (x := 20) (pc2 := 50) (dk D_X5_readWhile 25 rfl) (by decide) rfl ?_
      refine V_iload_n (pc2 := 51) (dk D_X5_readWhile 26 rfl) rfl (V_lg 1 rfl) rfl ?_
      obtain ⟨h41, h⟩ := h
      obtain ⟨e36, he37, hc38⟩ := h
      refine V_callV (as := [_, _]) (st := []) (M' := MX1_add) (ci := 1) (pc2 := 54) (dk D_X5_readWhile 27 rfl) ml_5_57 mv_X1_add rfl rfl (by decide) rfl (Nat.le_of_ble_eq_true rfl) rfl he37 h41 hc38 (RI.k fun y39 S40 h => ?_)
      refine V_pop (pc2 := 55) (dk D_X5_readWhile 28 rfl) rfl rfl ?_
      refine V_aload_n (pc2 := 56) (dk D_X5_readWhile 29 rfl) rfl (V_lg 0 rfl) rfl ?_
      obtain ⟨h42, h⟩ := h
      refine V_getR kc5 (pc2 := 59) 2 (dk D_X5_readWhile 30 rfl) fl_5_25 (by decide) (fun _ => rfl) rfl h42 ?_
      refine V_bipush (x := 15) (pc2 := 61) (dk D_X5_readWhile 31 rfl) (by decide) rfl ?_
      refine V_iload_n (pc2 := 62) (dk D_X5_readWhile 32 rfl) rfl (V_lg 2 rfl) rfl ?_
      obtain ⟨h48, h⟩ := h
      obtain ⟨e43, he44, hc45⟩ := h
      refine V_callV (as := [_, _]) (st := []) (M' := MX1_add) (ci := 1) (pc2 := 65) (dk D_X5_readWhile 33 rfl) ml_5_57 mv_X1_add rfl rfl (by decide) rfl (Nat.le_of_ble_eq_true rfl) rfl he44 h48 hc45 (RI.k fun y46 S47 h => ?_)
      refine V_pop (pc2 := 66) (dk D_X5_readWhile 34 rfl) rfl rfl ?_
      refine V_aload_n (pc2 := 67) (dk D_X5_readWhile 35 rfl) rfl (V_lg 0 rfl) rfl ?_
      obtain ⟨h49, h⟩ := h
      refine V_getR kc5 (pc2 := 70) 2 (dk D_X5_readWhile 36 rfl) fl_5_25 (by decide) (fun _ => rfl) rfl h49 ?_
      refine V_iload_n (pc2 := 71) (dk D_X5_readWhile 37 rfl) rfl (V_lg 3 rfl) rfl ?_
      refine V_aload_n (pc2 := 72) (dk D_X5_readWhile 38 rfl) rfl (V_lg 0 rfl) rfl ?_
      refine V_getR kc5 (pc2 := 75) 2 (dk D_X5_readWhile 39 rfl) fl_5_25 (by decide) (fun _ => rfl) rfl h49 ?_
      obtain ⟨h55, h⟩ := h
      obtain ⟨e50, he51, hc52⟩ := h
      refine V_callV (as := []) (st := [_, _]) (M' := MX1_size) (ci := 1) (pc2 := 78) (dk D_X5_readWhile 40 rfl) ml_5_61 mv_X1_size rfl rfl (by decide) rfl (Nat.le_of_ble_eq_true rfl) rfl he51 h55 hc52 (RI.k fun y53 S54 h => ?_)
      obtain ⟨h60, h⟩ := h
      obtain ⟨e56, he57, hc58⟩ := h
      refine V_callV (as := [_, _]) (st := []) (M' := MX1_patch) (ci := 1) (pc2 := 81) (dk D_X5_readWhile 41 rfl) ml_5_168 mv_X1_patch rfl rfl (by decide) rfl (Nat.le_of_ble_eq_true rfl) rfl he57 h60 hc58 (RV.k fun  S59 h => ?_)
      refine V_iconst (x := 1) (pc2 := 82) (dk D_X5_readWhile 42 rfl) (by decide) rfl ?_
      exact V_zreturn (dk D_X5_readWhile 43 rfl) rfl (Or.inr rfl) h
    · have h := h.2 q34
      refine V_iconst (x := 0) (pc2 := 43) (dk D_X5_readWhile 21 rfl) (by decide) rfl ?_
      exact V_zreturn (dk D_X5_readWhile 22 rfl) rfl (Or.inl rfl) h
  · have h := h.2 q20
    refine V_iconst (x := 0) (pc2 := 23) (dk D_X5_readWhile 10 rfl) (by decide) rfl ?_
    exact V_zreturn (dk D_X5_readWhile 11 rfl) rfl (Or.inl rfl) h
def L_X5_readEach : List (Nat × Instr × Nat) := [(0, .aload_n 0, 1), (1, .getfield 9, 3), (4, .invokevirtual 77, 3), (7, .aload_n 0, 1), (8, .invokevirtual 90, 3), (11, .ifCond .ne 5, 3), (14, .iconst 0, 1), (15, .ireturn, 1), (16, .aload_n 0, 1), (17, .invokevirtual 150, 3), (20, .istore_n 2, 1), (21, .aload_n 0, 1), (22, .getfield 9, 3), (25, .invokevirtual 77, 3), (28, .aload_n 0, 1), (29, .sipush 222, 3), (32, .invokevirtual 156, 3), (35, .ifCond .eq 10, 3), (38, .aload_n 0, 1), (39, .invokevirtual 153, 3), (42, .ifCond .ne 5, 3), (45, .iconst 0, 1), (46, .ireturn, 1), (47, .aload_n 0, 1), (48, .getfield 25, 3), (51, .bipush 30, 2), (53, .iconst 0, 1), (54, .invokevirtual 57, 3), (57, .istore_n 3, 1), (58, .aload_n 0, 1), (59, .getfield 25, 3), (62, .iconst 3, 1), (63, .iload_n 2, 1), (64, .invokevirtual 57, 3), (67, .pop, 1), (68, .aload_n 0, 1), (69, .invokevirtual 48, 3), (72, .ifCond .ne 5, 3), (75, .iconst 0, 1), (76, .ireturn, 1), (77, .aload_n 0, 1), (78, .getfield 25, 3), (81, .bipush 20, 2), (83, .iload_n 1, 1), (84, .invokevirtual 57, 3), (87, .pop, 1), (88, .aload_n 0, 1), (89, .getfield 25, 3), (92, .bipush 15, 2), (94, .iload_n 3, 1), (95, .invokevirtual 57, 3), (98, .pop, 1), (99, .aload_n 0, 1), (100, .getfield 25, 3), (103, .iload_n 3, 1), (104, .aload_n 0, 1), (105, .getfield 25, 3), (108, .invokevirtual 61, 3), (111, .invokevirtual 168, 3), (114, .iconst 1, 1), (115, .ireturn, 1)]
theorem D_X5_readEach : dOk cX5_readEach L_X5_readEach = true := by decide +kernel
theorem w_X5_readEach_0 {X : Cx} {d : Nat} {S : Mem} {Q : Res → Mem → Prop} (r0 : Nat) (x1 : Int32) (h : (isK S r0 5) ∧ (isK S (gR S r0 0) 9) ∧ ∃ e2 : Nat, e2 + 1 ≤ d ∧ C X e2 MX9_next [vR (gR S r0 0)] S (RV fun  S5 => (isK S5 r0 5) ∧ ∃ e7 : Nat, e7 + 1 ≤ d ∧ C X e7 MX5_isName [vR r0] S5 (RI fun y10 S11 => ((¬ y10 = 0 → (isK S11 r0 5) ∧ ∃ e14 : Nat, e14 + 1 ≤ d ∧ C X e14 MX5_declareHere [vR r0] S11 (RI fun y17 S18 => (isK S18 r0 5) ∧ (isK S18 (gR S18 r0 0) 9) ∧ ∃ e21 : Nat, e21 + 1 ≤ d ∧ C X e21 MX9_next [vR (gR S18 r0 0)] S18 (RV fun  S24 => (isK S24 r0 5) ∧ ∃ e26 : Nat, e26 + 1 ≤ d ∧ C X e26 MX5_take [vR r0, vI 222] S24 (RI fun y29 S30 => ((y29 = 0 → V X d MX5_readEach 45 [(0, vR r0), (1, vI x1), (2, vI y17)] [] S30 Q) ∧ (¬ y29 = 0 → (isK S30 r0 5) ∧ ∃ e33 : Nat, e33 + 1 ≤ d ∧ C X e33 MX5_readComparison [vR r0] S30 (RI fun y36 S37 => ((¬ y36 = 0 → (isK S37 r0 5) ∧ (isK S37 (gR S37 r0 2) 1) ∧ ∃ e41 : Nat, e41 + 1 ≤ d ∧ C X e41 MX1_add [vR (gR S37 r0 2), vI 30, vI 0] S37 (RI fun y44 S45 => (isK S45 r0 5) ∧ (isK S45 (gR S45 r0 2) 1) ∧ ∃ e48 : Nat, e48 + 1 ≤ d ∧ C X e48 MX1_add [vR (gR S45 r0 2), vI 3, vI y17] S45 (RI fun y51 S52 => (isK S52 r0 5) ∧ ∃ e54 : Nat, e54 + 1 ≤ d ∧ C X e54 MX5_readBlock [vR r0] S52 (RI fun y57 S58 => ((¬ y57 = 0 → (isK S58 r0 5) ∧ (isK S58 (gR S58 r0 2) 1) ∧ ∃ e62 : Nat, e62 + 1 ≤ d ∧ C X e62 MX1_add [vR (gR S58 r0 2), vI 20, vI x1] S58 (RI fun y65 S66 => (isK S66 r0 5) ∧ (isK S66 (gR S66 r0 2) 1) ∧ ∃ e69 : Nat, e69 + 1 ≤ d ∧ C X e69 MX1_add [vR (gR S66 r0 2), vI 15, vI y44] S66 (RI fun y72 S73 => (isK S73 r0 5) ∧ (isK S73 (gR S73 r0 2) 1) ∧ ∃ e76 : Nat, e76 + 1 ≤ d ∧ C X e76 MX1_size [vR (gR S73 r0 2)] S73 (RI fun y79 S80 => (isK S80 (gR S73 r0 2) 1) ∧ ∃ e82 : Nat, e82 + 1 ≤ d ∧ C X e82 MX1_patch [vR (gR S73 r0 2), vI y44, vI y79] S80 (RV fun  S85 => Q (.inl (some (vI 1))) S85))))) ∧ (y57 = 0 → Q (.inl (some (vI 0))) S58)))))) ∧ (y36 = 0 → V X d MX5_readEach 45 [(0, vR r0), (1, vI x1), (2, vI y17)] [] S37 Q))))))))) ∧ (y10 = 0 → Q (.inl (some (vI 0))) S11))))) : V X d MX5_readEach 0 [(0, vR r0), (1, vI x1)] [] S Q := by
  refine V_aload_n (pc2 := 1) (dk D_X5_readEach 0 rfl) rfl (V_lg 0 rfl) rfl ?_
  obtain ⟨h1, h⟩ := h
  refine V_getR kc5 (pc2 := 4) 0 (dk D_X5_readEach 1 rfl) fl_5_9 (by decide) (fun _ => rfl) rfl h1 ?_
  obtain ⟨h6, h⟩ := h
  obtain ⟨e2, he3, hc4⟩ := h
  refine V_callV (as := []) (st := []) (M' := MX9_next) (ci := 9) (pc2 := 7) (dk D_X5_readEach 2 rfl) ml_5_77 mv_X9_next rfl rfl (by decide) rfl (Nat.le_of_ble_eq_true rfl) rfl he3 h6 hc4 (RV.k fun  S5 h => ?_)
  refine V_aload_n (pc2 := 8) (dk D_X5_readEach 3 rfl) rfl (V_lg 0 rfl) rfl ?_
  obtain ⟨h12, h⟩ := h
  obtain ⟨e7, he8, hc9⟩ := h
  refine V_callV (as := []) (st := []) (M' := MX5_isName) (ci := 5) (pc2 := 11) (dk D_X5_readEach 4 rfl) ml_5_90 mv_X5_isName rfl rfl (by decide) rfl (Nat.le_of_ble_eq_true rfl) rfl he8 h12 hc9 (RI.k fun y10 S11 h => ?_)
  refine V_ifne (tgt := 16) (pc2 := 14) (dk D_X5_readEach 5 rfl) (by decide) rfl (fun q13 => ?_) (fun q13 => ?_)
  · have h := h.1 q13
    refine V_aload_n (pc2 := 17) (dk D_X5_readEach 8 rfl) rfl (V_lg 0 rfl) rfl ?_
    obtain ⟨h19, h⟩ := h
    obtain ⟨e14, he15, hc16⟩ := h
    refine V_callV (as := []) (st := []) (M' := MX5_declareHere) (ci := 5) (pc2 := 20) (dk D_X5_readEach 9 rfl) ml_5_150 mv_X5_declareHere rfl rfl (by decide) rfl (Nat.le_of_ble_eq_true rfl) rfl he15 h19 hc16 (RI.k fun y17 S18 h => ?_)
    refine V_istore_n (pc2 := 21) (lv2 := [(0, _), (1, _), (2, _)]) (dk D_X5_readEach 10 rfl) rfl (by decide) rfl rfl ?_
    refine V_aload_n (pc2 := 22) (dk D_X5_readEach 11 rfl) rfl (V_lg 0 rfl) rfl ?_
    obtain ⟨h20, h⟩ := h
    refine V_getR kc5 (pc2 := 25) 0 (dk D_X5_readEach 12 rfl) fl_5_9 (by decide) (fun _ => rfl) rfl h20 ?_
    obtain ⟨h25, h⟩ := h
    obtain ⟨e21, he22, hc23⟩ := h
    refine V_callV (as := []) (st := []) (M' := MX9_next) (ci := 9) (pc2 := 28) (dk D_X5_readEach 13 rfl) ml_5_77 mv_X9_next rfl rfl (by decide) rfl (Nat.le_of_ble_eq_true rfl) rfl he22 h25 hc23 (RV.k fun  S24 h => ?_)
    refine V_aload_n (pc2 := 29) (dk D_X5_readEach 14 rfl) rfl (V_lg 0 rfl) rfl ?_
    refine V_sipush (x := 222) (pc2 := 32) (dk D_X5_readEach 15 rfl) (by decide) rfl ?_
    obtain ⟨h31, h⟩ := h
    obtain ⟨e26, he27, hc28⟩ := h
    refine V_callV (as := [_]) (st := []) (M' := MX5_take) (ci := 5) (pc2 := 35) (dk D_X5_readEach 16 rfl) ml_5_156 mv_X5_take rfl rfl (by decide) rfl (Nat.le_of_ble_eq_true rfl) rfl he27 h31 hc28 (RI.k fun y29 S30 h => ?_)
    refine V_ifeq (tgt := 45) (pc2 := 38) (dk D_X5_readEach 17 rfl) (by decide) rfl (fun q32 => ?_) (fun q32 => ?_)
    · have h := h.1 q32
      exact h
    · have h := h.2 q32
      refine V_aload_n (pc2 := 39) (dk D_X5_readEach 18 rfl) rfl (V_lg 0 rfl) rfl ?_
      obtain ⟨h38, h⟩ := h
      obtain ⟨e33, he34, hc35⟩ := h
      refine V_callV (as := []) (st := []) (M' := MX5_readComparison) (ci := 5) (pc2 := 42) (dk D_X5_readEach 19 rfl) ml_5_153 mv_X5_readComparison rfl rfl (by decide) rfl (Nat.le_of_ble_eq_true rfl) rfl he34 h38 hc35 (RI.k fun y36 S37 h => ?_)
      refine V_ifne (tgt := 47) (pc2 := 45) (dk D_X5_readEach 20 rfl) (by decide) rfl (fun q39 => ?_) (fun q39 => ?_)
      · have h := h.1 q39
        refine V_aload_n (pc2 := 48) (dk D_X5_readEach 23 rfl) rfl (V_lg 0 rfl) rfl ?_
        obtain ⟨h40, h⟩ := h
        refine V_getR kc5 (pc2 := 51) 2 (dk D_X5_readEach 24 rfl) fl_5_25 (by decide) (fun _ => rfl) rfl h40 ?_
        refine V_bipush (x := 30) (pc2 := 53) (dk D_X5_readEach 25 rfl) (by decide) rfl ?_
        refine V_iconst (x := 0) (pc2 := 54) (dk D_X5_readEach 26 rfl) (by decide) rfl ?_
        obtain ⟨h46, h⟩ := h
        obtain ⟨e41, he42, hc43⟩ := h
        refine V_callV (as := [_, _]) (st := []) (M' := MX1_add) (ci := 1) (pc2 := 57) (dk D_X5_readEach 27 rfl) ml_5_57 mv_X1_add rfl rfl (by decide) rfl (Nat.le_of_ble_eq_true rfl) rfl he42 h46 hc43 (RI.k fun y44 S45 h => ?_)
        refine V_istore_n (pc2 := 58) (lv2 := [(0, _), (1, _), (2, _), (3, _)]) (dk D_X5_readEach 28 rfl) rfl (by decide) rfl rfl ?_
        refine V_aload_n (pc2 := 59) (dk D_X5_readEach 29 rfl) rfl (V_lg 0 rfl) rfl ?_
        obtain ⟨h47, h⟩ := h
        refine V_getR kc5 (pc2 := 62) 2 (dk D_X5_readEach 30 rfl) fl_5_25 (by decide) (fun _ => rfl) rfl h47 ?_
        refine V_iconst (x := 3) (pc2 := 63) (dk D_X5_readEach 31 rfl) (by decide) rfl ?_
        refine V_iload_n (pc2 := 64) (dk D_X5_readEach 32 rfl) rfl (V_lg 2 rfl) rfl ?_
        obtain ⟨h53, h⟩ := h
        obtain ⟨e48, he49, hc50⟩ := h
        refine V_callV (as := [_, _]) (st := []) (M' := MX1_add) (ci := 1) (pc2 := 67) (dk D_X5_readEach 33 rfl) ml_5_57 mv_X1_add rfl rfl (by decide) rfl (Nat.le_of_ble_eq_true rfl) rfl he49 h53 hc50 (RI.k fun y51 S52 h => ?_)
        refine V_pop (pc2 := 68) (dk D_X5_readEach 34 rfl) rfl rfl ?_
        refine V_aload_n (pc2 := 69) (dk D_X5_readEach 35 rfl) rfl (V_lg 0 rfl) rfl ?_
        obtain ⟨h59, h⟩ := h
        obtain ⟨e54, he55, hc56⟩ := h
        refine V_callV (as := []) (st := []) (M' := MX5_readBlock) (ci := 5) (pc2 := 72) (dk D_X5_readEach 36 rfl) ml_5_48 mv_X5_readBlock rfl rfl (by decide) rfl (Nat.le_of_ble_eq_true rfl) rfl he55 h59 hc56 (RI.k fun y57 S58 h => ?_)
        refine V_ifne (tgt := 77) (pc2 := 75) (dk D_X5_readEach 37 rfl) (by decide) rfl (fun q60 => ?_) (fun q60 => ?_)
        · have h := h.1 q60
          refine V_aload_n (pc2 := 78) (dk D_X5_readEach 40 rfl) rfl (V_lg 0 rfl) rfl ?_
          obtain ⟨h61, h⟩ := h
          refine V_getR kc5 (pc2 := 81) 2 (dk D_X5_readEach 41 rfl) fl_5_25 (by decide) (fun _ => rfl) rfl h61 ?_
          refine V_bipush (x := 20) (pc2 := 83) (dk D_X5_readEach 42 rfl) (by decide) rfl ?_
          refine V_iload_n (pc2 := 84) (dk D_X5_readEach 43 rfl) rfl (V_lg 1 rfl) rfl ?_
          obtain ⟨h67, h⟩ := h
          obtain ⟨e62, he63, hc64⟩ := h
          refine V_callV (as := [_, _]) (st := []) (M' := MX1_add) (ci := 1) (pc2 := 87) (dk D_X5_readEach 44 rfl) ml_5_57 mv_X1_add rfl rfl (by decide) rfl (Nat.le_of_ble_eq_true rfl) rfl he63 h67 hc64 (RI.k fun y65 S66 h => ?_)
          refine V_pop (pc2 := 88) (dk D_X5_readEach 45 rfl) rfl rfl ?_
          refine V_aload_n (pc2 := 89) (dk D_X5_readEach 46 rfl) rfl (V_lg 0 rfl) rfl ?_
          obtain ⟨h68, h⟩ := h
          refine V_getR kc5 (pc2 := 92) 2 (dk D_X5_readEach 47 rfl) fl_5_25 (by decide) (fun _ => rfl) rfl h68 ?_
          refine V_bipush (x := 15) (pc2 := 94) (dk D_X5_readEach 48 rfl) (by decide) rfl ?_
          refine V_iload_n (pc2 := 95) (dk D_X5_readEach 49 rfl) rfl (V_lg 3 rfl) rfl ?_
          obtain ⟨h74, h⟩ := h
          obtain ⟨e69, he70, hc71⟩ := h
          refine V_callV (as := [_, _]) (st := []) (M' := MX1_add) (ci := 1) (pc2 := 98) (dk D_X5_readEach 50 rfl) ml_5_57 mv_X1_add rfl rfl (by decide) rfl (Nat.le_of_ble_eq_true rfl) rfl he70 h74 hc71 (RI.k fun y72 S73 h => ?_)
          refine V_pop (pc2 := 99) (dk D_X5_readEach 51 rfl) rfl rfl ?_
          refine V_aload_n (pc2 := 100) (dk D_X5_readEach 52 rfl) rfl (V_lg 0 rfl) rfl ?_
          obtain ⟨h75, h⟩ := h
          refine V_getR kc5 (pc2 := 103) 2 (dk D_X5_readEach 53 rfl) fl_5_25 (by decide) (fun _ => rfl) rfl h75 ?_
          refine V_iload_n (pc2 := 104) (dk D_X5_readEach 54 rfl) rfl (V_lg 3 rfl) rfl ?_
          refine V_aload_n (pc2 := 105) (dk D_X5_readEach 55 rfl) rfl (V_lg 0 rfl) rfl ?_
          refine V_getR kc5 (pc2 := 108) 2 (dk D_X5_readEach 56 rfl) fl_5_25 (by decide) (fun _ => rfl) rfl h75 ?_
          obtain ⟨h81, h⟩ := h
          obtain ⟨e76, he77, hc78⟩ := h
          refine V_callV (as := []) (st := [_, _]) (M' := MX1_size) (ci := 1) (pc2 := 111) (dk D_X5_readEach 57 rfl) ml_5_61 mv_X1_size rfl rfl (by decide) rfl (Nat.le_of_ble_eq_true rfl) rfl he77 h81 hc78 (RI.k fun y79 S80 h => ?_)
          obtain ⟨h86, h⟩ := h
          obtain ⟨e82, he83, hc84⟩ := h
          refine V_callV (as := [_, _]) (st := []) (M' := MX1_patch) (ci := 1) (pc2 := 114) (dk D_X5_readEach 58 rfl) ml_5_168 mv_X1_patch rfl rfl (by decide) rfl (Nat.le_of_ble_eq_true rfl) rfl he83 h86 hc84 (RV.k fun  S85 h => ?_)
          refine V_iconst (x := 1) (pc2 := 115) (dk D_X5_readEach 59 rfl) (by decide) rfl ?_
          exact V_zreturn (dk D_X5_readEach 60 rfl) rfl (Or.inr rfl) h
        · have h := h.2 q60
          refine V_iconst (x := 0) (pc2 := 76) (dk D_X5_readEach 38 rfl) (by decide) rfl ?_
          exact V_zreturn (dk D_X5_readEach 39 rfl) rfl (Or.inl rfl) h
      · have h := h.2 q39
        exact h
  · have h := h.2 q13
    refine V_iconst (x := 0) (pc2 := 15) (dk D_X5_readEach 6 rfl) (by decide) rfl ?_
    exact V_zreturn (dk D_X5_readEach 7 rfl) rfl (Or.inl rfl) h
theorem w_X5_readEach_45 {X : Cx} {d : Nat} {S : Mem} {Q : Res → Mem → Prop} (r0 : Nat) (x1 : Int32) (x2 : Int32) (h : Q (.inl (some (vI 0))) S) : V X d MX5_readEach 45 [(0, vR r0), (1, vI x1), (2, vI x2)] [] S Q := by
  refine V_iconst (x := 0) (pc2 := 46) (dk D_X5_readEach 21 rfl) (by decide) rfl ?_
  exact V_zreturn (dk D_X5_readEach 22 rfl) rfl (Or.inl rfl) h
def L_X5_readTry : List (Nat × Instr × Nat) := [(0, .aload_n 0, 1), (1, .getfield 9, 3), (4, .invokevirtual 77, 3), (7, .aload_n 0, 1), (8, .getfield 25, 3), (11, .bipush 40, 2), (13, .iconst 0, 1), (14, .invokevirtual 57, 3), (17, .istore_n 1, 1), (18, .aload_n 0, 1), (19, .invokevirtual 48, 3), (22, .ifCond .ne 5, 3), (25, .iconst 0, 1), (26, .ireturn, 1), (27, .aload_n 0, 1), (28, .getfield 9, 3), (31, .getfield 41, 3), (34, .sipush 206, 3), (37, .if_icmp .eq 28, 3), (40, .aload_n 0, 1), (41, .getfield 9, 3), (44, .getfield 41, 3), (47, .sipush 207, 3), (50, .if_icmp .eq 15, 3), (53, .aload_n 0, 1), (54, .aload_n 0, 1), (55, .getfield 9, 3), (58, .getfield 70, 3), (61, .invokevirtual 73, 3), (64, .ireturn, 1), (65, .aload_n 0, 1), (66, .getfield 25, 3), (69, .bipush 15, 2), (71, .bipush (-9), 2), (73, .invokevirtual 57, 3), (76, .istore_n 2, 1), (77, .aload_n 0, 1), (78, .getfield 25, 3), (81, .iload_n 1, 1), (82, .aload_n 0, 1), (83, .getfield 25, 3), (86, .invokevirtual 61, 3), (89, .invokevirtual 168, 3), (92, .iconst 0, 1), (93, .istore_n 3, 1), (94, .iload_n 3, 1), (95, .sipush 3001, 3), (98, .if_icmp .ge 71, 3), (101, .aload_n 0, 1), (102, .getfield 9, 3), (105, .getfield 41, 3), (108, .sipush 206, 3), (111, .if_icmp .ne 58, 3), (114, .aload_n 0, 1), (115, .invokevirtual 172, 3), (118, .istore 4, 2), (120, .iload 4, 2), (122, .bipush (-9), 2), (124, .if_icmp .eq 10, 3), (127, .aload_n 0, 1), (128, .invokevirtual 48, 3), (131, .ifCond .ne 5, 3), (134, .iconst 0, 1), (135, .ireturn, 1), (136, .aload_n 0, 1), (137, .getfield 25, 3), (140, .bipush 15, 2), (142, .iload_n 2, 1), (143, .invokevirtual 57, 3), (146, .istore_n 2, 1), (147, .aload_n 0, 1), (148, .getfield 25, 3), (151, .iload 4, 2), (153, .aload_n 0, 1), (154, .getfield 25, 3), (157, .invokevirtual 61, 3), (160, .invokevirtual 168, 3), (163, .iinc 3 1, 3), (166, .goto (-72), 3), (169, .iconst 0, 1), (170, .istore_n 3, 1), (171, .iload_n 3, 1), (172, .sipush 3001, 3), (175, .if_icmp .ge 43, 3), (178, .iload_n 2, 1), (179, .bipush (-9), 2), (181, .if_icmp .eq 37, 3), (184, .aload_n 0, 1), (185, .getfield 25, 3), (188, .iload_n 2, 1), (189, .invokevirtual 175, 3), (192, .istore 4, 2), (194, .aload_n 0, 1), (195, .getfield 25, 3), (198, .iload_n 2, 1), (199, .aload_n 0, 1), (200, .getfield 25, 3), (203, .invokevirtual 61, 3), (206, .invokevirtual 168, 3), (209, .iload 4, 2), (211, .istore_n 2, 1), (212, .iinc 3 1, 3), (215, .goto (-44), 3), (218, .aload_n 0, 1), (219, .invokevirtual 179, 3), (222, .ireturn, 1)]
theorem D_X5_readTry : dOk cX5_readTry L_X5_readTry = true := by decide +kernel
theorem w_X5_readTry_0 {X : Cx} {d : Nat} {S : Mem} {Q : Res → Mem → Prop} (r0 : Nat) (h : (isK S r0 5) ∧ (isK S (gR S r0 0) 9) ∧ ∃ e2 : Nat, e2 + 1 ≤ d ∧ C X e2 MX9_next [vR (gR S r0 0)] S (RV fun  S5 => (isK S5 r0 5) ∧ (isK S5 (gR S5 r0 2) 1) ∧ ∃ e8 : Nat, e8 + 1 ≤ d ∧ C X e8 MX1_add [vR (gR S5 r0 2), vI 40, vI 0] S5 (RI fun y11 S12 => (isK S12 r0 5) ∧ ∃ e14 : Nat, e14 + 1 ≤ d ∧ C X e14 MX5_readBlock [vR r0] S12 (RI fun y17 S18 => ((¬ y17 = 0 → (isK S18 r0 5) ∧ (isK S18 (gR S18 r0 0) 9) ∧ (((gI S18 (gR S18 r0 0) 7) = 206 → V X d MX5_readTry 65 [(0, vR r0), (1, vI y11)] [] S18 Q) ∧ (¬ (gI S18 (gR S18 r0 0) 7) = 206 → (((gI S18 (gR S18 r0 0) 7) = 207 → V X d MX5_readTry 65 [(0, vR r0), (1, vI y11)] [] S18 Q) ∧ (¬ (gI S18 (gR S18 r0 0) 7) = 207 → ∃ e25 : Nat, e25 + 1 ≤ d ∧ C X e25 MX5_refuse [vR r0, vI (gI S18 (gR S18 r0 0) 8)] S18 (RI fun y28 S29 => (y28 = 0 ∨ y28 = 1) ∧ Q (.inl (some (vI y28))) S29)))))) ∧ (y17 = 0 → Q (.inl (some (vI 0))) S18)))))) : V X d MX5_readTry 0 [(0, vR r0)] [] S Q := by
  refine V_aload_n (pc2 := 1) (dk D_X5_readTry 0 rfl) rfl (V_lg 0 rfl) rfl ?_
  obtain ⟨h1, h⟩ := h
  refine V_getR kc5 (pc2 := 4) 0 (dk D_X5_readTry 1 rfl) fl_5_9 (by decide) (fun _ => rfl) rfl h1 ?_
  obtain ⟨h6, h⟩ := h
  obtain ⟨e2, he3, hc4⟩ := h
  refine V_callV (as := []) (st := []) (M' := MX9_next) (ci := 9) (pc2 := 7) (dk D_X5_readTry 2 rfl) ml_5_77 mv_X9_next rfl rfl (by decide) rfl (Nat.le_of_ble_eq_true rfl) rfl he3 h6 hc4 (RV.k fun  S5 h => ?_)
  refine V_aload_n (pc2 := 8) (dk D_X5_readTry 3 rfl) rfl (V_lg 0 rfl) rfl ?_
  obtain ⟨h7, h⟩ := h
  refine V_getR kc5 (pc2 := 11) 2 (dk D_X5_readTry 4 rfl) fl_5_25 (by decide) (fun _ => rfl) rfl h7 ?_
  refine V_bipush (x := 40) (pc2 := 13) (dk D_X5_readTry 5 rfl) (by decide) rfl ?_
  refine V_iconst (x := 0) (pc2 := 14) (dk D_X5_readTry 6 rfl) (by decide) rfl ?_
  obtain ⟨h13, h⟩ := h
  obtain ⟨e8, he9, hc10⟩ := h
  refine V_callV (as := [_, _]) (st := []) (M' := MX1_add) (ci := 1) (pc2 := 17) (dk D_X5_readTry 7 rfl) ml_5_57 mv_X1_add rfl rfl (by decide) rfl (Nat.le_of_ble_eq_true rfl) rfl he9 h13 hc10 (RI.k fun y11 S12 h => ?_)
  refine V_istore_n (pc2 := 18) (lv2 := [(0, _), (1, _)]) (dk D_X5_readTry 8 rfl) rfl (by decide) rfl rfl ?_
  refine V_aload_n (pc2 := 19) (dk D_X5_readTry 9 rfl) rfl (V_lg 0 rfl) rfl ?_
  obtain ⟨h19, h⟩ := h
  obtain ⟨e14, he15, hc16⟩ := h
  refine V_callV (as := []) (st := []) (M' := MX5_readBlock) (ci := 5) (pc2 := 22) (dk D_X5_readTry 10 rfl) ml_5_48 mv_X5_readBlock rfl rfl (by decide) rfl (Nat.le_of_ble_eq_true rfl) rfl he15 h19 hc16 (RI.k fun y17 S18 h => ?_)
  refine V_ifne (tgt := 27) (pc2 := 25) (dk D_X5_readTry 11 rfl) (by decide) rfl (fun q20 => ?_) (fun q20 => ?_)
  · have h := h.1 q20
    refine V_aload_n (pc2 := 28) (dk D_X5_readTry 14 rfl) rfl (V_lg 0 rfl) rfl ?_
    obtain ⟨h21, h⟩ := h
    refine V_getR kc5 (pc2 := 31) 0 (dk D_X5_readTry 15 rfl) fl_5_9 (by decide) (fun _ => rfl) rfl h21 ?_
    obtain ⟨h22, h⟩ := h
    refine V_getI kc9 (pc2 := 34) 7 (dk D_X5_readTry 16 rfl) fl_5_41 (by decide) (fun _ => rfl) rfl h22 ?_
    refine V_sipush (x := 206) (pc2 := 37) (dk D_X5_readTry 17 rfl) (by decide) rfl ?_
    refine V_cmpeq (tgt := 65) (pc2 := 40) (dk D_X5_readTry 18 rfl) (by decide) rfl (fun q23 => ?_) (fun q23 => ?_)
    · have h := h.1 q23
      exact h
    · have h := h.2 q23
      refine V_aload_n (pc2 := 41) (dk D_X5_readTry 19 rfl) rfl (V_lg 0 rfl) rfl ?_
      refine V_getR kc5 (pc2 := 44) 0 (dk D_X5_readTry 20 rfl) fl_5_9 (by decide) (fun _ => rfl) rfl h21 ?_
      refine V_getI kc9 (pc2 := 47) 7 (dk D_X5_readTry 21 rfl) fl_5_41 (by decide) (fun _ => rfl) rfl h22 ?_
      refine V_sipush (x := 207) (pc2 := 50) (dk D_X5_readTry 22 rfl) (by decide) rfl ?_
      refine V_cmpeq (tgt := 65) (pc2 := 53) (dk D_X5_readTry 23 rfl) (by decide) rfl (fun q24 => ?_) (fun q24 => ?_)
      · have h := h.1 q24
        exact h
      · have h := h.2 q24
        refine V_aload_n (pc2 := 54) (dk D_X5_readTry 24 rfl) rfl (V_lg 0 rfl) rfl ?_
        refine V_aload_n (pc2 := 55) (dk D_X5_readTry 25 rfl) rfl (V_lg 0 rfl) rfl ?_
        refine V_getR kc5 (pc2 := 58) 0 (dk D_X5_readTry 26 rfl) fl_5_9 (by decide) (fun _ => rfl) rfl h21 ?_
        refine V_getI kc9 (pc2 := 61) 8 (dk D_X5_readTry 27 rfl) fl_5_70 (by decide) (fun _ => rfl) rfl h22 ?_
        obtain ⟨e25, he26, hc27⟩ := h
        refine V_callV (as := [_]) (st := []) (M' := MX5_refuse) (ci := 5) (pc2 := 64) (dk D_X5_readTry 28 rfl) ml_5_73 mv_X5_refuse rfl rfl (by decide) rfl (Nat.le_of_ble_eq_true rfl) rfl he26 h21 hc27 (RI.k fun y28 S29 h => ?_)
        obtain ⟨h30, h⟩ := h
        exact V_zreturn (dk D_X5_readTry 29 rfl) rfl h30 h
  · have h := h.2 q20
    refine V_iconst (x := 0) (pc2 := 26) (dk D_X5_readTry 12 rfl) (by decide) rfl ?_
    exact V_zreturn (dk D_X5_readTry 13 rfl) rfl (Or.inl rfl) h
theorem w_X5_readTry_65 {X : Cx} {d : Nat} {S : Mem} {Q : Res → Mem → Prop} (r0 : Nat) (x1 : Int32) (h : (isK S r0 5) ∧ (isK S (gR S r0 2) 1) ∧ ∃ e2 : Nat, e2 + 1 ≤ d ∧ C X e2 MX1_add [vR (gR S r0 2), vI 15, vI (-9)] S (RI fun y5 S6 => (isK S6 r0 5) ∧ (isK S6 (gR S6 r0 2) 1) ∧ ∃ e9 : Nat, e9 + 1 ≤ d ∧ C X e9 MX1_size [vR (gR S6 r0 2)] S6 (RI fun y12 S13 => (isK S13 (gR S6 r0 2) 1) ∧ ∃ e15 : Nat, e15 + 1 ≤ d ∧ C X e15 MX1_patch [vR (gR S6 r0 2), vI x1, vI y12] S13 (RV fun  S18 => V X d MX5_readTry 94 [(0, vR r0), (1, vI x1), (2, vI y5), (3, vI 0)] [] S18 Q)))) : V X d MX5_readTry 65 [(0, vR r0), (1, vI x1)] [] S Q := by
  refine V_aload_n (pc2 := 66) (dk D_X5_readTry 30 rfl) rfl (V_lg 0 rfl) rfl ?_
  obtain ⟨h1, h⟩ := h
  refine V_getR kc5 (pc2 := 69) 2 (dk D_X5_readTry 31 rfl) fl_5_25 (by decide) (fun _ => rfl) rfl h1 ?_
  refine V_bipush (x := 15) (pc2 := 71) (dk D_X5_readTry 32 rfl) (by decide) rfl ?_
  refine V_bipush (x := (-9)) (pc2 := 73) (dk D_X5_readTry 33 rfl) (by decide) rfl ?_
  obtain ⟨h7, h⟩ := h
  obtain ⟨e2, he3, hc4⟩ := h
  refine V_callV (as := [_, _]) (st := []) (M' := MX1_add) (ci := 1) (pc2 := 76) (dk D_X5_readTry 34 rfl) ml_5_57 mv_X1_add rfl rfl (by decide) rfl (Nat.le_of_ble_eq_true rfl) rfl he3 h7 hc4 (RI.k fun y5 S6 h => ?_)
  refine V_istore_n (pc2 := 77) (lv2 := [(0, _), (1, _), (2, _)]) (dk D_X5_readTry 35 rfl) rfl (by decide) rfl rfl ?_
  refine V_aload_n (pc2 := 78) (dk D_X5_readTry 36 rfl) rfl (V_lg 0 rfl) rfl ?_
  obtain ⟨h8, h⟩ := h
  refine V_getR kc5 (pc2 := 81) 2 (dk D_X5_readTry 37 rfl) fl_5_25 (by decide) (fun _ => rfl) rfl h8 ?_
  refine V_iload_n (pc2 := 82) (dk D_X5_readTry 38 rfl) rfl (V_lg 1 rfl) rfl ?_
  refine V_aload_n (pc2 := 83) (dk D_X5_readTry 39 rfl) rfl (V_lg 0 rfl) rfl ?_
  refine V_getR kc5 (pc2 := 86) 2 (dk D_X5_readTry 40 rfl) fl_5_25 (by decide) (fun _ => rfl) rfl h8 ?_
  obtain ⟨h14, h⟩ := h
  obtain ⟨e9, he10, hc11⟩ := h
  refine V_callV (as := []) (st := [_, _]) (M' := MX1_size) (ci := 1) (pc2 := 89) (dk D_X5_readTry 41 rfl) ml_5_61 mv_X1_size rfl rfl (by decide) rfl (Nat.le_of_ble_eq_true rfl) rfl he10 h14 hc11 (RI.k fun y12 S13 h => ?_)
  obtain ⟨h19, h⟩ := h
  obtain ⟨e15, he16, hc17⟩ := h
  refine V_callV (as := [_, _]) (st := []) (M' := MX1_patch) (ci := 1) (pc2 := 92) (dk D_X5_readTry 42 rfl) ml_5_168 mv_X1_patch rfl rfl (by decide) rfl (Nat.le_of_ble_eq_true rfl) rfl he16 h19 hc17 (RV.k fun  S18 h => ?_)
  refine V_iconst (x := 0) (pc2 := 93) (dk D_X5_readTry 43 rfl) (by decide) rfl ?_
  refine V_istore_n (pc2 := 94) (lv2 := [(0, _), (1, _), (2, _), (3, _)]) (dk D_X5_readTry 44 rfl) rfl (by decide) rfl rfl ?_
  exact h
theorem w_X5_readTry_94 {X : Cx} {d : Nat} {S : Mem} {Q : Res → Mem → Prop} (r0 : Nat) (x1 : Int32) (x2 : Int32) (x3 : Int32) (h : ((3001 ≤ x3 → V X d MX5_readTry 169 [(0, vR r0), (1, vI x1), (2, vI x2), (3, vI x3)] [] S Q) ∧ (¬ 3001 ≤ x3 → (isK S r0 5) ∧ (isK S (gR S r0 0) 9) ∧ ((¬ (gI S (gR S r0 0) 7) = 206 → V X d MX5_readTry 169 [(0, vR r0), (1, vI x1), (2, vI x2), (3, vI x3)] [] S Q) ∧ ((gI S (gR S r0 0) 7) = 206 → ∃ e5 : Nat, e5 + 1 ≤ d ∧ C X e5 MX5_readCatchHead [vR r0] S (RI fun y8 S9 => ((y8 = (-9) → V X d MX5_readTry 134 [(0, vR r0), (1, vI x1), (2, vI x2), (3, vI x3), (4, vI y8)] [] S9 Q) ∧ (¬ y8 = (-9) → (isK S9 r0 5) ∧ ∃ e11 : Nat, e11 + 1 ≤ d ∧ C X e11 MX5_readBlock [vR r0] S9 (RI fun y14 S15 => ((¬ y14 = 0 → (isK S15 r0 5) ∧ (isK S15 (gR S15 r0 2) 1) ∧ ∃ e19 : Nat, e19 + 1 ≤ d ∧ C X e19 MX1_add [vR (gR S15 r0 2), vI 15, vI x2] S15 (RI fun y22 S23 => (isK S23 r0 5) ∧ (isK S23 (gR S23 r0 2) 1) ∧ ∃ e26 : Nat, e26 + 1 ≤ d ∧ C X e26 MX1_size [vR (gR S23 r0 2)] S23 (RI fun y29 S30 => (isK S30 (gR S23 r0 2) 1) ∧ ∃ e32 : Nat, e32 + 1 ≤ d ∧ C X e32 MX1_patch [vR (gR S23 r0 2), vI y8, vI y29] S30 (RV fun  S35 => V X d MX5_readTry 94 [(0, vR r0), (1, vI x1), (2, vI y22), (3, vI (x3 + 1))] [] S35 Q)))) ∧ (y14 = 0 → V X d MX5_readTry 134 [(0, vR r0), (1, vI x1), (2, vI x2), (3, vI x3), (4, vI y8)] [] S15 Q))))))))))) : V X d MX5_readTry 94 [(0, vR r0), (1, vI x1), (2, vI x2), (3, vI x3)] [] S Q := by
  refine V_iload_n (pc2 := 95) (dk D_X5_readTry 45 rfl) rfl (V_lg 3 rfl) rfl ?_
  refine V_sipush (x := 3001) (pc2 := 98) (dk D_X5_readTry 46 rfl) (by decide) rfl ?_
  refine V_cmpge (tgt := 169) (pc2 := 101) (dk D_X5_readTry 47 rfl) (by decide) rfl (fun q1 => ?_) (fun q1 => ?_)
  · have h := h.1 q1
    exact h
  · have h := h.2 q1
    refine V_aload_n (pc2 := 102) (dk D_X5_readTry 48 rfl) rfl (V_lg 0 rfl) rfl ?_
    obtain ⟨h2, h⟩ := h
    refine V_getR kc5 (pc2 := 105) 0 (dk D_X5_readTry 49 rfl) fl_5_9 (by decide) (fun _ => rfl) rfl h2 ?_
    obtain ⟨h3, h⟩ := h
    refine V_getI kc9 (pc2 := 108) 7 (dk D_X5_readTry 50 rfl) fl_5_41 (by decide) (fun _ => rfl) rfl h3 ?_
    refine V_sipush (x := 206) (pc2 := 111) (dk D_X5_readTry 51 rfl) (by decide) rfl ?_
    refine V_cmpne (tgt := 169) (pc2 := 114) (dk D_X5_readTry 52 rfl) (by decide) rfl (fun q4 => ?_) (fun q4 => ?_)
    · have h := h.1 q4
      exact h
    · have h := h.2 q4
      refine V_aload_n (pc2 := 115) (dk D_X5_readTry 53 rfl) rfl (V_lg 0 rfl) rfl ?_
      obtain ⟨e5, he6, hc7⟩ := h
      refine V_callV (as := []) (st := []) (M' := MX5_readCatchHead) (ci := 5) (pc2 := 118) (dk D_X5_readTry 54 rfl) ml_5_172 mv_X5_readCatchHead rfl rfl (by decide) rfl (Nat.le_of_ble_eq_true rfl) rfl he6 h2 hc7 (RI.k fun y8 S9 h => ?_)
      refine V_istore (pc2 := 120) (lv2 := [(0, _), (1, _), (2, _), (3, _), (4, _)]) (dk D_X5_readTry 55 rfl) (by decide) rfl rfl ?_
      refine V_iload (pc2 := 122) (dk D_X5_readTry 56 rfl) (V_lg 4 rfl) rfl ?_
      refine V_bipush (x := (-9)) (pc2 := 124) (dk D_X5_readTry 57 rfl) (by decide) rfl ?_
      refine V_cmpeq (tgt := 134) (pc2 := 127) (dk D_X5_readTry 58 rfl) (by decide) rfl (fun q10 => ?_) (fun q10 => ?_)
      · have h := h.1 q10
        exact h
      · have h := h.2 q10
        refine V_aload_n (pc2 := 128) (dk D_X5_readTry 59 rfl) rfl (V_lg 0 rfl) rfl ?_
        obtain ⟨h16, h⟩ := h
        obtain ⟨e11, he12, hc13⟩ := h
        refine V_callV (as := []) (st := []) (M' := MX5_readBlock) (ci := 5) (pc2 := 131) (dk D_X5_readTry 60 rfl) ml_5_48 mv_X5_readBlock rfl rfl (by decide) rfl (Nat.le_of_ble_eq_true rfl) rfl he12 h16 hc13 (RI.k fun y14 S15 h => ?_)
        refine V_ifne (tgt := 136) (pc2 := 134) (dk D_X5_readTry 61 rfl) (by decide) rfl (fun q17 => ?_) (fun q17 => ?_)
        · have h := h.1 q17
          refine V_aload_n (pc2 := 137) (dk D_X5_readTry 64 rfl) rfl (V_lg 0 rfl) rfl ?_
          obtain ⟨h18, h⟩ := h
          refine V_getR kc5 (pc2 := 140) 2 (dk D_X5_readTry 65 rfl) fl_5_25 (by decide) (fun _ => rfl) rfl h18 ?_
          refine V_bipush (x := 15) (pc2 := 142) (dk D_X5_readTry 66 rfl) (by decide) rfl ?_
          refine V_iload_n (pc2 := 143) (dk D_X5_readTry 67 rfl) rfl (V_lg 2 rfl) rfl ?_
          obtain ⟨h24, h⟩ := h
          obtain ⟨e19, he20, hc21⟩ := h
          refine V_callV (as := [_, _]) (st := []) (M' := MX1_add) (ci := 1) (pc2 := 146) (dk D_X5_readTry 68 rfl) ml_5_57 mv_X1_add rfl rfl (by decide) rfl (Nat.le_of_ble_eq_true rfl) rfl he20 h24 hc21 (RI.k fun y22 S23 h => ?_)
          refine V_istore_n (pc2 := 147) (lv2 := [(0, _), (1, _), (2, _), (3, _), (4, _)]) (dk D_X5_readTry 69 rfl) rfl (by decide) rfl rfl ?_
          refine V_aload_n (pc2 := 148) (dk D_X5_readTry 70 rfl) rfl (V_lg 0 rfl) rfl ?_
          obtain ⟨h25, h⟩ := h
          refine V_getR kc5 (pc2 := 151) 2 (dk D_X5_readTry 71 rfl) fl_5_25 (by decide) (fun _ => rfl) rfl h25 ?_
          refine V_iload (pc2 := 153) (dk D_X5_readTry 72 rfl) (V_lg 4 rfl) rfl ?_
          refine V_aload_n (pc2 := 154) (dk D_X5_readTry 73 rfl) rfl (V_lg 0 rfl) rfl ?_
          refine V_getR kc5 (pc2 := 157) 2 (dk D_X5_readTry 74 rfl) fl_5_25 (by decide) (fun _ => rfl) rfl h25 ?_
          obtain ⟨h31, h⟩ := h
          obtain ⟨e26, he27, hc28⟩ := h
          refine V_callV (as := []) (st := [_, _]) (M' := MX1_size) (ci := 1) (pc2 := 160) (dk D_X5_readTry 75 rfl) ml_5_61 mv_X1_size rfl rfl (by decide) rfl (Nat.le_of_ble_eq_true rfl) rfl he27 h31 hc28 (RI.k fun y29 S30 h => ?_)
          obtain ⟨h36, h⟩ := h
          obtain ⟨e32, he33, hc34⟩ := h
          refine V_callV (as := [_, _]) (st := []) (M' := MX1_patch) (ci := 1) (pc2 := 163) (dk D_X5_readTry 76 rfl) ml_5_168 mv_X1_patch rfl rfl (by decide) rfl (Nat.le_of_ble_eq_true rfl) rfl he33 h36 hc34 (RV.k fun  S35 h => ?_)
          refine V_iinc (y := _ + 1) (pc2 := 166) (lv2 := [(0, _), (1, _), (2, _), (3, _), (4, _)]) (dk D_X5_readTry 77 rfl) (V_lg 3 rfl) rfl (by decide) rfl rfl ?_
          refine V_goto (tgt := 94) (dk D_X5_readTry 78 rfl) (by decide) ?_
          refine V_pick [0, 1, 2, 3] (lv2 := [(0, _), (1, _), (2, _), (3, _)]) rfl ?_
          exact h
        · have h := h.2 q17
          exact h
theorem w_X5_readTry_134 {X : Cx} {d : Nat} {S : Mem} {Q : Res → Mem → Prop} (r0 : Nat) (x1 : Int32) (x2 : Int32) (x3 : Int32) (x4 : Int32) (h : Q (.inl (some (vI 0))) S) : V X d MX5_readTry 134 [(0, vR r0), (1, vI x1), (2, vI x2), (3, vI x3), (4, vI x4)] [] S Q := by
  refine V_iconst (x := 0) (pc2 := 135) (dk D_X5_readTry 62 rfl) (by decide) rfl ?_
  exact V_zreturn (dk D_X5_readTry 63 rfl) rfl (Or.inl rfl) h
theorem w_X5_readTry_169 {X : Cx} {d : Nat} {S : Mem} {Q : Res → Mem → Prop} (r0 : Nat) (x1 : Int32) (x2 : Int32) (x3 : Int32) (h : V X d MX5_readTry 171 [(0, vR r0), (1, vI x1), (2, vI x2), (3, vI 0)] [] S Q) : V X d MX5_readTry 169 [(0, vR r0), (1, vI x1), (2, vI x2), (3, vI x3)] [] S Q := by
  refine V_iconst (x := 0) (pc2 := 170) (dk D_X5_readTry 79 rfl) (by decide) rfl ?_
  refine V_istore_n (pc2 := 171) (lv2 := [(0, _), (1, _), (2, _), (3, _)]) (dk D_X5_readTry 80 rfl) rfl (by decide) rfl rfl ?_
  exact h
theorem w_X5_readTry_171 {X : Cx} {d : Nat} {S : Mem} {Q : Res → Mem → Prop} (r0 : Nat) (x1 : Int32) (x2 : Int32) (x3 : Int32) (h : ((3001 ≤ x3 → V X d MX5_readTry 218 [(0, vR r0), (1, vI x1), (2, vI x2), (3, vI x3)] [] S Q) ∧ (¬ 3001 ≤ x3 → ((x2 = (-9) → V X d MX5_readTry 218 [(0, vR r0), (1, vI x1), (2, vI x2), (3, vI x3)] [] S Q) ∧ (¬ x2 = (-9) → (isK S r0 5) ∧ (isK S (gR S r0 2) 1) ∧ ∃ e4 : Nat, e4 + 1 ≤ d ∧ C X e4 MX1_argument [vR (gR S r0 2), vI x2] S (RI fun y7 S8 => (isK S8 r0 5) ∧ (isK S8 (gR S8 r0 2) 1) ∧ ∃ e11 : Nat, e11 + 1 ≤ d ∧ C X e11 MX1_size [vR (gR S8 r0 2)] S8 (RI fun y14 S15 => (isK S15 (gR S8 r0 2) 1) ∧ ∃ e17 : Nat, e17 + 1 ≤ d ∧ C X e17 MX1_patch [vR (gR S8 r0 2), vI x2, vI y14] S15 (RV fun  S20 => V X d MX5_readTry 171 [(0, vR r0), (1, vI x1), (2, vI y7), (3, vI (x3 + 1))] [] S20 Q)))))))) : V X d MX5_readTry 171 [(0, vR r0), (1, vI x1), (2, vI x2), (3, vI x3)] [] S Q := by
  refine V_iload_n (pc2 := 172) (dk D_X5_readTry 81 rfl) rfl (V_lg 3 rfl) rfl ?_
  refine V_sipush (x := 3001) (pc2 := 175) (dk D_X5_readTry 82 rfl) (by decide) rfl ?_
  refine V_cmpge (tgt := 218) (pc2 := 178) (dk D_X5_readTry 83 rfl) (by decide) rfl (fun q1 => ?_) (fun q1 => ?_)
  · have h := h.1 q1
    exact h
  · have h := h.2 q1
    refine V_iload_n (pc2 := 179) (dk D_X5_readTry 84 rfl) rfl (V_lg 2 rfl) rfl ?_
    refine V_bipush (x := (-9)) (pc2 := 181) (dk D_X5_readTry 85 rfl) (by decide) rfl ?_
    refine V_cmpeq (tgt := 218) (pc2 := 184) (dk D_X5_readTry 86 rfl) (by decide) rfl (fun q2 => ?_) (fun q2 => ?_)
    · have h := h.1 q2
      exact h
    · have h := h.2 q2
      refine V_aload_n (pc2 := 185) (dk D_X5_readTry 87 rfl) rfl (V_lg 0 rfl) rfl ?_
      obtain ⟨h3, h⟩ := h
      refine V_getR kc5 (pc2 := 188) 2 (dk D_X5_readTry 88 rfl) fl_5_25 (by decide) (fun _ => rfl) rfl h3 ?_
      refine V_iload_n (pc2 := 189) (dk D_X5_readTry 89 rfl) rfl (V_lg 2 rfl) rfl ?_
      obtain ⟨h9, h⟩ := h
      obtain ⟨e4, he5, hc6⟩ := h
      refine V_callV (as := [_]) (st := []) (M' := MX1_argument) (ci := 1) (pc2 := 192) (dk D_X5_readTry 90 rfl) ml_5_175 mv_X1_argument rfl rfl (by decide) rfl (Nat.le_of_ble_eq_true rfl) rfl he5 h9 hc6 (RI.k fun y7 S8 h => ?_)
      refine V_istore (pc2 := 194) (lv2 := [(0, _), (1, _), (2, _), (3, _), (4, _)]) (dk D_X5_readTry 91 rfl) (by decide) rfl rfl ?_
      refine V_aload_n (pc2 := 195) (dk D_X5_readTry 92 rfl) rfl (V_lg 0 rfl) rfl ?_
      obtain ⟨h10, h⟩ := h
      refine V_getR kc5 (pc2 := 198) 2 (dk D_X5_readTry 93 rfl) fl_5_25 (by decide) (fun _ => rfl) rfl h10 ?_
      refine V_iload_n (pc2 := 199) (dk D_X5_readTry 94 rfl) rfl (V_lg 2 rfl) rfl ?_
      refine V_aload_n (pc2 := 200) (dk D_X5_readTry 95 rfl) rfl (V_lg 0 rfl) rfl ?_
      refine V_getR kc5 (pc2 := 203) 2 (dk D_X5_readTry 96 rfl) fl_5_25 (by decide) (fun _ => rfl) rfl h10 ?_
      obtain ⟨h16, h⟩ := h
      obtain ⟨e11, he12, hc13⟩ := h
      refine V_callV (as := []) (st := [_, _]) (M' := MX1_size) (ci := 1) (pc2 := 206) (dk D_X5_readTry 97 rfl) ml_5_61 mv_X1_size rfl rfl (by decide) rfl (Nat.le_of_ble_eq_true rfl) rfl he12 h16 hc13 (RI.k fun y14 S15 h => ?_)
      obtain ⟨h21, h⟩ := h
      obtain ⟨e17, he18, hc19⟩ := h
      refine V_callV (as := [_, _]) (st := []) (M' := MX1_patch) (ci := 1) (pc2 := 209) (dk D_X5_readTry 98 rfl) ml_5_168 mv_X1_patch rfl rfl (by decide) rfl (Nat.le_of_ble_eq_true rfl) rfl he18 h21 hc19 (RV.k fun  S20 h => ?_)
      refine V_iload (pc2 := 211) (dk D_X5_readTry 99 rfl) (V_lg 4 rfl) rfl ?_
      refine V_istore_n (pc2 := 212) (lv2 := [(0, _), (1, _), (2, _), (3, _), (4, _)]) (dk D_X5_readTry 100 rfl) rfl (by decide) rfl rfl ?_
      refine V_iinc (y := _ + 1) (pc2 := 215) (lv2 := [(0, _), (1, _), (2, _), (3, _), (4, _)]) (dk D_X5_readTry 101 rfl) (V_lg 3 rfl) rfl (by decide) rfl rfl ?_
      refine V_goto (tgt := 171) (dk D_X5_readTry 102 rfl) (by decide) ?_
      refine V_pick [0, 1, 2, 3] (lv2 := [(0, _), (1, _), (2, _), (3, _)]) rfl ?_
      exact h
theorem w_X5_readTry_218 {X : Cx} {d : Nat} {S : Mem} {Q : Res → Mem → Prop} (r0 : Nat) (x1 : Int32) (x2 : Int32) (x3 : Int32) (h : (isK S r0 5) ∧ ∃ e1 : Nat, e1 + 1 ≤ d ∧ C X e1 MX5_readFinally [vR r0] S (RI fun y4 S5 => (y4 = 0 ∨ y4 = 1) ∧ Q (.inl (some (vI y4))) S5)) : V X d MX5_readTry 218 [(0, vR r0), (1, vI x1), (2, vI x2), (3, vI x3)] [] S Q := by
  refine V_aload_n (pc2 := 219) (dk D_X5_readTry 103 rfl) rfl (V_lg 0 rfl) rfl ?_
  obtain ⟨h6, h⟩ := h
  obtain ⟨e1, he2, hc3⟩ := h
  refine V_callV (as := []) (st := []) (M' := MX5_readFinally) (ci := 5) (pc2 := 222) (dk D_X5_readTry 104 rfl) ml_5_179 mv_X5_readFinally rfl rfl (by decide) rfl (Nat.le_of_ble_eq_true rfl) rfl he2 h6 hc3 (RI.k fun y4 S5 h => ?_)
  obtain ⟨h7, h⟩ := h
  exact V_zreturn (dk D_X5_readTry 105 rfl) rfl h7 h
def L_X5_readCatchHead : List (Nat × Instr × Nat) := [(0, .aload_n 0, 1), (1, .getfield 9, 3), (4, .invokevirtual 77, 3), (7, .iconst (-1), 1), (8, .istore_n 1, 1), (9, .aload_n 0, 1), (10, .getfield 9, 3), (13, .getfield 41, 3), (16, .iconst 3, 1), (17, .if_icmp .eq 15, 3), (20, .aload_n 0, 1), (21, .getfield 9, 3), (24, .getfield 41, 3), (27, .bipush 6, 2), (29, .if_icmp .ne 25, 3), (32, .aload_n 0, 1), (33, .invokevirtual 159, 3), (36, .ifCond .ne 6, 3), (39, .bipush (-9), 2), (41, .ireturn, 1), (42, .aload_n 0, 1), (43, .invokevirtual 162, 3), (46, .istore_n 1, 1), (47, .aload_n 0, 1), (48, .getfield 9, 3), (51, .invokevirtual 77, 3), (54, .aload_n 0, 1), (55, .invokevirtual 90, 3), (58, .ifCond .ne 6, 3), (61, .bipush (-9), 2), (63, .ireturn, 1), (64, .aload_n 0, 1), (65, .getfield 25, 3), (68, .bipush 41, 2), (70, .iload_n 1, 1), (71, .invokevirtual 57, 3), (74, .pop, 1), (75, .aload_n 0, 1), (76, .getfield 25, 3), (79, .bipush 42, 2), (81, .iconst 0, 1), (82, .invokevirtual 57, 3), (85, .istore_n 2, 1), (86, .aload_n 0, 1), (87, .getfield 25, 3), (90, .iconst 3, 1), (91, .aload_n 0, 1), (92, .invokevirtual 150, 3), (95, .invokevirtual 57, 3), (98, .pop, 1), (99, .aload_n 0, 1), (100, .getfield 9, 3), (103, .invokevirtual 77, 3), (106, .iload_n 2, 1), (107, .ireturn, 1)]
theorem D_X5_readCatchHead : dOk cX5_readCatchHead L_X5_readCatchHead = true := by decide +kernel
theorem w_X5_readCatchHead_0 {X : Cx} {d : Nat} {S : Mem} {Q : Res → Mem → Prop} (r0 : Nat) (h : (isK S r0 5) ∧ (isK S (gR S r0 0) 9) ∧ ∃ e2 : Nat, e2 + 1 ≤ d ∧ C X e2 MX9_next [vR (gR S r0 0)] S (RV fun  S5 => (isK S5 r0 5) ∧ (isK S5 (gR S5 r0 0) 9) ∧ (((gI S5 (gR S5 r0 0) 7) = 3 → V X d MX5_readCatchHead 32 [(0, vR r0), (1, vI (-1))] [] S5 Q) ∧ (¬ (gI S5 (gR S5 r0 0) 7) = 3 → ((¬ (gI S5 (gR S5 r0 0) 7) = 6 → V X d MX5_readCatchHead 54 [(0, vR r0), (1, vI (-1))] [] S5 Q) ∧ ((gI S5 (gR S5 r0 0) 7) = 6 → V X d MX5_readCatchHead 32 [(0, vR r0), (1, vI (-1))] [] S5 Q)))))) : V X d MX5_readCatchHead 0 [(0, vR r0)] [] S Q := by
  refine V_aload_n (pc2 := 1) (dk D_X5_readCatchHead 0 rfl) rfl (V_lg 0 rfl) rfl ?_
  obtain ⟨h1, h⟩ := h
  refine V_getR kc5 (pc2 := 4) 0 (dk D_X5_readCatchHead 1 rfl) fl_5_9 (by decide) (fun _ => rfl) rfl h1 ?_
  obtain ⟨h6, h⟩ := h
  obtain ⟨e2, he3, hc4⟩ := h
  refine V_callV (as := []) (st := []) (M' := MX9_next) (ci := 9) (pc2 := 7) (dk D_X5_readCatchHead 2 rfl) ml_5_77 mv_X9_next rfl rfl (by decide) rfl (Nat.le_of_ble_eq_true rfl) rfl he3 h6 hc4 (RV.k fun  S5 h => ?_)
  refine V_iconst (x := (-1)) (pc2 := 8) (dk D_X5_readCatchHead 3 rfl) (by decide) rfl ?_
  refine V_istore_n (pc2 := 9) (lv2 := [(0, _), (1, _)]) (dk D_X5_readCatchHead 4 rfl) rfl (by decide) rfl rfl ?_
  refine V_aload_n (pc2 := 10) (dk D_X5_readCatchHead 5 rfl) rfl (V_lg 0 rfl) rfl ?_
  obtain ⟨h7, h⟩ := h
  refine V_getR kc5 (pc2 := 13) 0 (dk D_X5_readCatchHead 6 rfl) fl_5_9 (by decide) (fun _ => rfl) rfl h7 ?_
  obtain ⟨h8, h⟩ := h
  refine V_getI kc9 (pc2 := 16) 7 (dk D_X5_readCatchHead 7 rfl) fl_5_41 (by decide) (fun _ => rfl) rfl h8 ?_
  refine V_iconst (x := 3) (pc2 := 17) (dk D_X5_readCatchHead 8 rfl) (by decide) rfl ?_
  refine V_cmpeq (tgt := 32) (pc2 := 20) (dk D_X5_readCatchHead 9 rfl) (by decide) rfl (fun q9 => ?_) (fun q9 => ?_)
  · have h := h.1 q9
    exact h
  · have h := h.2 q9
    refine V_aload_n (pc2 := 21) (dk D_X5_readCatchHead 10 rfl) rfl (V_lg 0 rfl) rfl ?_
    refine V_getR kc5 (pc2 := 24) 0 (dk D_X5_readCatchHead 11 rfl) fl_5_9 (by decide) (fun _ => rfl) rfl h7 ?_
    refine V_getI kc9 (pc2 := 27) 7 (dk D_X5_readCatchHead 12 rfl) fl_5_41 (by decide) (fun _ => rfl) rfl h8 ?_
    refine V_bipush (x := 6) (pc2 := 29) (dk D_X5_readCatchHead 13 rfl) (by decide) rfl ?_
    refine V_cmpne (tgt := 54) (pc2 := 32) (dk D_X5_readCatchHead 14 rfl) (by decide) rfl (fun q10 => ?_) (fun q10 => ?_)
    · have h := h.1 q10
      exact h
    · have h := h.2 q10
      exact h
theorem w_X5_readCatchHead_32 {X : Cx} {d : Nat} {S : Mem} {Q : Res → Mem → Prop} (r0 : Nat) (x1 : Int32) (h : (isK S r0 5) ∧ ∃ e1 : Nat, e1 + 1 ≤ d ∧ C X e1 MX5_isNumber [vR r0] S (RI fun y4 S5 => ((¬ y4 = 0 → (isK S5 r0 5) ∧ ∃ e8 : Nat, e8 + 1 ≤ d ∧ C X e8 MX5_numberHere [vR r0] S5 (RI fun y11 S12 => (isK S12 r0 5) ∧ (isK S12 (gR S12 r0 0) 9) ∧ ∃ e15 : Nat, e15 + 1 ≤ d ∧ C X e15 MX9_next [vR (gR S12 r0 0)] S12 (RV fun  S18 => V X d MX5_readCatchHead 54 [(0, vR r0), (1, vI y11)] [] S18 Q))) ∧ (y4 = 0 → Q (.inl (some (vI (-9)))) S5)))) : V X d MX5_readCatchHead 32 [(0, vR r0), (1, vI x1)] [] S Q := by
  refine V_aload_n (pc2 := 33) (dk D_X5_readCatchHead 15 rfl) rfl (V_lg 0 rfl) rfl ?_
  obtain ⟨h6, h⟩ := h
  obtain ⟨e1, he2, hc3⟩ := h
  refine V_callV (as := []) (st := []) (M' := MX5_isNumber) (ci := 5) (pc2 := 36) (dk D_X5_readCatchHead 16 rfl) ml_5_159 mv_X5_isNumber rfl rfl (by decide) rfl (Nat.le_of_ble_eq_true rfl) rfl he2 h6 hc3 (RI.k fun y4 S5 h => ?_)
  refine V_ifne (tgt := 42) (pc2 := 39) (dk D_X5_readCatchHead 17 rfl) (by decide) rfl (fun q7 => ?_) (fun q7 => ?_)
  · have h := h.1 q7
    refine V_aload_n (pc2 := 43) (dk D_X5_readCatchHead 20 rfl) rfl (V_lg 0 rfl) rfl ?_
    obtain ⟨h13, h⟩ := h
    obtain ⟨e8, he9, hc10⟩ := h
    refine V_callV (as := []) (st := []) (M' := MX5_numberHere) (ci := 5) (pc2 := 46) (dk D_X5_readCatchHead 21 rfl) ml_5_162 mv_X5_numberHere rfl rfl (by decide) rfl (Nat.le_of_ble_eq_true rfl) rfl he9 h13 hc10 (RI.k fun y11 S12 h => ?_)
    refine V_istore_n (pc2 := 47) (lv2 := [(0, _), (1, _)]) (dk D_X5_readCatchHead 22 rfl) rfl (by decide) rfl rfl ?_
    refine V_aload_n (pc2 := 48) (dk D_X5_readCatchHead 23 rfl) rfl (V_lg 0 rfl) rfl ?_
    obtain ⟨h14, h⟩ := h
    refine V_getR kc5 (pc2 := 51) 0 (dk D_X5_readCatchHead 24 rfl) fl_5_9 (by decide) (fun _ => rfl) rfl h14 ?_
    obtain ⟨h19, h⟩ := h
    obtain ⟨e15, he16, hc17⟩ := h
    refine V_callV (as := []) (st := []) (M' := MX9_next) (ci := 9) (pc2 := 54) (dk D_X5_readCatchHead 25 rfl) ml_5_77 mv_X9_next rfl rfl (by decide) rfl (Nat.le_of_ble_eq_true rfl) rfl he16 h19 hc17 (RV.k fun  S18 h => ?_)
    exact h
  · have h := h.2 q7
    refine V_bipush (x := (-9)) (pc2 := 41) (dk D_X5_readCatchHead 18 rfl) (by decide) rfl ?_
    exact V_ireturn (dk D_X5_readCatchHead 19 rfl) rfl h
theorem w_X5_readCatchHead_54 {X : Cx} {d : Nat} {S : Mem} {Q : Res → Mem → Prop} (r0 : Nat) (x1 : Int32) (h : (isK S r0 5) ∧ ∃ e1 : Nat, e1 + 1 ≤ d ∧ C X e1 MX5_isName [vR r0] S (RI fun y4 S5 => ((¬ y4 = 0 → (isK S5 r0 5) ∧ (isK S5 (gR S5 r0 2) 1) ∧ ∃ e9 : Nat, e9 + 1 ≤ d ∧ C X e9 MX1_add [vR (gR S5 r0 2), vI 41, vI x1] S5 (RI fun y12 S13 => (isK S13 r0 5) ∧ (isK S13 (gR S13 r0 2) 1) ∧ ∃ e16 : Nat, e16 + 1 ≤ d ∧ C X e16 MX1_add [vR (gR S13 r0 2), vI 42, vI 0] S13 (RI fun y19 S20 => (isK S20 r0 5) ∧ ∃ e23 : Nat, e23 + 1 ≤ d ∧ C X e23 MX5_declareHere [vR r0] S20 (RI fun y26 S27 => (isK S27 (gR S20 r0 2) 1) ∧ ∃ e28 : Nat, e28 + 1 ≤ d ∧ C X e28 MX1_add [vR (gR S20 r0 2), vI 3, vI y26] S27 (RI fun y31 S32 => (isK S32 r0 5) ∧ (isK S32 (gR S32 r0 0) 9) ∧ ∃ e35 : Nat, e35 + 1 ≤ d ∧ C X e35 MX9_next [vR (gR S32 r0 0)] S32 (RV fun  S38 => Q (.inl (some (vI y19))) S38)))))) ∧ (y4 = 0 → Q (.inl (some (vI (-9)))) S5)))) : V X d MX5_readCatchHead 54 [(0, vR r0), (1, vI x1)] [] S Q := by
  refine V_aload_n (pc2 := 55) (dk D_X5_readCatchHead 26 rfl) rfl (V_lg 0 rfl) rfl ?_
  obtain ⟨h6, h⟩ := h
  obtain ⟨e1, he2, hc3⟩ := h
  refine V_callV (as := []) (st := []) (M' := MX5_isName) (ci := 5) (pc2 := 58) (dk D_X5_readCatchHead 27 rfl) ml_5_90 mv_X5_isName rfl rfl (by decide) rfl (Nat.le_of_ble_eq_true rfl) rfl he2 h6 hc3 (RI.k fun y4 S5 h => ?_)
  refine V_ifne (tgt := 64) (pc2 := 61) (dk D_X5_readCatchHead 28 rfl) (by decide) rfl (fun q7 => ?_) (fun q7 => ?_)
  · have h := h.1 q7
    refine V_aload_n (pc2 := 65) (dk D_X5_readCatchHead 31 rfl) rfl (V_lg 0 rfl) rfl ?_
    obtain ⟨h8, h⟩ := h
    refine V_getR kc5 (pc2 := 68) 2 (dk D_X5_readCatchHead 32 rfl) fl_5_25 (by decide) (fun _ => rfl) rfl h8 ?_
    refine V_bipush (x := 41) (pc2 := 70) (dk D_X5_readCatchHead 33 rfl) (by decide) rfl ?_
    refine V_iload_n (pc2 := 71) (dk D_X5_readCatchHead 34 rfl) rfl (V_lg 1 rfl) rfl ?_
    obtain ⟨h14, h⟩ := h
    obtain ⟨e9, he10, hc11⟩ := h
    refine V_callV (as := [_, _]) (st := []) (M' := MX1_add) (ci := 1) (pc2 := 74) (dk D_X5_readCatchHead 35 rfl) ml_5_57 mv_X1_add rfl rfl (by decide) rfl (Nat.le_of_ble_eq_true rfl) rfl he10 h14 hc11 (RI.k fun y12 S13 h => ?_)
    refine V_pop (pc2 := 75) (dk D_X5_readCatchHead 36 rfl) rfl rfl ?_
    refine V_aload_n (pc2 := 76) (dk D_X5_readCatchHead 37 rfl) rfl (V_lg 0 rfl) rfl ?_
    obtain ⟨h15, h⟩ := h
    refine V_getR kc5 (pc2 := 79) 2 (dk D_X5_readCatchHead 38 rfl) fl_5_25 (by decide) (fun _ => rfl) rfl h15 ?_
    refine V_bipush (x := 42) (pc2 := 81) (dk D_X5_readCatchHead 39 rfl) (by decide) rfl ?_
    refine V_iconst (x := 0) (pc2 := 82) (dk D_X5_readCatchHead 40 rfl) (by decide) rfl ?_
    obtain ⟨h21, h⟩ := h
    obtain ⟨e16, he17, hc18⟩ := h
    refine V_callV (as := [_, _]) (st := []) (M' := MX1_add) (ci := 1) (pc2 := 85) (dk D_X5_readCatchHead 41 rfl) ml_5_57 mv_X1_add rfl rfl (by decide) rfl (Nat.le_of_ble_eq_true rfl) rfl he17 h21 hc18 (RI.k fun y19 S20 h => ?_)
    refine V_istore_n (pc2 := 86) (lv2 := [(0, _), (1, _), (2, _)]) (dk D_X5_readCatchHead 42 rfl) rfl (by decide) rfl rfl ?_
    refine V_aload_n (pc2 := 87) (dk D_X5_readCatchHead 43 rfl) rfl (V_lg 0 rfl) rfl ?_
    obtain ⟨h22, h⟩ := h
    refine V_getR kc5 (pc2 := 90) 2 (dk D_X5_readCatchHead 44 rfl) fl_5_25 (by decide) (fun _ => rfl) rfl h22 ?_
    refine V_iconst (x := 3) (pc2 := 91) (dk D_X5_readCatchHead 45 rfl) (by decide) rfl ?_
    refine V_aload_n (pc2 := 92) (dk D_X5_readCatchHead 46 rfl) rfl (V_lg 0 rfl) rfl ?_
    obtain ⟨e23, he24, hc25⟩ := h
    refine V_callV (as := []) (st := [_, _]) (M' := MX5_declareHere) (ci := 5) (pc2 := 95) (dk D_X5_readCatchHead 47 rfl) ml_5_150 mv_X5_declareHere rfl rfl (by decide) rfl (Nat.le_of_ble_eq_true rfl) rfl he24 h22 hc25 (RI.k fun y26 S27 h => ?_)
    obtain ⟨h33, h⟩ := h
    obtain ⟨e28, he29, hc30⟩ := h
    refine V_callV (as := [_, _]) (st := []) (M' := MX1_add) (ci := 1) (pc2 := 98) (dk D_X5_readCatchHead 48 rfl) ml_5_57 mv_X1_add rfl rfl (by decide) rfl (Nat.le_of_ble_eq_true rfl) rfl he29 h33 hc30 (RI.k fun y31 S32 h => ?_)
    refine V_pop (pc2 := 99) (dk D_X5_readCatchHead 49 rfl) rfl rfl ?_
    refine V_aload_n (pc2 := 100) (dk D_X5_readCatchHead 50 rfl) rfl (V_lg 0 rfl) rfl ?_
    obtain ⟨h34, h⟩ := h
    refine V_getR kc5 (pc2 := 103) 0 (dk D_X5_readCatchHead 51 rfl) fl_5_9 (by decide) (fun _ => rfl) rfl h34 ?_
    obtain ⟨h39, h⟩ := h
    obtain ⟨e35, he36, hc37⟩ := h
    refine V_callV (as := []) (st := []) (M' := MX9_next) (ci := 9) (pc2 := 106) (dk D_X5_readCatchHead 52 rfl) ml_5_77 mv_X9_next rfl rfl (by decide) rfl (Nat.le_of_ble_eq_true rfl) rfl he36 h39 hc37 (RV.k fun  S38 h => ?_)
    refine V_iload_n (pc2 := 107) (dk D_X5_readCatchHead 53 rfl) rfl (V_lg 2 rfl) rfl ?_
    exact V_ireturn (dk D_X5_readCatchHead 54 rfl) rfl h
  · have h := h.2 q7
    refine V_bipush (x := (-9)) (pc2 := 63) (dk D_X5_readCatchHead 29 rfl) (by decide) rfl ?_
    exact V_ireturn (dk D_X5_readCatchHead 30 rfl) rfl h
def L_X5_readFinally : List (Nat × Instr × Nat) := [(0, .aload_n 0, 1), (1, .getfield 9, 3), (4, .getfield 41, 3), (7, .sipush 207, 3), (10, .if_icmp .eq 16, 3), (13, .aload_n 0, 1), (14, .getfield 25, 3), (17, .bipush 44, 2), (19, .iconst 0, 1), (20, .invokevirtual 57, 3), (23, .pop, 1), (24, .iconst 1, 1), (25, .ireturn, 1), (26, .aload_n 0, 1), (27, .getfield 9, 3), (30, .invokevirtual 77, 3), (33, .aload_n 0, 1), (34, .getfield 25, 3), (37, .bipush 43, 2), (39, .iconst 0, 1), (40, .invokevirtual 57, 3), (43, .pop, 1), (44, .aload_n 0, 1), (45, .invokevirtual 48, 3), (48, .ifCond .ne 5, 3), (51, .iconst 0, 1), (52, .ireturn, 1), (53, .aload_n 0, 1), (54, .getfield 25, 3), (57, .bipush 45, 2), (59, .iconst 0, 1), (60, .invokevirtual 57, 3), (63, .pop, 1), (64, .iconst 1, 1), (65, .ireturn, 1)]
theorem D_X5_readFinally : dOk cX5_readFinally L_X5_readFinally = true := by decide +kernel
theorem w_X5_readFinally_0 {X : Cx} {d : Nat} {S : Mem} {Q : Res → Mem → Prop} (r0 : Nat) (h : (isK S r0 5) ∧ (isK S (gR S r0 0) 9) ∧ (((gI S (gR S r0 0) 7) = 207 → ∃ e4 : Nat, e4 + 1 ≤ d ∧ C X e4 MX9_next [vR (gR S r0 0)] S (RV fun  S7 => (isK S7 r0 5) ∧ (isK S7 (gR S7 r0 2) 1) ∧ ∃ e9 : Nat, e9 + 1 ≤ d ∧ C X e9 MX1_add [vR (gR S7 r0 2), vI 43, vI 0] S7 (RI fun y12 S13 => (isK S13 r0 5) ∧ ∃ e15 : Nat, e15 + 1 ≤ d ∧ C X e15 MX5_readBlock [vR r0] S13 (RI fun y18 S19 => ((¬ y18 = 0 → (isK S19 r0 5) ∧ (isK S19 (gR S19 r0 2) 1) ∧ ∃ e23 : Nat, e23 + 1 ≤ d ∧ C X e23 MX1_add [vR (gR S19 r0 2), vI 45, vI 0] S19 (RI fun y26 S27 => Q (.inl (some (vI 1))) S27)) ∧ (y18 = 0 → Q (.inl (some (vI 0))) S19)))))) ∧ (¬ (gI S (gR S r0 0) 7) = 207 → (isK S (gR S r0 2) 1) ∧ ∃ e29 : Nat, e29 + 1 ≤ d ∧ C X e29 MX1_add [vR (gR S r0 2), vI 44, vI 0] S (RI fun y32 S33 => Q (.inl (some (vI 1))) S33)))) : V X d MX5_readFinally 0 [(0, vR r0)] [] S Q := by
  refine V_aload_n (pc2 := 1) (dk D_X5_readFinally 0 rfl) rfl (V_lg 0 rfl) rfl ?_
  obtain ⟨h1, h⟩ := h
  refine V_getR kc5 (pc2 := 4) 0 (dk D_X5_readFinally 1 rfl) fl_5_9 (by decide) (fun _ => rfl) rfl h1 ?_
  obtain ⟨h2, h⟩ := h
  refine V_getI kc9 (pc2 := 7) 7 (dk D_X5_readFinally 2 rfl) fl_5_41 (by decide) (fun _ => rfl) rfl h2 ?_
  refine V_sipush (x := 207) (pc2 := 10) (dk D_X5_readFinally 3 rfl) (by decide) rfl ?_
  refine V_cmpeq (tgt := 26) (pc2 := 13) (dk D_X5_readFinally 4 rfl) (by decide) rfl (fun q3 => ?_) (fun q3 => ?_)
  · have h := h.1 q3
    refine V_aload_n (pc2 := 27) (dk D_X5_readFinally 13 rfl) rfl (V_lg 0 rfl) rfl ?_
    refine V_getR kc5 (pc2 := 30) 0 (dk D_X5_readFinally 14 rfl) fl_5_9 (by decide) (fun _ => rfl) rfl h1 ?_
    obtain ⟨e4, he5, hc6⟩ := h
    refine V_callV (as := []) (st := []) (M' := MX9_next) (ci := 9) (pc2 := 33) (dk D_X5_readFinally 15 rfl) ml_5_77 mv_X9_next rfl rfl (by decide) rfl (Nat.le_of_ble_eq_true rfl) rfl he5 h2 hc6 (RV.k fun  S7 h => ?_)
    refine V_aload_n (pc2 := 34) (dk D_X5_readFinally 16 rfl) rfl (V_lg 0 rfl) rfl ?_
    obtain ⟨h8, h⟩ := h
    refine V_getR kc5 (pc2 := 37) 2 (dk D_X5_readFinally 17 rfl) fl_5_25 (by decide) (fun _ => rfl) rfl h8 ?_
    refine V_bipush (x := 43) (pc2 := 39) (dk D_X5_readFinally 18 rfl) (by decide) rfl ?_
    refine V_iconst (x := 0) (pc2 := 40) (dk D_X5_readFinally 19 rfl) (by decide) rfl ?_
    obtain ⟨h14, h⟩ := h
    obtain ⟨e9, he10, hc11⟩ := h
    refine V_callV (as := [_, _]) (st := []) (M' := MX1_add) (ci := 1) (pc2 := 43) (dk D_X5_readFinally 20 rfl) ml_5_57 mv_X1_add rfl rfl (by decide) rfl (Nat.le_of_ble_eq_true rfl) rfl he10 h14 hc11 (RI.k fun y12 S13 h => ?_)
    refine V_pop (pc2 := 44) (dk D_X5_readFinally 21 rfl) rfl rfl ?_
    refine V_aload_n (pc2 := 45) (dk D_X5_readFinally 22 rfl) rfl (V_lg 0 rfl) rfl ?_
    obtain ⟨h20, h⟩ := h
    obtain ⟨e15, he16, hc17⟩ := h
    refine V_callV (as := []) (st := []) (M' := MX5_readBlock) (ci := 5) (pc2 := 48) (dk D_X5_readFinally 23 rfl) ml_5_48 mv_X5_readBlock rfl rfl (by decide) rfl (Nat.le_of_ble_eq_true rfl) rfl he16 h20 hc17 (RI.k fun y18 S19 h => ?_)
    refine V_ifne (tgt := 53) (pc2 := 51) (dk D_X5_readFinally 24 rfl) (by decide) rfl (fun q21 => ?_) (fun q21 => ?_)
    · have h := h.1 q21
      refine V_aload_n (pc2 := 54) (dk D_X5_readFinally 27 rfl) rfl (V_lg 0 rfl) rfl ?_
      obtain ⟨h22, h⟩ := h
      refine V_getR kc5 (pc2 := 57) 2 (dk D_X5_readFinally 28 rfl) fl_5_25 (by decide) (fun _ => rfl) rfl h22 ?_
      refine V_bipush (x := 45) (pc2 := 59) (dk D_X5_readFinally 29 rfl) (by decide) rfl ?_
      refine V_iconst (x := 0) (pc2 := 60) (dk D_X5_readFinally 30 rfl) (by decide) rfl ?_
      obtain ⟨h28, h⟩ := h
      obtain ⟨e23, he24, hc25⟩ := h
      refine V_callV (as := [_, _]) (st := []) (M' := MX1_add) (ci := 1) (pc2 := 63) (dk D_X5_readFinally 31 rfl) ml_5_57 mv_X1_add rfl rfl (by decide) rfl (Nat.le_of_ble_eq_true rfl) rfl he24 h28 hc25 (RI.k fun y26 S27 h => ?_)
      refine V_pop (pc2 := 64) (dk D_X5_readFinally 32 rfl) rfl rfl ?_
      refine V_iconst (x := 1) (pc2 := 65) (dk D_X5_readFinally 33 rfl) (by decide) rfl ?_
      exact V_zreturn (dk D_X5_readFinally 34 rfl) rfl (Or.inr rfl) h
    · have h := h.2 q21
      refine V_iconst (x := 0) (pc2 := 52) (dk D_X5_readFinally 25 rfl) (by decide) rfl ?_
      exact V_zreturn (dk D_X5_readFinally 26 rfl) rfl (Or.inl rfl) h
  · have h := h.2 q3
    refine V_aload_n (pc2 := 14) (dk D_X5_readFinally 5 rfl) rfl (V_lg 0 rfl) rfl ?_
    refine V_getR kc5 (pc2 := 17) 2 (dk D_X5_readFinally 6 rfl) fl_5_25 (by decide) (fun _ => rfl) rfl h1 ?_
    refine V_bipush (x := 44) (pc2 := 19) (dk D_X5_readFinally 7 rfl) (by decide) rfl ?_
    refine V_iconst (x := 0) (pc2 := 20) (dk D_X5_readFinally 8 rfl) (by decide) rfl ?_
    obtain ⟨h34, h⟩ := h
    obtain ⟨e29, he30, hc31⟩ := h
    refine V_callV (as := [_, _]) (st := []) (M' := MX1_add) (ci := 1) (pc2 := 23) (dk D_X5_readFinally 9 rfl) ml_5_57 mv_X1_add rfl rfl (by decide) rfl (Nat.le_of_ble_eq_true rfl) rfl he30 h34 hc31 (RI.k fun y32 S33 h => ?_)
    refine V_pop (pc2 := 24) (dk D_X5_readFinally 10 rfl) rfl rfl ?_
    refine V_iconst (x := 1) (pc2 := 25) (dk D_X5_readFinally 11 rfl) (by decide) rfl ?_
    exact V_zreturn (dk D_X5_readFinally 12 rfl) rfl (Or.inr rfl) h
def L_X5_readComparison : List (Nat × Instr × Nat) := [(0, .aload_n 0, 1), (1, .invokevirtual 184, 3), (4, .ifCond .ne 5, 3), (7, .iconst 0, 1), (8, .ireturn, 1), (9, .aload_n 0, 1), (10, .getfield 9, 3), (13, .getfield 41, 3), (16, .istore_n 1, 1), (17, .iload_n 1, 1), (18, .bipush 60, 2), (20, .if_icmp .eq 10, 3), (23, .iload_n 1, 1), (24, .iconst 4, 1), (25, .if_icmp .eq 5, 3), (28, .iconst 1, 1), (29, .ireturn, 1), (30, .aload_n 0, 1), (31, .getfield 9, 3), (34, .invokevirtual 77, 3), (37, .aload_n 0, 1), (38, .invokevirtual 184, 3), (41, .ifCond .ne 5, 3), (44, .iconst 0, 1), (45, .ireturn, 1), (46, .aload_n 0, 1), (47, .getfield 25, 3), (50, .iload_n 1, 1), (51, .bipush 60, 2), (53, .if_icmp .ne 8, 3), (56, .bipush 13, 2), (58, .goto 5, 3), (61, .bipush 14, 2), (63, .iconst 0, 1), (64, .invokevirtual 57, 3), (67, .pop, 1), (68, .iconst 1, 1), (69, .ireturn, 1)]
theorem D_X5_readComparison : dOk cX5_readComparison L_X5_readComparison = true := by decide +kernel
theorem w_X5_readComparison_0 {X : Cx} {d : Nat} {S : Mem} {Q : Res → Mem → Prop} (r0 : Nat) (h : (isK S r0 5) ∧ ∃ e1 : Nat, e1 + 1 ≤ d ∧ C X e1 MX5_readSum [vR r0] S (RI fun y4 S5 => ((¬ y4 = 0 → (isK S5 r0 5) ∧ (isK S5 (gR S5 r0 0) 9) ∧ (((gI S5 (gR S5 r0 0) 7) = 60 → V X d MX5_readComparison 30 [(0, vR r0), (1, vI (gI S5 (gR S5 r0 0) 7))] [] S5 Q) ∧ (¬ (gI S5 (gR S5 r0 0) 7) = 60 → (((gI S5 (gR S5 r0 0) 7) = 4 → V X d MX5_readComparison 30 [(0, vR r0), (1, vI (gI S5 (gR S5 r0 0) 7))] [] S5 Q) ∧ (¬ (gI S5 (gR S5 r0 0) 7) = 4 → Q (.inl (some (vI 1))) S5))))) ∧ (y4 = 0 → Q (.inl (some (vI 0))) S5)))) : V X d MX5_readComparison 0 [(0, vR r0)] [] S Q := by
  refine V_aload_n (pc2 := 1) (dk D_X5_readComparison 0 rfl) rfl (V_lg 0 rfl) rfl ?_
  obtain ⟨h6, h⟩ := h
  obtain ⟨e1, he2, hc3⟩ := h
  refine V_callV (as := []) (st := []) (M' := MX5_readSum) (ci := 5) (pc2 := 4) (dk D_X5_readComparison 1 rfl) ml_5_184 mv_X5_readSum rfl rfl (by decide) rfl (Nat.le_of_ble_eq_true rfl) rfl he2 h6 hc3 (RI.k fun y4 S5 h => ?_)
  refine V_ifne (tgt := 9) (pc2 := 7) (dk D_X5_readComparison 2 rfl) (by decide) rfl (fun q7 => ?_) (fun q7 => ?_)
  · have h := h.1 q7
    refine V_aload_n (pc2 := 10) (dk D_X5_readComparison 5 rfl) rfl (V_lg 0 rfl) rfl ?_
    obtain ⟨h8, h⟩ := h
    refine V_getR kc5 (pc2 := 13) 0 (dk D_X5_readComparison 6 rfl) fl_5_9 (by decide) (fun _ => rfl) rfl h8 ?_
    obtain ⟨h9, h⟩ := h
    refine V_getI kc9 (pc2 := 16) 7 (dk D_X5_readComparison 7 rfl) fl_5_41 (by decide) (fun _ => rfl) rfl h9 ?_
    refine V_istore_n (pc2 := 17) (lv2 := [(0, _), (1, _)]) (dk D_X5_readComparison 8 rfl) rfl (by decide) rfl rfl ?_
    refine V_iload_n (pc2 := 18) (dk D_X5_readComparison 9 rfl) rfl (V_lg 1 rfl) rfl ?_
    refine V_bipush (x := 60) (pc2 := 20) (dk D_X5_readComparison 10 rfl) (by decide) rfl ?_
    refine V_cmpeq (tgt := 30) (pc2 := 23) (dk D_X5_readComparison 11 rfl) (by decide) rfl (fun q10 => ?_) (fun q10 => ?_)
    · have h := h.1 q10
      exact h
    · have h := h.2 q10
      refine V_iload_n (pc2 := 24) (dk D_X5_readComparison 12 rfl) rfl (V_lg 1 rfl) rfl ?_
      refine V_iconst (x := 4) (pc2 := 25) (dk D_X5_readComparison 13 rfl) (by decide) rfl ?_
      refine V_cmpeq (tgt := 30) (pc2 := 28) (dk D_X5_readComparison 14 rfl) (by decide) rfl (fun q11 => ?_) (fun q11 => ?_)
      · have h := h.1 q11
        exact h
      · have h := h.2 q11
        refine V_iconst (x := 1) (pc2 := 29) (dk D_X5_readComparison 15 rfl) (by decide) rfl ?_
        exact V_zreturn (dk D_X5_readComparison 16 rfl) rfl (Or.inr rfl) h
  · have h := h.2 q7
    refine V_iconst (x := 0) (pc2 := 8) (dk D_X5_readComparison 3 rfl) (by decide) rfl ?_
    exact V_zreturn (dk D_X5_readComparison 4 rfl) rfl (Or.inl rfl) h
theorem w_X5_readComparison_30 {X : Cx} {d : Nat} {S : Mem} {Q : Res → Mem → Prop} (r0 : Nat) (x1 : Int32) (h : (isK S r0 5) ∧ (isK S (gR S r0 0) 9) ∧ ∃ e2 : Nat, e2 + 1 ≤ d ∧ C X e2 MX9_next [vR (gR S r0 0)] S (RV fun  S5 => (isK S5 r0 5) ∧ ∃ e7 : Nat, e7 + 1 ≤ d ∧ C X e7 MX5_readSum [vR r0] S5 (RI fun y10 S11 => ((¬ y10 = 0 → (isK S11 r0 5) ∧ ((¬ x1 = 60 → V X d MX5_readComparison 63 [(0, vR r0), (1, vI x1)] [vI 14, vR (gR S11 r0 2)] S11 Q) ∧ (x1 = 60 → V X d MX5_readComparison 63 [(0, vR r0), (1, vI x1)] [vI 13, vR (gR S11 r0 2)] S11 Q))) ∧ (y10 = 0 → Q (.inl (some (vI 0))) S11))))) : V X d MX5_readComparison 30 [(0, vR r0), (1, vI x1)] [] S Q := by
  refine V_aload_n (pc2 := 31) (dk D_X5_readComparison 17 rfl) rfl (V_lg 0 rfl) rfl ?_
  obtain ⟨h1, h⟩ := h
  refine V_getR kc5 (pc2 := 34) 0 (dk D_X5_readComparison 18 rfl) fl_5_9 (by decide) (fun _ => rfl) rfl h1 ?_
  obtain ⟨h6, h⟩ := h
  obtain ⟨e2, he3, hc4⟩ := h
  refine V_callV (as := []) (st := []) (M' := MX9_next) (ci := 9) (pc2 := 37) (dk D_X5_readComparison 19 rfl) ml_5_77 mv_X9_next rfl rfl (by decide) rfl (Nat.le_of_ble_eq_true rfl) rfl he3 h6 hc4 (RV.k fun  S5 h => ?_)
  refine V_aload_n (pc2 := 38) (dk D_X5_readComparison 20 rfl) rfl (V_lg 0 rfl) rfl ?_
  obtain ⟨h12, h⟩ := h
  obtain ⟨e7, he8, hc9⟩ := h
  refine V_callV (as := []) (st := []) (M' := MX5_readSum) (ci := 5) (pc2 := 41) (dk D_X5_readComparison 21 rfl) ml_5_184 mv_X5_readSum rfl rfl (by decide) rfl (Nat.le_of_ble_eq_true rfl) rfl he8 h12 hc9 (RI.k fun y10 S11 h => ?_)
  refine V_ifne (tgt := 46) (pc2 := 44) (dk D_X5_readComparison 22 rfl) (by decide) rfl (fun q13 => ?_) (fun q13 => ?_)
  · have h := h.1 q13
    refine V_aload_n (pc2 := 47) (dk D_X5_readComparison 25 rfl) rfl (V_lg 0 rfl) rfl ?_
    obtain ⟨h14, h⟩ := h
    refine V_getR kc5 (pc2 := 50) 2 (dk D_X5_readComparison 26 rfl) fl_5_25 (by decide) (fun _ => rfl) rfl h14 ?_
    refine V_iload_n (pc2 := 51) (dk D_X5_readComparison 27 rfl) rfl (V_lg 1 rfl) rfl ?_
    refine V_bipush (x := 60) (pc2 := 53) (dk D_X5_readComparison 28 rfl) (by decide) rfl ?_
    refine V_cmpne (tgt := 61) (pc2 := 56) (dk D_X5_readComparison 29 rfl) (by decide) rfl (fun q15 => ?_) (fun q15 => ?_)
    · have h := h.1 q15
      refine V_bipush (x := 14) (pc2 := 63) (dk D_X5_readComparison 32 rfl) (by decide) rfl ?_
      exact h
    · have h := h.2 q15
      refine V_bipush (x := 13) (pc2 := 58) (dk D_X5_readComparison 30 rfl) (by decide) rfl ?_
      refine V_goto (tgt := 63) (dk D_X5_readComparison 31 rfl) (by decide) ?_
      exact h
  · have h := h.2 q13
    refine V_iconst (x := 0) (pc2 := 45) (dk D_X5_readComparison 23 rfl) (by decide) rfl ?_
    exact V_zreturn (dk D_X5_readComparison 24 rfl) rfl (Or.inl rfl) h
theorem w_X5_readComparison_63 {X : Cx} {d : Nat} {S : Mem} {Q : Res → Mem → Prop} (r0 : Nat) (x1 : Int32) (t0 : Nat) (t1 : Int32) (h : (isK S t0 1) ∧ ∃ e1 : Nat, e1 + 1 ≤ d ∧ C X e1 MX1_add [vR t0, vI t1, vI 0] S (RI fun y4 S5 => Q (.inl (some (vI 1))) S5)) : V X d MX5_readComparison 63 [(0, vR r0), (1, vI x1)] [vI t1, vR t0] S Q := by
  refine V_iconst (x := 0) (pc2 := 64) (dk D_X5_readComparison 33 rfl) (by decide) rfl ?_
  obtain ⟨h6, h⟩ := h
  obtain ⟨e1, he2, hc3⟩ := h
  refine V_callV (as := [_, _]) (st := []) (M' := MX1_add) (ci := 1) (pc2 := 67) (dk D_X5_readComparison 34 rfl) ml_5_57 mv_X1_add rfl rfl (by decide) rfl (Nat.le_of_ble_eq_true rfl) rfl he2 h6 hc3 (RI.k fun y4 S5 h => ?_)
  refine V_pop (pc2 := 68) (dk D_X5_readComparison 35 rfl) rfl rfl ?_
  refine V_iconst (x := 1) (pc2 := 69) (dk D_X5_readComparison 36 rfl) (by decide) rfl ?_
  exact V_zreturn (dk D_X5_readComparison 37 rfl) rfl (Or.inr rfl) h
def L_X5_readSum : List (Nat × Instr × Nat) := [(0, .aload_n 0, 1), (1, .invokevirtual 187, 3), (4, .istore_n 1, 1), (5, .iconst 0, 1), (6, .istore_n 2, 1), (7, .iload_n 2, 1), (8, .sipush 3001, 3), (11, .if_icmp .ge 79, 3), (14, .iload_n 1, 1), (15, .ifCond .eq 75, 3), (18, .aload_n 0, 1), (19, .getfield 9, 3), (22, .getfield 41, 3), (25, .bipush 43, 2), (27, .if_icmp .eq 15, 3), (30, .aload_n 0, 1), (31, .getfield 9, 3), (34, .getfield 41, 3), (37, .bipush 45, 2), (39, .if_icmp .ne 51, 3), (42, .aload_n 0, 1), (43, .getfield 9, 3), (46, .getfield 41, 3), (49, .bipush 43, 2), (51, .if_icmp .ne 8, 3), (54, .bipush 8, 2), (56, .goto 5, 3), (59, .bipush 9, 2), (61, .istore_n 3, 1), (62, .aload_n 0, 1), (63, .getfield 9, 3), (66, .invokevirtual 77, 3), (69, .aload_n 0, 1), (70, .invokevirtual 187, 3), (73, .istore_n 1, 1), (74, .aload_n 0, 1), (75, .getfield 25, 3), (78, .iload_n 3, 1), (79, .iconst 0, 1), (80, .invokevirtual 57, 3), (83, .pop, 1), (84, .iinc 2 1, 3), (87, .goto (-80), 3), (90, .iload_n 1, 1), (91, .ireturn, 1)]
theorem D_X5_readSum : dOk cX5_readSum L_X5_readSum = true := by decide +kernel
theorem w_X5_readSum_0 {X : Cx} {d : Nat} {S : Mem} {Q : Res → Mem → Prop} (r0 : Nat) (h : (isK S r0 5) ∧ ∃ e1 : Nat, e1 + 1 ≤ d ∧ C X e1 MX5_readProduct [vR r0] S (RI fun y4 S5 => V X d MX5_readSum 7 [(0, vR r0), (1, vI y4), (2, vI 0)] [] S5 Q)) : V X d MX5_readSum 0 [(0, vR r0)] [] S Q := by
  refine V_aload_n (pc2 := 1) (dk D_X5_readSum 0 rfl) rfl (V_lg 0 rfl) rfl ?_
  obtain ⟨h6, h⟩ := h
  obtain ⟨e1, he2, hc3⟩ := h
  refine V_callV (as := []) (st := []) (M' := MX5_readProduct) (ci := 5) (pc2 := 4) (dk D_X5_readSum 1 rfl) ml_5_187 mv_X5_readProduct rfl rfl (by decide) rfl (Nat.le_of_ble_eq_true rfl) rfl he2 h6 hc3 (RI.k fun y4 S5 h => ?_)
  refine V_istore_n (pc2 := 5) (lv2 := [(0, _), (1, _)]) (dk D_X5_readSum 2 rfl) rfl (by decide) rfl rfl ?_
  refine V_iconst (x := 0) (pc2 := 6) (dk D_X5_readSum 3 rfl) (by decide) rfl ?_
  refine V_istore_n (pc2 := 7) (lv2 := [(0, _), (1, _), (2, _)]) (dk D_X5_readSum 4 rfl) rfl (by decide) rfl rfl ?_
  exact h
theorem w_X5_readSum_7 {X : Cx} {d : Nat} {S : Mem} {Q : Res → Mem → Prop} (r0 : Nat) (x1 : Int32) (x2 : Int32) (h : ((3001 ≤ x2 → V X d MX5_readSum 90 [(0, vR r0), (1, vI x1), (2, vI x2)] [] S Q) ∧ (¬ 3001 ≤ x2 → ((x1 = 0 → V X d MX5_readSum 90 [(0, vR r0), (1, vI x1), (2, vI x2)] [] S Q) ∧ (¬ x1 = 0 → (isK S r0 5) ∧ (isK S (gR S r0 0) 9) ∧ (((gI S (gR S r0 0) 7) = 43 → V X d MX5_readSum 42 [(0, vR r0), (1, vI x1), (2, vI x2)] [] S Q) ∧ (¬ (gI S (gR S r0 0) 7) = 43 → ((¬ (gI S (gR S r0 0) 7) = 45 → V X d MX5_readSum 90 [(0, vR r0), (1, vI x1), (2, vI x2)] [] S Q) ∧ ((gI S (gR S r0 0) 7) = 45 → V X d MX5_readSum 42 [(0, vR r0), (1, vI x1), (2, vI x2)] [] S Q))))))))) : V X d MX5_readSum 7 [(0, vR r0), (1, vI x1), (2, vI x2)] [] S Q := by
  refine V_iload_n (pc2 := 8) (dk D_X5_readSum 5 rfl) rfl (V_lg 2 rfl) rfl ?_
  refine V_sipush (x := 3001) (pc2 := 11) (dk D_X5_readSum 6 rfl) (by decide) rfl ?_
  refine V_cmpge (tgt := 90) (pc2 := 14) (dk D_X5_readSum 7 rfl) (by decide) rfl (fun q1 => ?_) (fun q1 => ?_)
  · have h := h.1 q1
    exact h
  · have h := h.2 q1
    refine V_iload_n (pc2 := 15) (dk D_X5_readSum 8 rfl) rfl (V_lg 1 rfl) rfl ?_
    refine V_ifeq (tgt := 90) (pc2 := 18) (dk D_X5_readSum 9 rfl) (by decide) rfl (fun q2 => ?_) (fun q2 => ?_)
    · have h := h.1 q2
      exact h
    · have h := h.2 q2
      refine V_aload_n (pc2 := 19) (dk D_X5_readSum 10 rfl) rfl (V_lg 0 rfl) rfl ?_
      obtain ⟨h3, h⟩ := h
      refine V_getR kc5 (pc2 := 22) 0 (dk D_X5_readSum 11 rfl) fl_5_9 (by decide) (fun _ => rfl) rfl h3 ?_
      obtain ⟨h4, h⟩ := h
      refine V_getI kc9 (pc2 := 25) 7 (dk D_X5_readSum 12 rfl) fl_5_41 (by decide) (fun _ => rfl) rfl h4 ?_
      refine V_bipush (x := 43) (pc2 := 27) (dk D_X5_readSum 13 rfl) (by decide) rfl ?_
      refine V_cmpeq (tgt := 42) (pc2 := 30) (dk D_X5_readSum 14 rfl) (by decide) rfl (fun q5 => ?_) (fun q5 => ?_)
      · have h := h.1 q5
        exact h
      · have h := h.2 q5
        refine V_aload_n (pc2 := 31) (dk D_X5_readSum 15 rfl) rfl (V_lg 0 rfl) rfl ?_
        refine V_getR kc5 (pc2 := 34) 0 (dk D_X5_readSum 16 rfl) fl_5_9 (by decide) (fun _ => rfl) rfl h3 ?_
        refine V_getI kc9 (pc2 := 37) 7 (dk D_X5_readSum 17 rfl) fl_5_41 (by decide) (fun _ => rfl) rfl h4 ?_
        refine V_bipush (x := 45) (pc2 := 39) (dk D_X5_readSum 18 rfl) (by decide) rfl ?_
        refine V_cmpne (tgt := 90) (pc2 := 42) (dk D_X5_readSum 19 rfl) (by decide) rfl (fun q6 => ?_) (fun q6 => ?_)
        · have h := h.1 q6
          exact h
        · have h := h.2 q6
          exact h
theorem w_X5_readSum_42 {X : Cx} {d : Nat} {S : Mem} {Q : Res → Mem → Prop} (r0 : Nat) (x1 : Int32) (x2 : Int32) (h : (isK S r0 5) ∧ (isK S (gR S r0 0) 9) ∧ ((¬ (gI S (gR S r0 0) 7) = 43 → V X d MX5_readSum 61 [(0, vR r0), (1, vI x1), (2, vI x2)] [vI 9] S Q) ∧ ((gI S (gR S r0 0) 7) = 43 → V X d MX5_readSum 61 [(0, vR r0), (1, vI x1), (2, vI x2)] [vI 8] S Q))) : V X d MX5_readSum 42 [(0, vR r0), (1, vI x1), (2, vI x2)] [] S Q := by
  refine V_aload_n (pc2 := 43) (dk D_X5_readSum 20 rfl) rfl (V_lg 0 rfl) rfl ?_
  obtain ⟨h1, h⟩ := h
  refine V_getR kc5 (pc2 := 46) 0 (dk D_X5_readSum 21 rfl) fl_5_9 (by decide) (fun _ => rfl) rfl h1 ?_
  obtain ⟨h2, h⟩ := h
  refine V_getI kc9 (pc2 := 49) 7 (dk D_X5_readSum 22 rfl) fl_5_41 (by decide) (fun _ => rfl) rfl h2 ?_
  refine V_bipush (x := 43) (pc2 := 51) (dk D_X5_readSum 23 rfl) (by decide) rfl ?_
  refine V_cmpne (tgt := 59) (pc2 := 54) (dk D_X5_readSum 24 rfl) (by decide) rfl (fun q3 => ?_) (fun q3 => ?_)
  · have h := h.1 q3
    refine V_bipush (x := 9) (pc2 := 61) (dk D_X5_readSum 27 rfl) (by decide) rfl ?_
    exact h
  · have h := h.2 q3
    refine V_bipush (x := 8) (pc2 := 56) (dk D_X5_readSum 25 rfl) (by decide) rfl ?_
    refine V_goto (tgt := 61) (dk D_X5_readSum 26 rfl) (by decide) ?_
    exact h
theorem w_X5_readSum_61 {X : Cx} {d : Nat} {S : Mem} {Q : Res → Mem → Prop} (r0 : Nat) (x1 : Int32) (x2 : Int32) (t0 : Int32) (h : (isK S r0 5) ∧ (isK S (gR S r0 0) 9) ∧ ∃ e2 : Nat, e2 + 1 ≤ d ∧ C X e2 MX9_next [vR (gR S r0 0)] S (RV fun  S5 => (isK S5 r0 5) ∧ ∃ e7 : Nat, e7 + 1 ≤ d ∧ C X e7 MX5_readProduct [vR r0] S5 (RI fun y10 S11 => (isK S11 r0 5) ∧ (isK S11 (gR S11 r0 2) 1) ∧ ∃ e14 : Nat, e14 + 1 ≤ d ∧ C X e14 MX1_add [vR (gR S11 r0 2), vI t0, vI 0] S11 (RI fun y17 S18 => V X d MX5_readSum 7 [(0, vR r0), (1, vI y10), (2, vI (x2 + 1))] [] S18 Q)))) : V X d MX5_readSum 61 [(0, vR r0), (1, vI x1), (2, vI x2)] [vI t0] S Q := by
  refine V_istore_n (pc2 := 62) (lv2 := [(0, _), (1, _), (2, _), (3, _)]) (dk D_X5_readSum 28 rfl) rfl (by decide) rfl rfl ?_
  refine V_aload_n (pc2 := 63) (dk D_X5_readSum 29 rfl) rfl (V_lg 0 rfl) rfl ?_
  obtain ⟨h1, h⟩ := h
  refine V_getR kc5 (pc2 := 66) 0 (dk D_X5_readSum 30 rfl) fl_5_9 (by decide) (fun _ => rfl) rfl h1 ?_
  obtain ⟨h6, h⟩ := h
  obtain ⟨e2, he3, hc4⟩ := h
  refine V_callV (as := []) (st := []) (M' := MX9_next) (ci := 9) (pc2 := 69) (dk D_X5_readSum 31 rfl) ml_5_77 mv_X9_next rfl rfl (by decide) rfl (Nat.le_of_ble_eq_true rfl) rfl he3 h6 hc4 (RV.k fun  S5 h => ?_)
  refine V_aload_n (pc2 := 70) (dk D_X5_readSum 32 rfl) rfl (V_lg 0 rfl) rfl ?_
  obtain ⟨h12, h⟩ := h
  obtain ⟨e7, he8, hc9⟩ := h
  refine V_callV (as := []) (st := []) (M' := MX5_readProduct) (ci := 5) (pc2 := 73) (dk D_X5_readSum 33 rfl) ml_5_187 mv_X5_readProduct rfl rfl (by decide) rfl (Nat.le_of_ble_eq_true rfl) rfl he8 h12 hc9 (RI.k fun y10 S11 h => ?_)
  refine V_istore_n (pc2 := 74) (lv2 := [(0, _), (1, _), (2, _), (3, _)]) (dk D_X5_readSum 34 rfl) rfl (by decide) rfl rfl ?_
  refine V_aload_n (pc2 := 75) (dk D_X5_readSum 35 rfl) rfl (V_lg 0 rfl) rfl ?_
  obtain ⟨h13, h⟩ := h
  refine V_getR kc5 (pc2 := 78) 2 (dk D_X5_readSum 36 rfl) fl_5_25 (by decide) (fun _ => rfl) rfl h13 ?_
  refine V_iload_n (pc2 := 79) (dk D_X5_readSum 37 rfl) rfl (V_lg 3 rfl) rfl ?_
  refine V_iconst (x := 0) (pc2 := 80) (dk D_X5_readSum 38 rfl) (by decide) rfl ?_
  obtain ⟨h19, h⟩ := h
  obtain ⟨e14, he15, hc16⟩ := h
  refine V_callV (as := [_, _]) (st := []) (M' := MX1_add) (ci := 1) (pc2 := 83) (dk D_X5_readSum 39 rfl) ml_5_57 mv_X1_add rfl rfl (by decide) rfl (Nat.le_of_ble_eq_true rfl) rfl he15 h19 hc16 (RI.k fun y17 S18 h => ?_)
  refine V_pop (pc2 := 84) (dk D_X5_readSum 40 rfl) rfl rfl ?_
  refine V_iinc (y := _ + 1) (pc2 := 87) (lv2 := [(0, _), (1, _), (2, _), (3, _)]) (dk D_X5_readSum 41 rfl) (V_lg 2 rfl) rfl (by decide) rfl rfl ?_
  refine V_goto (tgt := 7) (dk D_X5_readSum 42 rfl) (by decide) ?_
  refine V_pick [0, 1, 2] (lv2 := [(0, _), (1, _), (2, _)]) rfl ?_
  exact h
theorem w_X5_readSum_90 {X : Cx} {d : Nat} {S : Mem} {Q : Res → Mem → Prop} (r0 : Nat) (x1 : Int32) (x2 : Int32) (h : (x1 = 0 ∨ x1 = 1) ∧ Q (.inl (some (vI x1))) S) : V X d MX5_readSum 90 [(0, vR r0), (1, vI x1), (2, vI x2)] [] S Q := by
  refine V_iload_n (pc2 := 91) (dk D_X5_readSum 43 rfl) rfl (V_lg 1 rfl) rfl ?_
  obtain ⟨h1, h⟩ := h
  exact V_zreturn (dk D_X5_readSum 44 rfl) rfl h1 h
def L_X5_readProduct : List (Nat × Instr × Nat) := [(0, .aload_n 0, 1), (1, .invokevirtual 190, 3), (4, .istore_n 1, 1), (5, .iconst 0, 1), (6, .istore_n 2, 1), (7, .iload_n 2, 1), (8, .sipush 3001, 3), (11, .if_icmp .ge 85, 3), (14, .iload_n 1, 1), (15, .ifCond .eq 81, 3), (18, .aload_n 0, 1), (19, .getfield 9, 3), (22, .getfield 41, 3), (25, .invokestatic 193, 3), (28, .ifCond .eq 68, 3), (31, .aload_n 0, 1), (32, .getfield 9, 3), (35, .getfield 41, 3), (38, .bipush 42, 2), (40, .if_icmp .ne 8, 3), (43, .bipush 10, 2), (45, .goto 22, 3), (48, .aload_n 0, 1), (49, .getfield 9, 3), (52, .getfield 41, 3), (55, .bipush 47, 2), (57, .if_icmp .ne 8, 3), (60, .bipush 11, 2), (62, .goto 5, 3), (65, .bipush 12, 2), (67, .istore_n 3, 1), (68, .aload_n 0, 1), (69, .getfield 9, 3), (72, .invokevirtual 77, 3), (75, .aload_n 0, 1), (76, .invokevirtual 190, 3), (79, .istore_n 1, 1), (80, .aload_n 0, 1), (81, .getfield 25, 3), (84, .iload_n 3, 1), (85, .iconst 0, 1), (86, .invokevirtual 57, 3), (89, .pop, 1), (90, .iinc 2 1, 3), (93, .goto (-86), 3), (96, .iload_n 1, 1), (97, .ireturn, 1)]
theorem D_X5_readProduct : dOk cX5_readProduct L_X5_readProduct = true := by decide +kernel
theorem w_X5_readProduct_0 {X : Cx} {d : Nat} {S : Mem} {Q : Res → Mem → Prop} (r0 : Nat) (h : (isK S r0 5) ∧ ∃ e1 : Nat, e1 + 1 ≤ d ∧ C X e1 MX5_readUnary [vR r0] S (RI fun y4 S5 => V X d MX5_readProduct 7 [(0, vR r0), (1, vI y4), (2, vI 0)] [] S5 Q)) : V X d MX5_readProduct 0 [(0, vR r0)] [] S Q := by
  refine V_aload_n (pc2 := 1) (dk D_X5_readProduct 0 rfl) rfl (V_lg 0 rfl) rfl ?_
  obtain ⟨h6, h⟩ := h
  obtain ⟨e1, he2, hc3⟩ := h
  refine V_callV (as := []) (st := []) (M' := MX5_readUnary) (ci := 5) (pc2 := 4) (dk D_X5_readProduct 1 rfl) ml_5_190 mv_X5_readUnary rfl rfl (by decide) rfl (Nat.le_of_ble_eq_true rfl) rfl he2 h6 hc3 (RI.k fun y4 S5 h => ?_)
  refine V_istore_n (pc2 := 5) (lv2 := [(0, _), (1, _)]) (dk D_X5_readProduct 2 rfl) rfl (by decide) rfl rfl ?_
  refine V_iconst (x := 0) (pc2 := 6) (dk D_X5_readProduct 3 rfl) (by decide) rfl ?_
  refine V_istore_n (pc2 := 7) (lv2 := [(0, _), (1, _), (2, _)]) (dk D_X5_readProduct 4 rfl) rfl (by decide) rfl rfl ?_
  exact h
theorem w_X5_readProduct_7 {X : Cx} {d : Nat} {S : Mem} {Q : Res → Mem → Prop} (r0 : Nat) (x1 : Int32) (x2 : Int32) (h : ((3001 ≤ x2 → V X d MX5_readProduct 96 [(0, vR r0), (1, vI x1), (2, vI x2)] [] S Q) ∧ (¬ 3001 ≤ x2 → ((x1 = 0 → V X d MX5_readProduct 96 [(0, vR r0), (1, vI x1), (2, vI x2)] [] S Q) ∧ (¬ x1 = 0 → (isK S r0 5) ∧ (isK S (gR S r0 0) 9) ∧ ∃ e5 : Nat, e5 + 1 ≤ d ∧ C X e5 MX5_isProductSign [vI (gI S (gR S r0 0) 7)] S (RI fun y8 S9 => ((y8 = 0 → V X d MX5_readProduct 96 [(0, vR r0), (1, vI x1), (2, vI x2)] [] S9 Q) ∧ (¬ y8 = 0 → (isK S9 r0 5) ∧ (isK S9 (gR S9 r0 0) 9) ∧ ((¬ (gI S9 (gR S9 r0 0) 7) = 42 → ((¬ (gI S9 (gR S9 r0 0) 7) = 47 → V X d MX5_readProduct 67 [(0, vR r0), (1, vI x1), (2, vI x2)] [vI 12] S9 Q) ∧ ((gI S9 (gR S9 r0 0) 7) = 47 → V X d MX5_readProduct 67 [(0, vR r0), (1, vI x1), (2, vI x2)] [vI 11] S9 Q))) ∧ ((gI S9 (gR S9 r0 0) 7) = 42 → V X d MX5_readProduct 67 [(0, vR r0), (1, vI x1), (2, vI x2)] [vI 10] S9 Q)))))))))) : V X d MX5_readProduct 7 [(0, vR r0), (1, vI x1), (2, vI x2)] [] S Q := by
  refine V_iload_n (pc2 := 8) (dk D_X5_readProduct 5 rfl) rfl (V_lg 2 rfl) rfl ?_
  refine V_sipush (x := 3001) (pc2 := 11) (dk D_X5_readProduct 6 rfl) (by decide) rfl ?_
  refine V_cmpge (tgt := 96) (pc2 := 14) (dk D_X5_readProduct 7 rfl) (by decide) rfl (fun q1 => ?_) (fun q1 => ?_)
  · have h := h.1 q1
    exact h
  · have h := h.2 q1
    refine V_iload_n (pc2 := 15) (dk D_X5_readProduct 8 rfl) rfl (V_lg 1 rfl) rfl ?_
    refine V_ifeq (tgt := 96) (pc2 := 18) (dk D_X5_readProduct 9 rfl) (by decide) rfl (fun q2 => ?_) (fun q2 => ?_)
    · have h := h.1 q2
      exact h
    · have h := h.2 q2
      refine V_aload_n (pc2 := 19) (dk D_X5_readProduct 10 rfl) rfl (V_lg 0 rfl) rfl ?_
      obtain ⟨h3, h⟩ := h
      refine V_getR kc5 (pc2 := 22) 0 (dk D_X5_readProduct 11 rfl) fl_5_9 (by decide) (fun _ => rfl) rfl h3 ?_
      obtain ⟨h4, h⟩ := h
      refine V_getI kc9 (pc2 := 25) 7 (dk D_X5_readProduct 12 rfl) fl_5_41 (by decide) (fun _ => rfl) rfl h4 ?_
      obtain ⟨e5, he6, hc7⟩ := h
      refine V_callS (as := [_]) (st := []) (M' := MX5_isProductSign) (pc2 := 28) (dk D_X5_readProduct 13 rfl) ml_5_193 mv_X5_isProductSign rfl rfl (Nat.le_of_ble_eq_true rfl) rfl he6 hc7 (RI.k fun y8 S9 h => ?_)
      refine V_ifeq (tgt := 96) (pc2 := 31) (dk D_X5_readProduct 14 rfl) (by decide) rfl (fun q10 => ?_) (fun q10 => ?_)
      · have h := h.1 q10
        exact h
      · have h := h.2 q10
        refine V_aload_n (pc2 := 32) (dk D_X5_readProduct 15 rfl) rfl (V_lg 0 rfl) rfl ?_
        obtain ⟨h11, h⟩ := h
        refine V_getR kc5 (pc2 := 35) 0 (dk D_X5_readProduct 16 rfl) fl_5_9 (by decide) (fun _ => rfl) rfl h11 ?_
        obtain ⟨h12, h⟩ := h
        refine V_getI kc9 (pc2 := 38) 7 (dk D_X5_readProduct 17 rfl) fl_5_41 (by decide) (fun _ => rfl) rfl h12 ?_
        refine V_bipush (x := 42) (pc2 := 40) (dk D_X5_readProduct 18 rfl) (by decide) rfl ?_
        refine V_cmpne (tgt := 48) (pc2 := 43) (dk D_X5_readProduct 19 rfl) (by decide) rfl (fun q13 => ?_) (fun q13 => ?_)
        · have h := h.1 q13
          refine V_aload_n (pc2 := 49) (dk D_X5_readProduct 22 rfl) rfl (V_lg 0 rfl) rfl ?_
          refine V_getR kc5 (pc2 := 52) 0 (dk D_X5_readProduct 23 rfl) fl_5_9 (by decide) (fun _ => rfl) rfl h11 ?_
          refine V_getI kc9 (pc2 := 55) 7 (dk D_X5_readProduct 24 rfl) fl_5_41 (by decide) (fun _ => rfl) rfl h12 ?_
          refine V_bipush (x := 47) (pc2 := 57) (dk D_X5_readProduct 25 rfl) (by decide) rfl ?_
          refine V_cmpne (tgt := 65) (pc2 := 60) (dk D_X5_readProduct 26 rfl) (by decide) rfl (fun q14 => ?_) (fun q14 => ?_)
          · have h := h.1 q14
            refine V_bipush (x := 12) (pc2 := 67) (dk D_X5_readProduct 29 rfl) (by decide) rfl ?_
            exact h
          · have h := h.2 q14
            refine V_bipush (x := 11) (pc2 := 62) (dk D_X5_readProduct 27 rfl) (by decide) rfl ?_
            refine V_goto (tgt := 67) (dk D_X5_readProduct 28 rfl) (by decide) ?_
            exact h
        · have h := h.2 q13
          refine V_bipush (x := 10) (pc2 := 45) (dk D_X5_readProduct 20 rfl) (by decide) rfl ?_
          refine V_goto (tgt := 67) (dk D_X5_readProduct 21 rfl) (by decide) ?_
          exact h
theorem w_X5_readProduct_67 {X : Cx} {d : Nat} {S : Mem} {Q : Res → Mem → Prop} (r0 : Nat) (x1 : Int32) (x2 : Int32) (t0 : Int32) (h : (isK S r0 5) ∧ (isK S (gR S r0 0) 9) ∧ ∃ e2 : Nat, e2 + 1 ≤ d ∧ C X e2 MX9_next [vR (gR S r0 0)] S (RV fun  S5 => (isK S5 r0 5) ∧ ∃ e7 : Nat, e7 + 1 ≤ d ∧ C X e7 MX5_readUnary [vR r0] S5 (RI fun y10 S11 => (isK S11 r0 5) ∧ (isK S11 (gR S11 r0 2) 1) ∧ ∃ e14 : Nat, e14 + 1 ≤ d ∧ C X e14 MX1_add [vR (gR S11 r0 2), vI t0, vI 0] S11 (RI fun y17 S18 => V X d MX5_readProduct 7 [(0, vR r0), (1, vI y10), (2, vI (x2 + 1))] [] S18 Q)))) : V X d MX5_readProduct 67 [(0, vR r0), (1, vI x1), (2, vI x2)] [vI t0] S Q := by
  refine V_istore_n (pc2 := 68) (lv2 := [(0, _), (1, _), (2, _), (3, _)]) (dk D_X5_readProduct 30 rfl) rfl (by decide) rfl rfl ?_
  refine V_aload_n (pc2 := 69) (dk D_X5_readProduct 31 rfl) rfl (V_lg 0 rfl) rfl ?_
  obtain ⟨h1, h⟩ := h
  refine V_getR kc5 (pc2 := 72) 0 (dk D_X5_readProduct 32 rfl) fl_5_9 (by decide) (fun _ => rfl) rfl h1 ?_
  obtain ⟨h6, h⟩ := h
  obtain ⟨e2, he3, hc4⟩ := h
  refine V_callV (as := []) (st := []) (M' := MX9_next) (ci := 9) (pc2 := 75) (dk D_X5_readProduct 33 rfl) ml_5_77 mv_X9_next rfl rfl (by decide) rfl (Nat.le_of_ble_eq_true rfl) rfl he3 h6 hc4 (RV.k fun  S5 h => ?_)
  refine V_aload_n (pc2 := 76) (dk D_X5_readProduct 34 rfl) rfl (V_lg 0 rfl) rfl ?_
  obtain ⟨h12, h⟩ := h
  obtain ⟨e7, he8, hc9⟩ := h
  refine V_callV (as := []) (st := []) (M' := MX5_readUnary) (ci := 5) (pc2 := 79) (dk D_X5_readProduct 35 rfl) ml_5_190 mv_X5_readUnary rfl rfl (by decide) rfl (Nat.le_of_ble_eq_true rfl) rfl he8 h12 hc9 (RI.k fun y10 S11 h => ?_)
  refine V_istore_n (pc2 := 80) (lv2 := [(0, _), (1, _), (2, _), (3, _)]) (dk D_X5_readProduct 36 rfl) rfl (by decide) rfl rfl ?_
  refine V_aload_n (pc2 := 81) (dk D_X5_readProduct 37 rfl) rfl (V_lg 0 rfl) rfl ?_
  obtain ⟨h13, h⟩ := h
  refine V_getR kc5 (pc2 := 84) 2 (dk D_X5_readProduct 38 rfl) fl_5_25 (by decide) (fun _ => rfl) rfl h13 ?_
  refine V_iload_n (pc2 := 85) (dk D_X5_readProduct 39 rfl) rfl (V_lg 3 rfl) rfl ?_
  refine V_iconst (x := 0) (pc2 := 86) (dk D_X5_readProduct 40 rfl) (by decide) rfl ?_
  obtain ⟨h19, h⟩ := h
  obtain ⟨e14, he15, hc16⟩ := h
  refine V_callV (as := [_, _]) (st := []) (M' := MX1_add) (ci := 1) (pc2 := 89) (dk D_X5_readProduct 41 rfl) ml_5_57 mv_X1_add rfl rfl (by decide) rfl (Nat.le_of_ble_eq_true rfl) rfl he15 h19 hc16 (RI.k fun y17 S18 h => ?_)
  refine V_pop (pc2 := 90) (dk D_X5_readProduct 42 rfl) rfl rfl ?_
  refine V_iinc (y := _ + 1) (pc2 := 93) (lv2 := [(0, _), (1, _), (2, _), (3, _)]) (dk D_X5_readProduct 43 rfl) (V_lg 2 rfl) rfl (by decide) rfl rfl ?_
  refine V_goto (tgt := 7) (dk D_X5_readProduct 44 rfl) (by decide) ?_
  refine V_pick [0, 1, 2] (lv2 := [(0, _), (1, _), (2, _)]) rfl ?_
  exact h
theorem w_X5_readProduct_96 {X : Cx} {d : Nat} {S : Mem} {Q : Res → Mem → Prop} (r0 : Nat) (x1 : Int32) (x2 : Int32) (h : (x1 = 0 ∨ x1 = 1) ∧ Q (.inl (some (vI x1))) S) : V X d MX5_readProduct 96 [(0, vR r0), (1, vI x1), (2, vI x2)] [] S Q := by
  refine V_iload_n (pc2 := 97) (dk D_X5_readProduct 45 rfl) rfl (V_lg 1 rfl) rfl ?_
  obtain ⟨h1, h⟩ := h
  exact V_zreturn (dk D_X5_readProduct 46 rfl) rfl h1 h
def L_X5_isProductSign : List (Nat × Instr × Nat) := [(0, .iload_n 0, 1), (1, .bipush 42, 2), (3, .if_icmp .eq 15, 3), (6, .iload_n 0, 1), (7, .bipush 47, 2), (9, .if_icmp .eq 9, 3), (12, .iload_n 0, 1), (13, .bipush 37, 2), (15, .if_icmp .ne 7, 3), (18, .iconst 1, 1), (19, .goto 4, 3), (22, .iconst 0, 1), (23, .ireturn, 1)]
theorem D_X5_isProductSign : dOk cX5_isProductSign L_X5_isProductSign = true := by decide +kernel
theorem w_X5_isProductSign_0 {X : Cx} {d : Nat} {S : Mem} {Q : Res → Mem → Prop} (x0 : Int32) (h : ((x0 = 42 → V X d MX5_isProductSign 18 [(0, vI x0)] [] S Q) ∧ (¬ x0 = 42 → ((x0 = 47 → V X d MX5_isProductSign 18 [(0, vI x0)] [] S Q) ∧ (¬ x0 = 47 → ((¬ x0 = 37 → V X d MX5_isProductSign 23 [(0, vI x0)] [vI 0] S Q) ∧ (x0 = 37 → V X d MX5_isProductSign 18 [(0, vI x0)] [] S Q))))))) : V X d MX5_isProductSign 0 [(0, vI x0)] [] S Q := by
  refine V_iload_n (pc2 := 1) (dk D_X5_isProductSign 0 rfl) rfl (V_lg 0 rfl) rfl ?_
  refine V_bipush (x := 42) (pc2 := 3) (dk D_X5_isProductSign 1 rfl) (by decide) rfl ?_
  refine V_cmpeq (tgt := 18) (pc2 := 6) (dk D_X5_isProductSign 2 rfl) (by decide) rfl (fun q1 => ?_) (fun q1 => ?_)
  · have h := h.1 q1
    exact h
  · have h := h.2 q1
    refine V_iload_n (pc2 := 7) (dk D_X5_isProductSign 3 rfl) rfl (V_lg 0 rfl) rfl ?_
    refine V_bipush (x := 47) (pc2 := 9) (dk D_X5_isProductSign 4 rfl) (by decide) rfl ?_
    refine V_cmpeq (tgt := 18) (pc2 := 12) (dk D_X5_isProductSign 5 rfl) (by decide) rfl (fun q2 => ?_) (fun q2 => ?_)
    · have h := h.1 q2
      exact h
    · have h := h.2 q2
      refine V_iload_n (pc2 := 13) (dk D_X5_isProductSign 6 rfl) rfl (V_lg 0 rfl) rfl ?_
      refine V_bipush (x := 37) (pc2 := 15) (dk D_X5_isProductSign 7 rfl) (by decide) rfl ?_
      refine V_cmpne (tgt := 22) (pc2 := 18) (dk D_X5_isProductSign 8 rfl) (by decide) rfl (fun q3 => ?_) (fun q3 => ?_)
      · have h := h.1 q3
        refine V_iconst (x := 0) (pc2 := 23) (dk D_X5_isProductSign 11 rfl) (by decide) rfl ?_
        exact h
      · have h := h.2 q3
        exact h
theorem w_X5_isProductSign_18 {X : Cx} {d : Nat} {S : Mem} {Q : Res → Mem → Prop} (x0 : Int32) (h : V X d MX5_isProductSign 23 [(0, vI x0)] [vI 1] S Q) : V X d MX5_isProductSign 18 [(0, vI x0)] [] S Q := by
  refine V_iconst (x := 1) (pc2 := 19) (dk D_X5_isProductSign 9 rfl) (by decide) rfl ?_
  refine V_goto (tgt := 23) (dk D_X5_isProductSign 10 rfl) (by decide) ?_
  exact h
theorem w_X5_isProductSign_23 {X : Cx} {d : Nat} {S : Mem} {Q : Res → Mem → Prop} (x0 : Int32) (t0 : Int32) (h : (t0 = 0 ∨ t0 = 1) ∧ Q (.inl (some (vI t0))) S) : V X d MX5_isProductSign 23 [(0, vI x0)] [vI t0] S Q := by
  obtain ⟨h1, h⟩ := h
  exact V_zreturn (dk D_X5_isProductSign 12 rfl) rfl h1 h
def L_X5_readUnary : List (Nat × Instr × Nat) := [(0, .aload_n 0, 1), (1, .getfield 9, 3), (4, .getfield 41, 3), (7, .lookupswitch 112 #[(33, 72), (45, 65), (211, 86), (213, 93), (214, 107), (216, 100), (220, 79)], 65), (72, .aload_n 0, 1), (73, .bipush 6, 2), (75, .invokevirtual 196, 3), (78, .ireturn, 1), (79, .aload_n 0, 1), (80, .bipush 7, 2), (82, .invokevirtual 196, 3), (85, .ireturn, 1), (86, .aload_n 0, 1), (87, .bipush 22, 2), (89, .invokevirtual 196, 3), (92, .ireturn, 1), (93, .aload_n 0, 1), (94, .bipush 25, 2), (96, .invokevirtual 196, 3), (99, .ireturn, 1), (100, .aload_n 0, 1), (101, .bipush 26, 2), (103, .invokevirtual 199, 3), (106, .ireturn, 1), (107, .aload_n 0, 1), (108, .bipush 28, 2), (110, .invokevirtual 199, 3), (113, .ireturn, 1), (114, .aload_n 0, 1), (115, .invokevirtual 202, 3), (118, .ireturn, 1), (119, .aload_n 0, 1), (120, .invokevirtual 205, 3), (123, .ireturn, 1)]
theorem D_X5_readUnary : dOk cX5_readUnary L_X5_readUnary = true := by decide +kernel
theorem w_X5_readUnary_0 {X : Cx} {d : Nat} {S : Mem} {Q : Res → Mem → Prop} (r0 : Nat) (h : (isK S r0 5) ∧ (isK S (gR S r0 0) 9) ∧ (((gI S (gR S r0 0) 7) = 33 → ∃ e4 : Nat, e4 + 1 ≤ d ∧ C X e4 MX5_readPrefix [vR r0, vI 7] S (RI fun y7 S8 => (y7 = 0 ∨ y7 = 1) ∧ Q (.inl (some (vI y7))) S8)) ∧ ((gI S (gR S r0 0) 7) = 45 → ∃ e10 : Nat, e10 + 1 ≤ d ∧ C X e10 MX5_readPrefix [vR r0, vI 6] S (RI fun y13 S14 => (y13 = 0 ∨ y13 = 1) ∧ Q (.inl (some (vI y13))) S14)) ∧ ((gI S (gR S r0 0) 7) = 211 → ∃ e16 : Nat, e16 + 1 ≤ d ∧ C X e16 MX5_readPrefix [vR r0, vI 25] S (RI fun y19 S20 => (y19 = 0 ∨ y19 = 1) ∧ Q (.inl (some (vI y19))) S20)) ∧ ((gI S (gR S r0 0) 7) = 213 → ∃ e22 : Nat, e22 + 1 ≤ d ∧ C X e22 MX5_readWith [vR r0, vI 26] S (RI fun y25 S26 => (y25 = 0 ∨ y25 = 1) ∧ Q (.inl (some (vI y25))) S26)) ∧ ((gI S (gR S r0 0) 7) = 214 → ∃ e28 : Nat, e28 + 1 ≤ d ∧ C X e28 MX5_readInject [vR r0] S (RI fun y31 S32 => (y31 = 0 ∨ y31 = 1) ∧ Q (.inl (some (vI y31))) S32)) ∧ ((gI S (gR S r0 0) 7) = 216 → ∃ e34 : Nat, e34 + 1 ≤ d ∧ C X e34 MX5_readWith [vR r0, vI 28] S (RI fun y37 S38 => (y37 = 0 ∨ y37 = 1) ∧ Q (.inl (some (vI y37))) S38)) ∧ ((gI S (gR S r0 0) 7) = 220 → ∃ e40 : Nat, e40 + 1 ≤ d ∧ C X e40 MX5_readPrefix [vR r0, vI 22] S (RI fun y43 S44 => (y43 = 0 ∨ y43 = 1) ∧ Q (.inl (some (vI y43))) S44)) ∧ (¬ ((gI S (gR S r0 0) 7) = 33 ∨ (gI S (gR S r0 0) 7) = 45 ∨ (gI S (gR S r0 0) 7) = 211 ∨ (gI S (gR S r0 0) 7) = 213 ∨ (gI S (gR S r0 0) 7) = 214 ∨ (gI S (gR S r0 0) 7) = 216 ∨ (gI S (gR S r0 0) 7) = 220) → ∃ e46 : Nat, e46 + 1 ≤ d ∧ C X e46 MX5_readPlain [vR r0] S (RI fun y49 S50 => (y49 = 0 ∨ y49 = 1) ∧ Q (.inl (some (vI y49))) S50)))) : V X d MX5_readUnary 0 [(0, vR r0)] [] S Q := by
  refine V_aload_n (pc2 := 1) (dk D_X5_readUnary 0 rfl) rfl (V_lg 0 rfl) rfl ?_
  obtain ⟨h1, h⟩ := h
  refine V_getR kc5 (pc2 := 4) 0 (dk D_X5_readUnary 1 rfl) fl_5_9 (by decide) (fun _ => rfl) rfl h1 ?_
  obtain ⟨h2, h⟩ := h
  refine V_getI kc9 (pc2 := 7) 7 (dk D_X5_readUnary 2 rfl) fl_5_41 (by decide) (fun _ => rfl) rfl h2 ?_
  refine V_look (dk D_X5_readUnary 3 rfl) (by decide) [(33, 72, 79), (45, 65, 72), (211, 86, 93), (213, 93, 100), (214, 107, 114), (216, 100, 107), (220, 79, 86)] 119 (by decide) (by decide) (by decide) ?_ ?_
  · simp only [List.forall_mem_cons]
    refine ⟨fun q3 => ?_, fun q3 => ?_, fun q3 => ?_, fun q3 => ?_, fun q3 => ?_, fun q3 => ?_, fun q3 => ?_, fun _ hq => absurd hq List.not_mem_nil⟩
    · have h := h.1 q3
      refine V_aload_n (pc2 := 80) (dk D_X5_readUnary 8 rfl) rfl (V_lg 0 rfl) rfl ?_
      refine V_bipush (x := 7) (pc2 := 82) (dk D_X5_readUnary 9 rfl) (by decide) rfl ?_
      obtain ⟨e4, he5, hc6⟩ := h
      refine V_callV (as := [_]) (st := []) (M' := MX5_readPrefix) (ci := 5) (pc2 := 85) (dk D_X5_readUnary 10 rfl) ml_5_196 mv_X5_readPrefix rfl rfl (by decide) rfl (Nat.le_of_ble_eq_true rfl) rfl he5 h1 hc6 (RI.k fun y7 S8 h => ?_)
      obtain ⟨h9, h⟩ := h
      exact V_zreturn (dk D_X5_readUnary 11 rfl) rfl h9 h
    · have h := h.2.1 q3
      refine V_aload_n (pc2 := 73) (dk D_X5_readUnary 4 rfl) rfl (V_lg 0 rfl) rfl ?_
      refine V_bipush (x := 6) (pc2 := 75) (dk D_X5_readUnary 5 rfl) (by decide) rfl ?_
      obtain ⟨e10, he11, hc12⟩ := h
      refine V_callV (as := [_]) (st := []) (M' := MX5_readPrefix) (ci := 5) (pc2 := 78) (dk D_X5_readUnary 6 rfl) ml_5_196 mv_X5_readPrefix rfl rfl (by decide) rfl (Nat.le_of_ble_eq_true rfl) rfl he11 h1 hc12 (RI.k fun y13 S14 h => ?_)
      obtain ⟨h15, h⟩ := h
      exact V_zreturn (dk D_X5_readUnary 7 rfl) rfl h15 h
    · have h := h.2.2.1 q3
      refine V_aload_n (pc2 := 94) (dk D_X5_readUnary 16 rfl) rfl (V_lg 0 rfl) rfl ?_
      refine V_bipush (x := 25) (pc2 := 96) (dk D_X5_readUnary 17 rfl) (by decide) rfl ?_
      obtain ⟨e16, he17, hc18⟩ := h
      refine V_callV (as := [_]) (st := []) (M' := MX5_readPrefix) (ci := 5) (pc2 := 99) (dk D_X5_readUnary 18 rfl) ml_5_196 mv_X5_readPrefix rfl rfl (by decide) rfl (Nat.le_of_ble_eq_true rfl) rfl he17 h1 hc18 (RI.k fun y19 S20 h => ?_)
      obtain ⟨h21, h⟩ := h
      exact V_zreturn (dk D_X5_readUnary 19 rfl) rfl h21 h
    · have h := h.2.2.2.1 q3
      refine V_aload_n (pc2 := 101) (dk D_X5_readUnary 20 rfl) rfl (V_lg 0 rfl) rfl ?_
      refine V_bipush (x := 26) (pc2 := 103) (dk D_X5_readUnary 21 rfl) (by decide) rfl ?_
      obtain ⟨e22, he23, hc24⟩ := h
      refine V_callV (as := [_]) (st := []) (M' := MX5_readWith) (ci := 5) (pc2 := 106) (dk D_X5_readUnary 22 rfl) ml_5_199 mv_X5_readWith rfl rfl (by decide) rfl (Nat.le_of_ble_eq_true rfl) rfl he23 h1 hc24 (RI.k fun y25 S26 h => ?_)
      obtain ⟨h27, h⟩ := h
      exact V_zreturn (dk D_X5_readUnary 23 rfl) rfl h27 h
    · have h := h.2.2.2.2.1 q3
      refine V_aload_n (pc2 := 115) (dk D_X5_readUnary 28 rfl) rfl (V_lg 0 rfl) rfl ?_
      obtain ⟨e28, he29, hc30⟩ := h
      refine V_callV (as := []) (st := []) (M' := MX5_readInject) (ci := 5) (pc2 := 118) (dk D_X5_readUnary 29 rfl) ml_5_202 mv_X5_readInject rfl rfl (by decide) rfl (Nat.le_of_ble_eq_true rfl) rfl he29 h1 hc30 (RI.k fun y31 S32 h => ?_)
      obtain ⟨h33, h⟩ := h
      exact V_zreturn (dk D_X5_readUnary 30 rfl) rfl h33 h
    · have h := h.2.2.2.2.2.1 q3
      refine V_aload_n (pc2 := 108) (dk D_X5_readUnary 24 rfl) rfl (V_lg 0 rfl) rfl ?_
      refine V_bipush (x := 28) (pc2 := 110) (dk D_X5_readUnary 25 rfl) (by decide) rfl ?_
      obtain ⟨e34, he35, hc36⟩ := h
      refine V_callV (as := [_]) (st := []) (M' := MX5_readWith) (ci := 5) (pc2 := 113) (dk D_X5_readUnary 26 rfl) ml_5_199 mv_X5_readWith rfl rfl (by decide) rfl (Nat.le_of_ble_eq_true rfl) rfl he35 h1 hc36 (RI.k fun y37 S38 h => ?_)
      obtain ⟨h39, h⟩ := h
      exact V_zreturn (dk D_X5_readUnary 27 rfl) rfl h39 h
    · have h := h.2.2.2.2.2.2.1 q3
      refine V_aload_n (pc2 := 87) (dk D_X5_readUnary 12 rfl) rfl (V_lg 0 rfl) rfl ?_
      refine V_bipush (x := 22) (pc2 := 89) (dk D_X5_readUnary 13 rfl) (by decide) rfl ?_
      obtain ⟨e40, he41, hc42⟩ := h
      refine V_callV (as := [_]) (st := []) (M' := MX5_readPrefix) (ci := 5) (pc2 := 92) (dk D_X5_readUnary 14 rfl) ml_5_196 mv_X5_readPrefix rfl rfl (by decide) rfl (Nat.le_of_ble_eq_true rfl) rfl he41 h1 hc42 (RI.k fun y43 S44 h => ?_)
      obtain ⟨h45, h⟩ := h
      exact V_zreturn (dk D_X5_readUnary 15 rfl) rfl h45 h
  · intro q3
    simp only [List.forall_mem_cons] at q3
    have h := h.2.2.2.2.2.2.2 (by rintro (hk | hk | hk | hk | hk | hk | hk) <;> simp_all)
    refine V_aload_n (pc2 := 120) (dk D_X5_readUnary 31 rfl) rfl (V_lg 0 rfl) rfl ?_
    obtain ⟨e46, he47, hc48⟩ := h
    refine V_callV (as := []) (st := []) (M' := MX5_readPlain) (ci := 5) (pc2 := 123) (dk D_X5_readUnary 32 rfl) ml_5_205 mv_X5_readPlain rfl rfl (by decide) rfl (Nat.le_of_ble_eq_true rfl) rfl he47 h1 hc48 (RI.k fun y49 S50 h => ?_)
    obtain ⟨h51, h⟩ := h
    exact V_zreturn (dk D_X5_readUnary 33 rfl) rfl h51 h
def L_X5_readPrefix : List (Nat × Instr × Nat) := [(0, .aload_n 0, 1), (1, .aload_n 0, 1), (2, .getfield 9, 3), (5, .getfield 41, 3), (8, .invokevirtual 105, 3), (11, .ifCond .eq 10, 3), (14, .aload_n 0, 1), (15, .invokevirtual 190, 3), (18, .ifCond .ne 5, 3), (21, .iconst 0, 1), (22, .ireturn, 1), (23, .aload_n 0, 1), (24, .dup, 1), (25, .getfield 34, 3), (28, .iconst 1, 1), (29, .isub, 1), (30, .putfield 34, 3), (33, .aload_n 0, 1), (34, .getfield 25, 3), (37, .iload_n 1, 1), (38, .iconst 0, 1), (39, .invokevirtual 57, 3), (42, .pop, 1), (43, .iconst 1, 1), (44, .ireturn, 1)]
theorem D_X5_readPrefix : dOk cX5_readPrefix L_X5_readPrefix = true := by decide +kernel
theorem w_X5_readPrefix_0 {X : Cx} {d : Nat} {S : Mem} {Q : Res → Mem → Prop} (r0 : Nat) (x1 : Int32) (h : (isK S r0 5) ∧ (isK S (gR S r0 0) 9) ∧ ∃ e3 : Nat, e3 + 1 ≤ d ∧ C X e3 MX5_takeOpening [vR r0, vI (gI S (gR S r0 0) 7)] S (RI fun y6 S7 => ((y6 = 0 → V X d MX5_readPrefix 21 [(0, vR r0), (1, vI x1)] [] S7 Q) ∧ (¬ y6 = 0 → (isK S7 r0 5) ∧ ∃ e9 : Nat, e9 + 1 ≤ d ∧ C X e9 MX5_readUnary [vR r0] S7 (RI fun y12 S13 => ((¬ y12 = 0 → (isK S13 r0 5) ∧ ∀ S17 : Mem, S17 = uI S13 r0 4 ((gI S13 r0 4) - 1) → (isK S13 (gR S13 r0 2) 1) ∧ ∃ e18 : Nat, e18 + 1 ≤ d ∧ C X e18 MX1_add [vR (gR S13 r0 2), vI x1, vI 0] S17 (RI fun y21 S22 => Q (.inl (some (vI 1))) S22)) ∧ (y12 = 0 → V X d MX5_readPrefix 21 [(0, vR r0), (1, vI x1)] [] S13 Q))))))) : V X d MX5_readPrefix 0 [(0, vR r0), (1, vI x1)] [] S Q := by
  refine V_aload_n (pc2 := 1) (dk D_X5_readPrefix 0 rfl) rfl (V_lg 0 rfl) rfl ?_
  refine V_aload_n (pc2 := 2) (dk D_X5_readPrefix 1 rfl) rfl (V_lg 0 rfl) rfl ?_
  obtain ⟨h1, h⟩ := h
  refine V_getR kc5 (pc2 := 5) 0 (dk D_X5_readPrefix 2 rfl) fl_5_9 (by decide) (fun _ => rfl) rfl h1 ?_
  obtain ⟨h2, h⟩ := h
  refine V_getI kc9 (pc2 := 8) 7 (dk D_X5_readPrefix 3 rfl) fl_5_41 (by decide) (fun _ => rfl) rfl h2 ?_
  obtain ⟨e3, he4, hc5⟩ := h
  refine V_callV (as := [_]) (st := []) (M' := MX5_takeOpening) (ci := 5) (pc2 := 11) (dk D_X5_readPrefix 4 rfl) ml_5_105 mv_X5_takeOpening rfl rfl (by decide) rfl (Nat.le_of_ble_eq_true rfl) rfl he4 h1 hc5 (RI.k fun y6 S7 h => ?_)
  refine V_ifeq (tgt := 21) (pc2 := 14) (dk D_X5_readPrefix 5 rfl) (by decide) rfl (fun q8 => ?_) (fun q8 => ?_)
  · have h := h.1 q8
    exact h
  · have h := h.2 q8
    refine V_aload_n (pc2 := 15) (dk D_X5_readPrefix 6 rfl) rfl (V_lg 0 rfl) rfl ?_
    obtain ⟨h14, h⟩ := h
    obtain ⟨e9, he10, hc11⟩ := h
    refine V_callV (as := []) (st := []) (M' := MX5_readUnary) (ci := 5) (pc2 := 18) (dk D_X5_readPrefix 7 rfl) ml_5_190 mv_X5_readUnary rfl rfl (by decide) rfl (Nat.le_of_ble_eq_true rfl) rfl he10 h14 hc11 (RI.k fun y12 S13 h => ?_)
    refine V_ifne (tgt := 23) (pc2 := 21) (dk D_X5_readPrefix 8 rfl) (by decide) rfl (fun q15 => ?_) (fun q15 => ?_)
    · have h := h.1 q15
      refine V_aload_n (pc2 := 24) (dk D_X5_readPrefix 11 rfl) rfl (V_lg 0 rfl) rfl ?_
      refine V_dup (pc2 := 25) (dk D_X5_readPrefix 12 rfl) rfl rfl ?_
      obtain ⟨h16, h⟩ := h
      refine V_getI kc5 (pc2 := 28) 4 (dk D_X5_readPrefix 13 rfl) fl_5_34 (by decide) (fun _ => rfl) rfl h16 ?_
      refine V_iconst (x := 1) (pc2 := 29) (dk D_X5_readPrefix 14 rfl) (by decide) rfl ?_
      refine V_isub (pc2 := 30) (dk D_X5_readPrefix 15 rfl) rfl ?_
      refine V_putI kc5 (pc2 := 33) 4 (dk D_X5_readPrefix 16 rfl) fl_5_34 (by decide) (Or.inl rfl) rfl rfl h16 ?_
      have h := h _ rfl
      refine V_aload_n (pc2 := 34) (dk D_X5_readPrefix 17 rfl) rfl (V_lg 0 rfl) rfl ?_
      refine V_getR kc5 (pc2 := 37) 2 (dk D_X5_readPrefix 18 rfl) fl_5_25 (by decide) (fun _ => rfl) rfl h16 ?_
      refine V_iload_n (pc2 := 38) (dk D_X5_readPrefix 19 rfl) rfl (V_lg 1 rfl) rfl ?_
      refine V_iconst (x := 0) (pc2 := 39) (dk D_X5_readPrefix 20 rfl) (by decide) rfl ?_
      obtain ⟨h23, h⟩ := h
      obtain ⟨e18, he19, hc20⟩ := h
      refine V_callV (as := [_, _]) (st := []) (M' := MX1_add) (ci := 1) (pc2 := 42) (dk D_X5_readPrefix 21 rfl) ml_5_57 mv_X1_add rfl rfl (by decide) rfl (Nat.le_of_ble_eq_true rfl) rfl he19 h23 hc20 (RI.k fun y21 S22 h => ?_)
      refine V_pop (pc2 := 43) (dk D_X5_readPrefix 22 rfl) rfl rfl ?_
      refine V_iconst (x := 1) (pc2 := 44) (dk D_X5_readPrefix 23 rfl) (by decide) rfl ?_
      exact V_zreturn (dk D_X5_readPrefix 24 rfl) rfl (Or.inr rfl) h
    · have h := h.2 q15
      exact h
theorem w_X5_readPrefix_21 {X : Cx} {d : Nat} {S : Mem} {Q : Res → Mem → Prop} (r0 : Nat) (x1 : Int32) (h : Q (.inl (some (vI 0))) S) : V X d MX5_readPrefix 21 [(0, vR r0), (1, vI x1)] [] S Q := by
  refine V_iconst (x := 0) (pc2 := 22) (dk D_X5_readPrefix 9 rfl) (by decide) rfl ?_
  exact V_zreturn (dk D_X5_readPrefix 10 rfl) rfl (Or.inl rfl) h
def L_X5_readWith : List (Nat × Instr × Nat) := [(0, .aload_n 0, 1), (1, .aload_n 0, 1), (2, .getfield 9, 3), (5, .getfield 41, 3), (8, .invokevirtual 105, 3), (11, .ifCond .eq 16, 3), (14, .aload_n 0, 1), (15, .iload_n 1, 1), (16, .iconst 0, 1), (17, .invokevirtual 208, 3), (20, .ifCond .eq 7, 3), (23, .iconst 1, 1), (24, .goto 4, 3), (27, .iconst 0, 1), (28, .ireturn, 1)]
theorem D_X5_readWith : dOk cX5_readWith L_X5_readWith = true := by decide +kernel
theorem w_X5_readWith_0 {X : Cx} {d : Nat} {S : Mem} {Q : Res → Mem → Prop} (r0 : Nat) (x1 : Int32) (h : (isK S r0 5) ∧ (isK S (gR S r0 0) 9) ∧ ∃ e3 : Nat, e3 + 1 ≤ d ∧ C X e3 MX5_takeOpening [vR r0, vI (gI S (gR S r0 0) 7)] S (RI fun y6 S7 => ((y6 = 0 → V X d MX5_readWith 27 [(0, vR r0), (1, vI x1)] [] S7 Q) ∧ (¬ y6 = 0 → (isK S7 r0 5) ∧ ∃ e9 : Nat, e9 + 1 ≤ d ∧ C X e9 MX5_readPairWith [vR r0, vI x1, vI 0] S7 (RI fun y12 S13 => ((y12 = 0 → V X d MX5_readWith 27 [(0, vR r0), (1, vI x1)] [] S13 Q) ∧ (¬ y12 = 0 → V X d MX5_readWith 28 [(0, vR r0), (1, vI x1)] [vI 1] S13 Q))))))) : V X d MX5_readWith 0 [(0, vR r0), (1, vI x1)] [] S Q := by
  refine V_aload_n (pc2 := 1) (dk D_X5_readWith 0 rfl) rfl (V_lg 0 rfl) rfl ?_
  refine V_aload_n (pc2 := 2) (dk D_X5_readWith 1 rfl) rfl (V_lg 0 rfl) rfl ?_
  obtain ⟨h1, h⟩ := h
  refine V_getR kc5 (pc2 := 5) 0 (dk D_X5_readWith 2 rfl) fl_5_9 (by decide) (fun _ => rfl) rfl h1 ?_
  obtain ⟨h2, h⟩ := h
  refine V_getI kc9 (pc2 := 8) 7 (dk D_X5_readWith 3 rfl) fl_5_41 (by decide) (fun _ => rfl) rfl h2 ?_
  obtain ⟨e3, he4, hc5⟩ := h
  refine V_callV (as := [_]) (st := []) (M' := MX5_takeOpening) (ci := 5) (pc2 := 11) (dk D_X5_readWith 4 rfl) ml_5_105 mv_X5_takeOpening rfl rfl (by decide) rfl (Nat.le_of_ble_eq_true rfl) rfl he4 h1 hc5 (RI.k fun y6 S7 h => ?_)
  refine V_ifeq (tgt := 27) (pc2 := 14) (dk D_X5_readWith 5 rfl) (by decide) rfl (fun q8 => ?_) (fun q8 => ?_)
  · have h := h.1 q8
    exact h
  · have h := h.2 q8
    refine V_aload_n (pc2 := 15) (dk D_X5_readWith 6 rfl) rfl (V_lg 0 rfl) rfl ?_
    refine V_iload_n (pc2 := 16) (dk D_X5_readWith 7 rfl) rfl (V_lg 1 rfl) rfl ?_
    refine V_iconst (x := 0) (pc2 := 17) (dk D_X5_readWith 8 rfl) (by decide) rfl ?_
    obtain ⟨h14, h⟩ := h
    obtain ⟨e9, he10, hc11⟩ := h
    refine V_callV (as := [_, _]) (st := []) (M' := MX5_readPairWith) (ci := 5) (pc2 := 20) (dk D_X5_readWith 9 rfl) ml_5_208 mv_X5_readPairWith rfl rfl (by decide) rfl (Nat.le_of_ble_eq_true rfl) rfl he10 h14 hc11 (RI.k fun y12 S13 h => ?_)
    refine V_ifeq (tgt := 27) (pc2 := 23) (dk D_X5_readWith 10 rfl) (by decide) rfl (fun q15 => ?_) (fun q15 => ?_)
    · have h := h.1 q15
      exact h
    · have h := h.2 q15
      refine V_iconst (x := 1) (pc2 := 24) (dk D_X5_readWith 11 rfl) (by decide) rfl ?_
      refine V_goto (tgt := 28) (dk D_X5_readWith 12 rfl) (by decide) ?_
      exact h
theorem w_X5_readWith_27 {X : Cx} {d : Nat} {S : Mem} {Q : Res → Mem → Prop} (r0 : Nat) (x1 : Int32) (h : V X d MX5_readWith 28 [(0, vR r0), (1, vI x1)] [vI 0] S Q) : V X d MX5_readWith 27 [(0, vR r0), (1, vI x1)] [] S Q := by
  refine V_iconst (x := 0) (pc2 := 28) (dk D_X5_readWith 13 rfl) (by decide) rfl ?_
  exact h
theorem w_X5_readWith_28 {X : Cx} {d : Nat} {S : Mem} {Q : Res → Mem → Prop} (r0 : Nat) (x1 : Int32) (t0 : Int32) (h : (t0 = 0 ∨ t0 = 1) ∧ Q (.inl (some (vI t0))) S) : V X d MX5_readWith 28 [(0, vR r0), (1, vI x1)] [vI t0] S Q := by
  obtain ⟨h1, h⟩ := h
  exact V_zreturn (dk D_X5_readWith 14 rfl) rfl h1 h
def L_X5_readPairWith : List (Nat × Instr × Nat) := [(0, .aload_n 0, 1), (1, .invokevirtual 190, 3), (4, .ifCond .eq 20, 3), (7, .aload_n 0, 1), (8, .sipush 217, 3), (11, .invokevirtual 156, 3), (14, .ifCond .eq 10, 3), (17, .aload_n 0, 1), (18, .invokevirtual 190, 3), (21, .ifCond .ne 5, 3), (24, .iconst 0, 1), (25, .ireturn, 1), (26, .aload_n 0, 1), (27, .dup, 1), (28, .getfield 34, 3), (31, .iconst 1, 1), (32, .isub, 1), (33, .putfield 34, 3), (36, .aload_n 0, 1), (37, .getfield 25, 3), (40, .iload_n 1, 1), (41, .iload_n 2, 1), (42, .invokevirtual 57, 3), (45, .pop, 1), (46, .iconst 1, 1), (47, .ireturn, 1)]
theorem D_X5_readPairWith : dOk cX5_readPairWith L_X5_readPairWith = true := by decide +kernel
theorem w_X5_readPairWith_0 {X : Cx} {d : Nat} {S : Mem} {Q : Res → Mem → Prop} (r0 : Nat) (x1 : Int32) (x2 : Int32) (h : (isK S r0 5) ∧ ∃ e1 : Nat, e1 + 1 ≤ d ∧ C X e1 MX5_readUnary [vR r0] S (RI fun y4 S5 => ((y4 = 0 → V X d MX5_readPairWith 24 [(0, vR r0), (1, vI x1), (2, vI x2)] [] S5 Q) ∧ (¬ y4 = 0 → (isK S5 r0 5) ∧ ∃ e8 : Nat, e8 + 1 ≤ d ∧ C X e8 MX5_take [vR r0, vI 217] S5 (RI fun y11 S12 => ((y11 = 0 → V X d MX5_readPairWith 24 [(0, vR r0), (1, vI x1), (2, vI x2)] [] S12 Q) ∧ (¬ y11 = 0 → (isK S12 r0 5) ∧ ∃ e15 : Nat, e15 + 1 ≤ d ∧ C X e15 MX5_readUnary [vR r0] S12 (RI fun y18 S19 => ((¬ y18 = 0 → (isK S19 r0 5) ∧ ∀ S23 : Mem, S23 = uI S19 r0 4 ((gI S19 r0 4) - 1) → (isK S19 (gR S19 r0 2) 1) ∧ ∃ e24 : Nat, e24 + 1 ≤ d ∧ C X e24 MX1_add [vR (gR S19 r0 2), vI x1, vI x2] S23 (RI fun y27 S28 => Q (.inl (some (vI 1))) S28)) ∧ (y18 = 0 → V X d MX5_readPairWith 24 [(0, vR r0), (1, vI x1), (2, vI x2)] [] S19 Q)))))))))) : V X d MX5_readPairWith 0 [(0, vR r0), (1, vI x1), (2, vI x2)] [] S Q := by
  refine V_aload_n (pc2 := 1) (dk D_X5_readPairWith 0 rfl) rfl (V_lg 0 rfl) rfl ?_
  obtain ⟨h6, h⟩ := h
  obtain ⟨e1, he2, hc3⟩ := h
  refine V_callV (as := []) (st := []) (M' := MX5_readUnary) (ci := 5) (pc2 := 4) (dk D_X5_readPairWith 1 rfl) ml_5_190 mv_X5_readUnary rfl rfl (by decide) rfl (Nat.le_of_ble_eq_true rfl) rfl he2 h6 hc3 (RI.k fun y4 S5 h => ?_)
  refine V_ifeq (tgt := 24) (pc2 := 7) (dk D_X5_readPairWith 2 rfl) (by decide) rfl (fun q7 => ?_) (fun q7 => ?_)
  · have h := h.1 q7
    exact h
  · have h := h.2 q7
    refine V_aload_n (pc2 := 8) (dk D_X5_readPairWith 3 rfl) rfl (V_lg 0 rfl) rfl ?_
    refine V_sipush (x := 217) (pc2 := 11) (dk D_X5_readPairWith 4 rfl) (by decide) rfl ?_
    obtain ⟨h13, h⟩ := h
    obtain ⟨e8, he9, hc10⟩ := h
    refine V_callV (as := [_]) (st := []) (M' := MX5_take) (ci := 5) (pc2 := 14) (dk D_X5_readPairWith 5 rfl) ml_5_156 mv_X5_take rfl rfl (by decide) rfl (Nat.le_of_ble_eq_true rfl) rfl he9 h13 hc10 (RI.k fun y11 S12 h => ?_)
    refine V_ifeq (tgt := 24) (pc2 := 17) (dk D_X5_readPairWith 6 rfl) (by decide) rfl (fun q14 => ?_) (fun q14 => ?_)
    · have h := h.1 q14
      exact h
    · have h := h.2 q14
      refine V_aload_n (pc2 := 18) (dk D_X5_readPairWith 7 rfl) rfl (V_lg 0 rfl) rfl ?_
      obtain ⟨h20, h⟩ := h
      obtain ⟨e15, he16, hc17⟩ := h
      refine V_callV (as := []) (st := []) (M' := MX5_readUnary) (ci := 5) (pc2 := 21) (dk D_X5_readPairWith 8 rfl) ml_5_190 mv_X5_readUnary rfl rfl (by decide) rfl (Nat.le_of_ble_eq_true rfl) rfl he16 h20 hc17 (RI.k fun y18 S19 h => ?_)
      refine V_ifne (tgt := 26) (pc2 := 24) (dk D_X5_readPairWith 9 rfl) (by decide) rfl (fun q21 => ?_) (fun q21 => ?_)
      · have h := h.1 q21
        refine V_aload_n (pc2 := 27) (dk D_X5_readPairWith 12 rfl) rfl (V_lg 0 rfl) rfl ?_
        refine V_dup (pc2 := 28) (dk D_X5_readPairWith 13 rfl) rfl rfl ?_
        obtain ⟨h22, h⟩ := h
        refine V_getI kc5 (pc2 := 31) 4 (dk D_X5_readPairWith 14 rfl) fl_5_34 (by decide) (fun _ => rfl) rfl h22 ?_
        refine V_iconst (x := 1) (pc2 := 32) (dk D_X5_readPairWith 15 rfl) (by decide) rfl ?_
        refine V_isub (pc2 := 33) (dk D_X5_readPairWith 16 rfl) rfl ?_
        refine V_putI kc5 (pc2 := 36) 4 (dk D_X5_readPairWith 17 rfl) fl_5_34 (by decide) (Or.inl rfl) rfl rfl h22 ?_
        have h := h _ rfl
        refine V_aload_n (pc2 := 37) (dk D_X5_readPairWith 18 rfl) rfl (V_lg 0 rfl) rfl ?_
        refine V_getR kc5 (pc2 := 40) 2 (dk D_X5_readPairWith 19 rfl) fl_5_25 (by decide) (fun _ => rfl) rfl h22 ?_
        refine V_iload_n (pc2 := 41) (dk D_X5_readPairWith 20 rfl) rfl (V_lg 1 rfl) rfl ?_
        refine V_iload_n (pc2 := 42) (dk D_X5_readPairWith 21 rfl) rfl (V_lg 2 rfl) rfl ?_
        obtain ⟨h29, h⟩ := h
        obtain ⟨e24, he25, hc26⟩ := h
        refine V_callV (as := [_, _]) (st := []) (M' := MX1_add) (ci := 1) (pc2 := 45) (dk D_X5_readPairWith 22 rfl) ml_5_57 mv_X1_add rfl rfl (by decide) rfl (Nat.le_of_ble_eq_true rfl) rfl he25 h29 hc26 (RI.k fun y27 S28 h => ?_)
        refine V_pop (pc2 := 46) (dk D_X5_readPairWith 23 rfl) rfl rfl ?_
        refine V_iconst (x := 1) (pc2 := 47) (dk D_X5_readPairWith 24 rfl) (by decide) rfl ?_
        exact V_zreturn (dk D_X5_readPairWith 25 rfl) rfl (Or.inr rfl) h
      · have h := h.2 q21
        exact h
theorem w_X5_readPairWith_24 {X : Cx} {d : Nat} {S : Mem} {Q : Res → Mem → Prop} (r0 : Nat) (x1 : Int32) (x2 : Int32) (h : Q (.inl (some (vI 0))) S) : V X d MX5_readPairWith 24 [(0, vR r0), (1, vI x1), (2, vI x2)] [] S Q := by
  refine V_iconst (x := 0) (pc2 := 25) (dk D_X5_readPairWith 10 rfl) (by decide) rfl ?_
  exact V_zreturn (dk D_X5_readPairWith 11 rfl) rfl (Or.inl rfl) h
def L_X5_readInject : List (Nat × Instr × Nat) := [(0, .aload_n 0, 1), (1, .sipush 214, 3), (4, .invokevirtual 105, 3), (7, .ifCond .eq 10, 3), (10, .aload_n 0, 1), (11, .invokevirtual 159, 3), (14, .ifCond .ne 5, 3), (17, .iconst 0, 1), (18, .ireturn, 1), (19, .aload_n 0, 1), (20, .invokevirtual 162, 3), (23, .bipush 10, 2), (25, .irem, 1), (26, .istore_n 1, 1), (27, .aload_n 0, 1), (28, .getfield 9, 3), (31, .invokevirtual 77, 3), (34, .aload_n 0, 1), (35, .sipush 218, 3), (38, .invokevirtual 156, 3), (41, .ifCond .eq 17, 3), (44, .aload_n 0, 1), (45, .bipush 27, 2), (47, .iload_n 1, 1), (48, .invokevirtual 208, 3), (51, .ifCond .eq 7, 3), (54, .iconst 1, 1), (55, .goto 4, 3), (58, .iconst 0, 1), (59, .ireturn, 1)]
theorem D_X5_readInject : dOk cX5_readInject L_X5_readInject = true := by decide +kernel
theorem w_X5_readInject_0 {X : Cx} {d : Nat} {S : Mem} {Q : Res → Mem → Prop} (r0 : Nat) (h : (isK S r0 5) ∧ ∃ e1 : Nat, e1 + 1 ≤ d ∧ C X e1 MX5_takeOpening [vR r0, vI 214] S (RI fun y4 S5 => ((y4 = 0 → V X d MX5_readInject 17 [(0, vR r0)] [] S5 Q) ∧ (¬ y4 = 0 → (isK S5 r0 5) ∧ ∃ e8 : Nat, e8 + 1 ≤ d ∧ C X e8 MX5_isNumber [vR r0] S5 (RI fun y11 S12 => ((¬ y11 = 0 → (isK S12 r0 5) ∧ ∃ e15 : Nat, e15 + 1 ≤ d ∧ C X e15 MX5_numberHere [vR r0] S12 (RI fun y18 S19 => (isK S19 r0 5) ∧ (isK S19 (gR S19 r0 0) 9) ∧ ∃ e22 : Nat, e22 + 1 ≤ d ∧ C X e22 MX9_next [vR (gR S19 r0 0)] S19 (RV fun  S25 => (isK S25 r0 5) ∧ ∃ e27 : Nat, e27 + 1 ≤ d ∧ C X e27 MX5_take [vR r0, vI 218] S25 (RI fun y30 S31 => ((y30 = 0 → V X d MX5_readInject 58 [(0, vR r0), (1, vI (y18 - y18 / 10 * 10))] [] S31 Q) ∧ (¬ y30 = 0 → (isK S31 r0 5) ∧ ∃ e34 : Nat, e34 + 1 ≤ d ∧ C X e34 MX5_readPairWith [vR r0, vI 27, vI (y18 - y18 / 10 * 10)] S31 (RI fun y37 S38 => ((y37 = 0 → V X d MX5_readInject 58 [(0, vR r0), (1, vI (y18 - y18 / 10 * 10))] [] S38 Q) ∧ (¬ y37 = 0 → V X d MX5_readInject 59 [(0, vR r0), (1, vI (y18 - y18 / 10 * 10))] [vI 1] S38 Q))))))))) ∧ (y11 = 0 → V X d MX5_readInject 17 [(0, vR r0)] [] S12 Q))))))) : V X d MX5_readInject 0 [(0, vR r0)] [] S Q := by
  refine V_aload_n (pc2 := 1) (dk D_X5_readInject 0 rfl) rfl (V_lg 0 rfl) rfl ?_
  refine V_sipush (x := 214) (pc2 := 4) (dk D_X5_readInject 1 rfl) (by decide) rfl ?_
  obtain ⟨h6, h⟩ := h
  obtain ⟨e1, he2, hc3⟩ := h
  refine V_callV (as := [_]) (st := []) (M' := MX5_takeOpening) (ci := 5) (pc2 := 7) (dk D_X5_readInject 2 rfl) ml_5_105 mv_X5_takeOpening rfl rfl (by decide) rfl (Nat.le_of_ble_eq_true rfl) rfl he2 h6 hc3 (RI.k fun y4 S5 h => ?_)
  refine V_ifeq (tgt := 17) (pc2 := 10) (dk D_X5_readInject 3 rfl) (by decide) rfl (fun q7 => ?_) (fun q7 => ?_)
  · have h := h.1 q7
    exact h
  · have h := h.2 q7
    refine V_aload_n (pc2 := 11) (dk D_X5_readInject 4 rfl) rfl (V_lg 0 rfl) rfl ?_
    obtain ⟨h13, h⟩ := h
    obtain ⟨e8, he9, hc10⟩ := h
    refine V_callV (as := []) (st := []) (M' := MX5_isNumber) (ci := 5) (pc2 := 14) (dk D_X5_readInject 5 rfl) ml_5_159 mv_X5_isNumber rfl rfl (by decide) rfl (Nat.le_of_ble_eq_true rfl) rfl he9 h13 hc10 (RI.k fun y11 S12 h => ?_)
    refine V_ifne (tgt := 19) (pc2 := 17) (dk D_X5_readInject 6 rfl) (by decide) rfl (fun q14 => ?_) (fun q14 => ?_)
    · have h := h.1 q14
      refine V_aload_n (pc2 := 20) (dk D_X5_readInject 9 rfl) rfl (V_lg 0 rfl) rfl ?_
      obtain ⟨h20, h⟩ := h
      obtain ⟨e15, he16, hc17⟩ := h
      refine V_callV (as := []) (st := []) (M' := MX5_numberHere) (ci := 5) (pc2 := 23) (dk D_X5_readInject 10 rfl) ml_5_162 mv_X5_numberHere rfl rfl (by decide) rfl (Nat.le_of_ble_eq_true rfl) rfl he16 h20 hc17 (RI.k fun y18 S19 h => ?_)
      refine V_bipush (x := 10) (pc2 := 25) (dk D_X5_readInject 11 rfl) (by decide) rfl ?_
      refine V_irem (pc2 := 26) (dk D_X5_readInject 12 rfl) rfl (by decide) ?_
      refine V_istore_n (pc2 := 27) (lv2 := [(0, _), (1, _)]) (dk D_X5_readInject 13 rfl) rfl (by decide) rfl rfl ?_
      refine V_aload_n (pc2 := 28) (dk D_X5_readInject 14 rfl) rfl (V_lg 0 rfl) rfl ?_
      obtain ⟨h21, h⟩ := h
      refine V_getR kc5 (pc2 := 31) 0 (dk D_X5_readInject 15 rfl) fl_5_9 (by decide) (fun _ => rfl) rfl h21 ?_
      obtain ⟨h26, h⟩ := h
      obtain ⟨e22, he23, hc24⟩ := h
      refine V_callV (as := []) (st := []) (M' := MX9_next) (ci := 9) (pc2 := 34) (dk D_X5_readInject 16 rfl) ml_5_77 mv_X9_next rfl rfl (by decide) rfl (Nat.le_of_ble_eq_true rfl) rfl he23 h26 hc24 (RV.k fun  S25 h => ?_)
      refine V_aload_n (pc2 := 35) (dk D_X5_readInject 17 rfl) rfl (V_lg 0 rfl) rfl ?_
      refine V_sipush (x := 218) (pc2 := 38) (dk D_X5_readInject 18 rfl) (by decide) rfl ?_
      obtain ⟨h32, h⟩ := h
      obtain ⟨e27, he28, hc29⟩ := h
      refine V_callV (as := [_]) (st := []) (M' := MX5_take) (ci := 5) (pc2 := 41) (dk D_X5_readInject 19 rfl) ml_5_156 mv_X5_take rfl rfl (by decide) rfl (Nat.le_of_ble_eq_true rfl) rfl he28 h32 hc29 (RI.k fun y30 S31 h => ?_)
      refine V_ifeq (tgt := 58) (pc2 := 44) (dk D_X5_readInject 20 rfl) (by decide) rfl (fun q33 => ?_) (fun q33 => ?_)
      · have h := h.1 q33
        exact h
      · have h := h.2 q33
        refine V_aload_n (pc2 := 45) (dk D_X5_readInject 21 rfl) rfl (V_lg 0 rfl) rfl ?_
        refine V_bipush (x := 27) (pc2 := 47) (dk D_X5_readInject 22 rfl) (by decide) rfl ?_
        refine V_iload_n (pc2 := 48) (dk D_X5_readInject 23 rfl) rfl (V_lg 1 rfl) rfl ?_
        obtain ⟨h39, h⟩ := h
        obtain ⟨e34, he35, hc36⟩ := h
        refine V_callV (as := [_, _]) (st := []) (M' := MX5_readPairWith) (ci := 5) (pc2 := 51) (dk D_X5_readInject 24 rfl) ml_5_208 mv_X5_readPairWith rfl rfl (by decide) rfl (Nat.le_of_ble_eq_true rfl) rfl he35 h39 hc36 (RI.k fun y37 S38 h => ?_)
        refine V_ifeq (tgt := 58) (pc2 := 54) (dk D_X5_readInject 25 rfl) (by decide) rfl (fun q40 => ?_) (fun q40 => ?_)
        · have h := h.1 q40
          exact h
        · have h := h.2 q40
          refine V_iconst (x := 1) (pc2 := 55) (dk D_X5_readInject 26 rfl) (by decide) rfl ?_
          refine V_goto (tgt := 59) (dk D_X5_readInject 27 rfl) (by decide) ?_
          exact h
    · have h := h.2 q14
      exact h
theorem w_X5_readInject_17 {X : Cx} {d : Nat} {S : Mem} {Q : Res → Mem → Prop} (r0 : Nat) (h : Q (.inl (some (vI 0))) S) : V X d MX5_readInject 17 [(0, vR r0)] [] S Q := by
  refine V_iconst (x := 0) (pc2 := 18) (dk D_X5_readInject 7 rfl) (by decide) rfl ?_
  exact V_zreturn (dk D_X5_readInject 8 rfl) rfl (Or.inl rfl) h
theorem w_X5_readInject_58 {X : Cx} {d : Nat} {S : Mem} {Q : Res → Mem → Prop} (r0 : Nat) (x1 : Int32) (h : V X d MX5_readInject 59 [(0, vR r0), (1, vI x1)] [vI 0] S Q) : V X d MX5_readInject 58 [(0, vR r0), (1, vI x1)] [] S Q := by
  refine V_iconst (x := 0) (pc2 := 59) (dk D_X5_readInject 28 rfl) (by decide) rfl ?_
  exact h
theorem w_X5_readInject_59 {X : Cx} {d : Nat} {S : Mem} {Q : Res → Mem → Prop} (r0 : Nat) (x1 : Int32) (t0 : Int32) (h : (t0 = 0 ∨ t0 = 1) ∧ Q (.inl (some (vI t0))) S) : V X d MX5_readInject 59 [(0, vR r0), (1, vI x1)] [vI t0] S Q := by
  obtain ⟨h1, h⟩ := h
  exact V_zreturn (dk D_X5_readInject 29 rfl) rfl h1 h
def L_X5_readPlain : List (Nat × Instr × Nat) := [(0, .aload_n 0, 1), (1, .getfield 9, 3), (4, .getfield 41, 3), (7, .lookupswitch 117 #[(2, 88), (3, 57), (5, 88), (6, 57), (212, 112), (219, 93)], 57), (64, .aload_n 0, 1), (65, .invokevirtual 159, 3), (68, .ifCond .ne 5, 3), (71, .iconst 0, 1), (72, .ireturn, 1), (73, .aload_n 0, 1), (74, .getfield 25, 3), (77, .iconst 1, 1), (78, .aload_n 0, 1), (79, .invokevirtual 162, 3), (82, .invokevirtual 57, 3), (85, .pop, 1), (86, .aload_n 0, 1), (87, .getfield 9, 3), (90, .invokevirtual 77, 3), (93, .iconst 1, 1), (94, .ireturn, 1), (95, .aload_n 0, 1), (96, .invokevirtual 212, 3), (99, .ireturn, 1), (100, .aload_n 0, 1), (101, .getfield 25, 3), (104, .iconst 5, 1), (105, .iconst 0, 1), (106, .invokevirtual 57, 3), (109, .pop, 1), (110, .aload_n 0, 1), (111, .getfield 9, 3), (114, .invokevirtual 77, 3), (117, .iconst 1, 1), (118, .ireturn, 1), (119, .aload_n 0, 1), (120, .invokevirtual 215, 3), (123, .ireturn, 1), (124, .aload_n 0, 1), (125, .invokevirtual 165, 3), (128, .ireturn, 1)]
theorem D_X5_readPlain : dOk cX5_readPlain L_X5_readPlain = true := by decide +kernel
theorem w_X5_readPlain_0 {X : Cx} {d : Nat} {S : Mem} {Q : Res → Mem → Prop} (r0 : Nat) (h : (isK S r0 5) ∧ (isK S (gR S r0 0) 9) ∧ (((gI S (gR S r0 0) 7) = 2 → ∃ e4 : Nat, e4 + 1 ≤ d ∧ C X e4 MX5_readVariableOrCall [vR r0] S (RI fun y7 S8 => (y7 = 0 ∨ y7 = 1) ∧ Q (.inl (some (vI y7))) S8)) ∧ ((gI S (gR S r0 0) 7) = 3 → ∃ e10 : Nat, e10 + 1 ≤ d ∧ C X e10 MX5_isNumber [vR r0] S (RI fun y13 S14 => ((¬ y13 = 0 → (isK S14 r0 5) ∧ ∃ e17 : Nat, e17 + 1 ≤ d ∧ C X e17 MX5_numberHere [vR r0] S14 (RI fun y20 S21 => (isK S21 (gR S14 r0 2) 1) ∧ ∃ e22 : Nat, e22 + 1 ≤ d ∧ C X e22 MX1_add [vR (gR S14 r0 2), vI 1, vI y20] S21 (RI fun y25 S26 => (isK S26 r0 5) ∧ (isK S26 (gR S26 r0 0) 9) ∧ ∃ e29 : Nat, e29 + 1 ≤ d ∧ C X e29 MX9_next [vR (gR S26 r0 0)] S26 (RV fun  S32 => Q (.inl (some (vI 1))) S32)))) ∧ (y13 = 0 → Q (.inl (some (vI 0))) S14)))) ∧ ((gI S (gR S r0 0) 7) = 5 → ∃ e34 : Nat, e34 + 1 ≤ d ∧ C X e34 MX5_readVariableOrCall [vR r0] S (RI fun y37 S38 => (y37 = 0 ∨ y37 = 1) ∧ Q (.inl (some (vI y37))) S38)) ∧ ((gI S (gR S r0 0) 7) = 6 → ∃ e40 : Nat, e40 + 1 ≤ d ∧ C X e40 MX5_isNumber [vR r0] S (RI fun y43 S44 => ((¬ y43 = 0 → (isK S44 r0 5) ∧ ∃ e47 : Nat, e47 + 1 ≤ d ∧ C X e47 MX5_numberHere [vR r0] S44 (RI fun y50 S51 => (isK S51 (gR S44 r0 2) 1) ∧ ∃ e52 : Nat, e52 + 1 ≤ d ∧ C X e52 MX1_add [vR (gR S44 r0 2), vI 1, vI y50] S51 (RI fun y55 S56 => (isK S56 r0 5) ∧ (isK S56 (gR S56 r0 0) 9) ∧ ∃ e59 : Nat, e59 + 1 ≤ d ∧ C X e59 MX9_next [vR (gR S56 r0 0)] S56 (RV fun  S62 => Q (.inl (some (vI 1))) S62)))) ∧ (y43 = 0 → Q (.inl (some (vI 0))) S44)))) ∧ ((gI S (gR S r0 0) 7) = 212 → ∃ e64 : Nat, e64 + 1 ≤ d ∧ C X e64 MX5_readNew [vR r0] S (RI fun y67 S68 => (y67 = 0 ∨ y67 = 1) ∧ Q (.inl (some (vI y67))) S68)) ∧ ((gI S (gR S r0 0) 7) = 219 → (isK S (gR S r0 2) 1) ∧ ∃ e70 : Nat, e70 + 1 ≤ d ∧ C X e70 MX1_add [vR (gR S r0 2), vI 5, vI 0] S (RI fun y73 S74 => (isK S74 r0 5) ∧ (isK S74 (gR S74 r0 0) 9) ∧ ∃ e77 : Nat, e77 + 1 ≤ d ∧ C X e77 MX9_next [vR (gR S74 r0 0)] S74 (RV fun  S80 => Q (.inl (some (vI 1))) S80))) ∧ (¬ ((gI S (gR S r0 0) 7) = 2 ∨ (gI S (gR S r0 0) 7) = 3 ∨ (gI S (gR S r0 0) 7) = 5 ∨ (gI S (gR S r0 0) 7) = 6 ∨ (gI S (gR S r0 0) 7) = 212 ∨ (gI S (gR S r0 0) 7) = 219) → ∃ e82 : Nat, e82 + 1 ≤ d ∧ C X e82 MX5_readCondition [vR r0] S (RI fun y85 S86 => (y85 = 0 ∨ y85 = 1) ∧ Q (.inl (some (vI y85))) S86)))) : V X d MX5_readPlain 0 [(0, vR r0)] [] S Q := by
  refine V_aload_n (pc2 := 1) (dk D_X5_readPlain 0 rfl) rfl (V_lg 0 rfl) rfl ?_
  obtain ⟨h1, h⟩ := h
  refine V_getR kc5 (pc2 := 4) 0 (dk D_X5_readPlain 1 rfl) fl_5_9 (by decide) (fun _ => rfl) rfl h1 ?_
  obtain ⟨h2, h⟩ := h
  refine V_getI kc9 (pc2 := 7) 7 (dk D_X5_readPlain 2 rfl) fl_5_41 (by decide) (fun _ => rfl) rfl h2 ?_
  refine V_look (dk D_X5_readPlain 3 rfl) (by decide) [(2, 88, 95), (3, 57, 64), (5, 88, 95), (6, 57, 64), (212, 112, 119), (219, 93, 100)] 124 (by decide) (by decide) (by decide) ?_ ?_
  · simp only [List.forall_mem_cons]
    refine ⟨fun q3 => ?_, fun q3 => ?_, fun q3 => ?_, fun q3 => ?_, fun q3 => ?_, fun q3 => ?_, fun _ hq => absurd hq List.not_mem_nil⟩
    · have h := h.1 q3
      refine V_aload_n (pc2 := 96) (dk D_X5_readPlain 21 rfl) rfl (V_lg 0 rfl) rfl ?_
      obtain ⟨e4, he5, hc6⟩ := h
      refine V_callV (as := []) (st := []) (M' := MX5_readVariableOrCall) (ci := 5) (pc2 := 99) (dk D_X5_readPlain 22 rfl) ml_5_212 mv_X5_readVariableOrCall rfl rfl (by decide) rfl (Nat.le_of_ble_eq_true rfl) rfl he5 h1 hc6 (RI.k fun y7 S8 h => ?_)
      obtain ⟨h9, h⟩ := h
      exact V_zreturn (dk D_X5_readPlain 23 rfl) rfl h9 h
    · have h := h.2.1 q3
      refine V_aload_n (pc2 := 65) (dk D_X5_readPlain 4 rfl) rfl (V_lg 0 rfl) rfl ?_
      obtain ⟨e10, he11, hc12⟩ := h
      refine V_callV (as := []) (st := []) (M' := MX5_isNumber) (ci := 5) (pc2 := 68) (dk D_X5_readPlain 5 rfl) ml_5_159 mv_X5_isNumber rfl rfl (by decide) rfl (Nat.le_of_ble_eq_true rfl) rfl he11 h1 hc12 (RI.k fun y13 S14 h => ?_)
      refine V_ifne (tgt := 73) (pc2 := 71) (dk D_X5_readPlain 6 rfl) (by decide) rfl (fun q15 => ?_) (fun q15 => ?_)
      · have h := h.1 q15
        refine V_aload_n (pc2 := 74) (dk D_X5_readPlain 9 rfl) rfl (V_lg 0 rfl) rfl ?_
        obtain ⟨h16, h⟩ := h
        refine V_getR kc5 (pc2 := 77) 2 (dk D_X5_readPlain 10 rfl) fl_5_25 (by decide) (fun _ => rfl) rfl h16 ?_
        refine V_iconst (x := 1) (pc2 := 78) (dk D_X5_readPlain 11 rfl) (by decide) rfl ?_
        refine V_aload_n (pc2 := 79) (dk D_X5_readPlain 12 rfl) rfl (V_lg 0 rfl) rfl ?_
        obtain ⟨e17, he18, hc19⟩ := h
        refine V_callV (as := []) (st := [_, _]) (M' := MX5_numberHere) (ci := 5) (pc2 := 82) (dk D_X5_readPlain 13 rfl) ml_5_162 mv_X5_numberHere rfl rfl (by decide) rfl (Nat.le_of_ble_eq_true rfl) rfl he18 h16 hc19 (RI.k fun y20 S21 h => ?_)
        obtain ⟨h27, h⟩ := h
        obtain ⟨e22, he23, hc24⟩ := h
        refine V_callV (as := [_, _]) (st := []) (M' := MX1_add) (ci := 1) (pc2 := 85) (dk D_X5_readPlain 14 rfl) ml_5_57 mv_X1_add rfl rfl (by decide) rfl (Nat.le_of_ble_eq_true rfl) rfl he23 h27 hc24 (RI.k fun y25 S26 h => ?_)
        refine V_pop (pc2 := 86) (dk D_X5_readPlain 15 rfl) rfl rfl ?_
        refine V_aload_n (pc2 := 87) (dk D_X5_readPlain 16 rfl) rfl (V_lg 0 rfl) rfl ?_
        obtain ⟨h28, h⟩ := h
        refine V_getR kc5 (pc2 := 90) 0 (dk D_X5_readPlain 17 rfl) fl_5_9 (by decide) (fun _ => rfl) rfl h28 ?_
        obtain ⟨h33, h⟩ := h
        obtain ⟨e29, he30, hc31⟩ := h
        refine V_callV (as := []) (st := []) (M' := MX9_next) (ci := 9) (pc2 := 93) (dk D_X5_readPlain 18 rfl) ml_5_77 mv_X9_next rfl rfl (by decide) rfl (Nat.le_of_ble_eq_true rfl) rfl he30 h33 hc31 (RV.k fun  S32 h => ?_)
        refine V_iconst (x := 1) (pc2 := 94) (dk D_X5_readPlain 19 rfl) (by decide) rfl ?_
        exact V_zreturn (dk D_X5_readPlain 20 rfl) rfl (Or.inr rfl) h
      · have h := h.2 q15
        refine V_iconst (x := 0) (pc2 := 72) (dk D_X5_readPlain 7 rfl) (by decide) rfl ?_
        exact V_zreturn (dk D_X5_readPlain 8 rfl) rfl (Or.inl rfl) h
    · have h := h.2.2.1 q3
      refine V_aload_n (pc2 := 96) (dk D_X5_readPlain 21 rfl) rfl (V_lg 0 rfl) rfl ?_
      obtain ⟨e34, he35, hc36⟩ := h
      refine V_callV (as := []) (st := []) (M' := MX5_readVariableOrCall) (ci := 5) (pc2 := 99) (dk D_X5_readPlain 22 rfl) ml_5_212 mv_X5_readVariableOrCall rfl rfl (by decide) rfl (Nat.le_of_ble_eq_true rfl) rfl he35 h1 hc36 (RI.k fun y37 S38 h => ?_)
      obtain ⟨h39, h⟩ := h
      exact V_zreturn (dk D_X5_readPlain 23 rfl) rfl h39 h
    · have h := h.2.2.2.1 q3
      refine V_aload_n (pc2 := 65) (dk D_X5_readPlain 4 rfl) rfl (V_lg 0 rfl) rfl ?_
      obtain ⟨e40, he41, hc42⟩ := h
      refine V_callV (as := []) (st := []) (M' := MX5_isNumber) (ci := 5) (pc2 := 68) (dk D_X5_readPlain 5 rfl) ml_5_159 mv_X5_isNumber rfl rfl (by decide) rfl (Nat.le_of_ble_eq_true rfl) rfl he41 h1 hc42 (RI.k fun y43 S44 h => ?_)
      refine V_ifne (tgt := 73) (pc2 := 71) (dk D_X5_readPlain 6 rfl) (by decide) rfl (fun q45 => ?_) (fun q45 => ?_)
      · have h := h.1 q45
        refine V_aload_n (pc2 := 74) (dk D_X5_readPlain 9 rfl) rfl (V_lg 0 rfl) rfl ?_
        obtain ⟨h46, h⟩ := h
        refine V_getR kc5 (pc2 := 77) 2 (dk D_X5_readPlain 10 rfl) fl_5_25 (by decide) (fun _ => rfl) rfl h46 ?_
        refine V_iconst (x := 1) (pc2 := 78) (dk D_X5_readPlain 11 rfl) (by decide) rfl ?_
        refine V_aload_n (pc2 := 79) (dk D_X5_readPlain 12 rfl) rfl (V_lg 0 rfl) rfl ?_
        obtain ⟨e47, he48, hc49⟩ := h
        refine V_callV (as := []) (st := [_, _]) (M' := MX5_numberHere) (ci := 5) (pc2 := 82) (dk D_X5_readPlain 13 rfl) ml_5_162 mv_X5_numberHere rfl rfl (by decide) rfl (Nat.le_of_ble_eq_true rfl) rfl he48 h46 hc49 (RI.k fun y50 S51 h => ?_)
        obtain ⟨h57, h⟩ := h
        obtain ⟨e52, he53, hc54⟩ := h
        refine V_callV (as := [_, _]) (st := []) (M' := MX1_add) (ci := 1) (pc2 := 85) (dk D_X5_readPlain 14 rfl) ml_5_57 mv_X1_add rfl rfl (by decide) rfl (Nat.le_of_ble_eq_true rfl) rfl he53 h57 hc54 (RI.k fun y55 S56 h => ?_)
        refine V_pop (pc2 := 86) (dk D_X5_readPlain 15 rfl) rfl rfl ?_
        refine V_aload_n (pc2 := 87) (dk D_X5_readPlain 16 rfl) rfl (V_lg 0 rfl) rfl ?_
        obtain ⟨h58, h⟩ := h
        refine V_getR kc5 (pc2 := 90) 0 (dk D_X5_readPlain 17 rfl) fl_5_9 (by decide) (fun _ => rfl) rfl h58 ?_
        obtain ⟨h63, h⟩ := h
        obtain ⟨e59, he60, hc61⟩ := h
        refine V_callV (as := []) (st := []) (M' := MX9_next) (ci := 9) (pc2 := 93) (dk D_X5_readPlain 18 rfl) ml_5_77 mv_X9_next rfl rfl (by decide) rfl (Nat.le_of_ble_eq_true rfl) rfl he60 h63 hc61 (RV.k fun  S62 h => ?_)
        refine V_iconst (x := 1) (pc2 := 94) (dk D_X5_readPlain 19 rfl) (by decide) rfl ?_
        exact V_zreturn (dk D_X5_readPlain 20 rfl) rfl (Or.inr rfl) h
      · have h := h.2 q45
        refine V_iconst (x := 0) (pc2 := 72) (dk D_X5_readPlain 7 rfl) (by decide) rfl ?_
        exact V_zreturn (dk D_X5_readPlain 8 rfl) rfl (Or.inl rfl) h
    · have h := h.2.2.2.2.1 q3
      refine V_aload_n (pc2 := 120) (dk D_X5_readPlain 35 rfl) rfl (V_lg 0 rfl) rfl ?_
      obtain ⟨e64, he65, hc66⟩ := h
      refine V_callV (as := []) (st := []) (M' := MX5_readNew) (ci := 5) (pc2 := 123) (dk D_X5_readPlain 36 rfl) ml_5_215 mv_X5_readNew rfl rfl (by decide) rfl (Nat.le_of_ble_eq_true rfl) rfl he65 h1 hc66 (RI.k fun y67 S68 h => ?_)
      obtain ⟨h69, h⟩ := h
      exact V_zreturn (dk D_X5_readPlain 37 rfl) rfl h69 h
    · have h := h.2.2.2.2.2.1 q3
      refine V_aload_n (pc2 := 101) (dk D_X5_readPlain 24 rfl) rfl (V_lg 0 rfl) rfl ?_
      refine V_getR kc5 (pc2 := 104) 2 (dk D_X5_readPlain 25 rfl) fl_5_25 (by decide) (fun _ => rfl) rfl h1 ?_
      refine V_iconst (x := 5) (pc2 := 105) (dk D_X5_readPlain 26 rfl) (by decide) rfl ?_
      refine V_iconst (x := 0) (pc2 := 106) (dk D_X5_readPlain 27 rfl) (by decide) rfl ?_
      obtain ⟨h75, h⟩ := h
      obtain ⟨e70, he71, hc72⟩ := h
      refine V_callV (as := [_, _]) (st := []) (M' := MX1_add) (ci := 1) (pc2 := 109) (dk D_X5_readPlain 28 rfl) ml_5_57 mv_X1_add rfl rfl (by decide) rfl (Nat.le_of_ble_eq_true rfl) rfl he71 h75 hc72 (RI.k fun y73 S74 h => ?_)
      refine V_pop (pc2 := 110) (dk D_X5_readPlain 29 rfl) rfl rfl ?_
      refine V_aload_n (pc2 := 111) (dk D_X5_readPlain 30 rfl) rfl (V_lg 0 rfl) rfl ?_
      obtain ⟨h76, h⟩ := h
      refine V_getR kc5 (pc2 := 114) 0 (dk D_X5_readPlain 31 rfl) fl_5_9 (by decide) (fun _ => rfl) rfl h76 ?_
      obtain ⟨h81, h⟩ := h
      obtain ⟨e77, he78, hc79⟩ := h
      refine V_callV (as := []) (st := []) (M' := MX9_next) (ci := 9) (pc2 := 117) (dk D_X5_readPlain 32 rfl) ml_5_77 mv_X9_next rfl rfl (by decide) rfl (Nat.le_of_ble_eq_true rfl) rfl he78 h81 hc79 (RV.k fun  S80 h => ?_)
      refine V_iconst (x := 1) (pc2 := 118) (dk D_X5_readPlain 33 rfl) (by decide) rfl ?_
      exact V_zreturn (dk D_X5_readPlain 34 rfl) rfl (Or.inr rfl) h
  · intro q3
    simp only [List.forall_mem_cons] at q3
    have h := h.2.2.2.2.2.2 (by rintro (hk | hk | hk | hk | hk | hk) <;> simp_all)
    refine V_aload_n (pc2 := 125) (dk D_X5_readPlain 38 rfl) rfl (V_lg 0 rfl) rfl ?_
    obtain ⟨e82, he83, hc84⟩ := h
    refine V_callV (as := []) (st := []) (M' := MX5_readCondition) (ci := 5) (pc2 := 128) (dk D_X5_readPlain 39 rfl) ml_5_165 mv_X5_readCondition rfl rfl (by decide) rfl (Nat.le_of_ble_eq_true rfl) rfl he83 h1 hc84 (RI.k fun y85 S86 h => ?_)
    obtain ⟨h87, h⟩ := h
    exact V_zreturn (dk D_X5_readPlain 40 rfl) rfl h87 h
def L_X5_readVariableOrCall : List (Nat × Instr × Nat) := [(0, .aload_n 0, 1), (1, .invokevirtual 90, 3), (4, .ifCond .ne 5, 3), (7, .iconst 0, 1), (8, .ireturn, 1), (9, .aload_n 0, 1), (10, .getfield 9, 3), (13, .invokevirtual 80, 3), (16, .istore_n 1, 1), (17, .aload_n 0, 1), (18, .getfield 9, 3), (21, .invokevirtual 77, 3), (24, .aload_n 0, 1), (25, .getfield 9, 3), (28, .getfield 41, 3), (31, .bipush 40, 2), (33, .if_icmp .eq 17, 3), (36, .aload_n 0, 1), (37, .getfield 25, 3), (40, .iconst 2, 1), (41, .iconst (-1), 1), (42, .iload_n 1, 1), (43, .isub, 1), (44, .invokevirtual 57, 3), (47, .pop, 1), (48, .iconst 1, 1), (49, .ireturn, 1), (50, .aload_n 0, 1), (51, .bipush 40, 2), (53, .invokevirtual 105, 3), (56, .ifCond .eq 18, 3), (59, .aload_n 0, 1), (60, .iload_n 1, 1), (61, .bipush 24, 2), (63, .iconst 4, 1), (64, .invokevirtual 218, 3), (67, .ifCond .eq 7, 3), (70, .iconst 1, 1), (71, .goto 4, 3), (74, .iconst 0, 1), (75, .ireturn, 1)]
theorem D_X5_readVariableOrCall : dOk cX5_readVariableOrCall L_X5_readVariableOrCall = true := by decide +kernel
theorem w_X5_readVariableOrCall_0 {X : Cx} {d : Nat} {S : Mem} {Q : Res → Mem → Prop} (r0 : Nat) (h : (isK S r0 5) ∧ ∃ e1 : Nat, e1 + 1 ≤ d ∧ C X e1 MX5_isName [vR r0] S (RI fun y4 S5 => ((¬ y4 = 0 → (isK S5 r0 5) ∧ (isK S5 (gR S5 r0 0) 9) ∧ ∃ e9 : Nat, e9 + 1 ≤ d ∧ C X e9 MX9_index [vR (gR S5 r0 0)] S5 (RI fun y12 S13 => (isK S13 r0 5) ∧ (isK S13 (gR S13 r0 0) 9) ∧ ∃ e16 : Nat, e16 + 1 ≤ d ∧ C X e16 MX9_next [vR (gR S13 r0 0)] S13 (RV fun  S19 => (isK S19 r0 5) ∧ (isK S19 (gR S19 r0 0) 9) ∧ (((gI S19 (gR S19 r0 0) 7) = 40 → ∃ e24 : Nat, e24 + 1 ≤ d ∧ C X e24 MX5_takeOpening [vR r0, vI 40] S19 (RI fun y27 S28 => ((y27 = 0 → V X d MX5_readVariableOrCall 74 [(0, vR r0), (1, vI y12)] [] S28 Q) ∧ (¬ y27 = 0 → (isK S28 r0 5) ∧ ∃ e30 : Nat, e30 + 1 ≤ d ∧ C X e30 MX5_readValues [vR r0, vI y12, vI 24, vI 4] S28 (RI fun y33 S34 => ((y33 = 0 → V X d MX5_readVariableOrCall 74 [(0, vR r0), (1, vI y12)] [] S34 Q) ∧ (¬ y33 = 0 → V X d MX5_readVariableOrCall 75 [(0, vR r0), (1, vI y12)] [vI 1] S34 Q))))))) ∧ (¬ (gI S19 (gR S19 r0 0) 7) = 40 → (isK S19 (gR S19 r0 2) 1) ∧ ∃ e37 : Nat, e37 + 1 ≤ d ∧ C X e37 MX1_add [vR (gR S19 r0 2), vI 2, vI ((-1) - y12)] S19 (RI fun y40 S41 => Q (.inl (some (vI 1))) S41)))))) ∧ (y4 = 0 → Q (.inl (some (vI 0))) S5)))) : V X d MX5_readVariableOrCall 0 [(0, vR r0)] [] S Q := by
  refine V_aload_n (pc2 := 1) (dk D_X5_readVariableOrCall 0 rfl) rfl (V_lg 0 rfl) rfl ?_
  obtain ⟨h6, h⟩ := h
  obtain ⟨e1, he2, hc3⟩ := h
  refine V_callV (as := []) (st := []) (M' := MX5_isName) (ci := 5) (pc2 := 4) (dk D_X5_readVariableOrCall 1 rfl) ml_5_90 mv_X5_isName rfl rfl (by decide) rfl (Nat.le_of_ble_eq_true rfl) rfl he2 h6 hc3 (RI.k fun y4 S5 h => ?_)
  refine V_ifne (tgt := 9) (pc2 := 7) (dk D_X5_readVariableOrCall 2 rfl) (by decide) rfl (fun q7 => ?_) (fun q7 => ?_)
  · have h := h.1 q7
    refine V_aload_n (pc2 := 10) (dk D_X5_readVariableOrCall 5 rfl) rfl (V_lg 0 rfl) rfl ?_
    obtain ⟨h8, h⟩ := h
    refine V_getR kc5 (pc2 := 13) 0 (dk D_X5_readVariableOrCall 6 rfl) fl_5_9 (by decide) (fun _ => rfl) rfl h8 ?_
    obtain ⟨h14, h⟩ := h
    obtain ⟨e9, he10, hc11⟩ := h
    refine V_callV (as := []) (st := []) (M' := MX9_index) (ci := 9) (pc2 := 16) (dk D_X5_readVariableOrCall 7 rfl) ml_5_80 mv_X9_index rfl rfl (by decide) rfl (Nat.le_of_ble_eq_true rfl) rfl he10 h14 hc11 (RI.k fun y12 S13 h => ?_)
    refine V_istore_n (pc2 := 17) (lv2 := [(0, _), (1, _)]) (dk D_X5_readVariableOrCall 8 rfl) rfl (by decide) rfl rfl ?_
    refine V_aload_n (pc2 := 18) (dk D_X5_readVariableOrCall 9 rfl) rfl (V_lg 0 rfl) rfl ?_
    obtain ⟨h15, h⟩ := h
    refine V_getR kc5 (pc2 := 21) 0 (dk D_X5_readVariableOrCall 10 rfl) fl_5_9 (by decide) (fun _ => rfl) rfl h15 ?_
    obtain ⟨h20, h⟩ := h
    obtain ⟨e16, he17, hc18⟩ := h
    refine V_callV (as := []) (st := []) (M' := MX9_next) (ci := 9) (pc2 := 24) (dk D_X5_readVariableOrCall 11 rfl) ml_5_77 mv_X9_next rfl rfl (by decide) rfl (Nat.le_of_ble_eq_true rfl) rfl he17 h20 hc18 (RV.k fun  S19 h => ?_)
    refine V_aload_n (pc2 := 25) (dk D_X5_readVariableOrCall 12 rfl) rfl (V_lg 0 rfl) rfl ?_
    obtain ⟨h21, h⟩ := h
    refine V_getR kc5 (pc2 := 28) 0 (dk D_X5_readVariableOrCall 13 rfl) fl_5_9 (by decide) (fun _ => rfl) rfl h21 ?_
    obtain ⟨h22, h⟩ := h
    refine V_getI kc9 (pc2 := 31) 7 (dk D_X5_readVariableOrCall 14 rfl) fl_5_41 (by decide) (fun _ => rfl) rfl h22 ?_
    refine V_bipush (x := 40) (pc2 := 33) (dk D_X5_readVariableOrCall 15 rfl) (by decide) rfl ?_
    refine V_cmpeq (tgt := 50) (pc2 := 36) (dk D_X5_readVariableOrCall 16 rfl) (by decide) rfl (fun q23 => ?_) (fun q23 => ?_)
    · have h := h.1 q23
      refine V_aload_n (pc2 := 51) (dk D_X5_readVariableOrCall 27 rfl) rfl (V_lg 0 rfl) rfl ?_
      refine V_bipush (x := 40) (pc2 := 53) (dk D_X5_readVariableOrCall 28 rfl) (by decide) rfl ?_
      obtain ⟨e24, he25, hc26⟩ := h
      refine V_callV (as := [_]) (st := []) (M' := MX5_takeOpening) (ci := 5) (pc2 := 56) (dk D_X5_readVariableOrCall 29 rfl) ml_5_105 mv_X5_takeOpening rfl rfl (by decide) rfl (Nat.le_of_ble_eq_true rfl) rfl he25 h21 hc26 (RI.k fun y27 S28 h => ?_)
      refine V_ifeq (tgt := 74) (pc2 := 59) (dk D_X5_readVariableOrCall 30 rfl) (by decide) rfl (fun q29 => ?_) (fun q29 => ?_)
      · have h := h.1 q29
        exact h
      · have h := h.2 q29
        refine V_aload_n (pc2 := 60) (dk D_X5_readVariableOrCall 31 rfl) rfl (V_lg 0 rfl) rfl ?_
        refine V_iload_n (pc2 := 61) (dk D_X5_readVariableOrCall 32 rfl) rfl (V_lg 1 rfl) rfl ?_
        refine V_bipush (x := 24) (pc2 := 63) (dk D_X5_readVariableOrCall 33 rfl) (by decide) rfl ?_
        refine V_iconst (x := 4) (pc2 := 64) (dk D_X5_readVariableOrCall 34 rfl) (by decide) rfl ?_
        obtain ⟨h35, h⟩ := h
        obtain ⟨e30, he31, hc32⟩ := h
        refine V_callV (as := [_, _, _]) (st := []) (M' := MX5_readValues) (ci := 5) (pc2 := 67) (dk D_X5_readVariableOrCall 35 rfl) ml_5_218 mv_X5_readValues rfl rfl (by decide) rfl (Nat.le_of_ble_eq_true rfl) rfl he31 h35 hc32 (RI.k fun y33 S34 h => ?_)
        refine V_ifeq (tgt := 74) (pc2 := 70) (dk D_X5_readVariableOrCall 36 rfl) (by decide) rfl (fun q36 => ?_) (fun q36 => ?_)
        · have h := h.1 q36
          exact h
        · have h := h.2 q36
          refine V_iconst (x := 1) (pc2 := 71) (dk D_X5_readVariableOrCall 37 rfl) (by decide) rfl ?_
          refine V_goto (tgt := 75) (dk D_X5_readVariableOrCall 38 rfl) (by decide) ?_
          exact h
    · have h := h.2 q23
      refine V_aload_n (pc2 := 37) (dk D_X5_readVariableOrCall 17 rfl) rfl (V_lg 0 rfl) rfl ?_
      refine V_getR kc5 (pc2 := 40) 2 (dk D_X5_readVariableOrCall 18 rfl) fl_5_25 (by decide) (fun _ => rfl) rfl h21 ?_
      refine V_iconst (x := 2) (pc2 := 41) (dk D_X5_readVariableOrCall 19 rfl) (by decide) rfl ?_
      refine V_iconst (x := (-1)) (pc2 := 42) (dk D_X5_readVariableOrCall 20 rfl) (by decide) rfl ?_
      refine V_iload_n (pc2 := 43) (dk D_X5_readVariableOrCall 21 rfl) rfl (V_lg 1 rfl) rfl ?_
      refine V_isub (pc2 := 44) (dk D_X5_readVariableOrCall 22 rfl) rfl ?_
      obtain ⟨h42, h⟩ := h
      obtain ⟨e37, he38, hc39⟩ := h
      refine V_callV (as := [_, _]) (st := []) (M' := MX1_add) (ci := 1) (pc2 := 47) (dk D_X5_readVariableOrCall 23 rfl) ml_5_57 mv_X1_add rfl rfl (by decide) rfl (Nat.le_of_ble_eq_true rfl) rfl he38 h42 hc39 (RI.k fun y40 S41 h => ?_)
      refine V_pop (pc2 := 48) (dk D_X5_readVariableOrCall 24 rfl) rfl rfl ?_
      refine V_iconst (x := 1) (pc2 := 49) (dk D_X5_readVariableOrCall 25 rfl) (by decide) rfl ?_
      exact V_zreturn (dk D_X5_readVariableOrCall 26 rfl) rfl (Or.inr rfl) h
  · have h := h.2 q7
    refine V_iconst (x := 0) (pc2 := 8) (dk D_X5_readVariableOrCall 3 rfl) (by decide) rfl ?_
    exact V_zreturn (dk D_X5_readVariableOrCall 4 rfl) rfl (Or.inl rfl) h
theorem w_X5_readVariableOrCall_74 {X : Cx} {d : Nat} {S : Mem} {Q : Res → Mem → Prop} (r0 : Nat) (x1 : Int32) (h : V X d MX5_readVariableOrCall 75 [(0, vR r0), (1, vI x1)] [vI 0] S Q) : V X d MX5_readVariableOrCall 74 [(0, vR r0), (1, vI x1)] [] S Q := by
  refine V_iconst (x := 0) (pc2 := 75) (dk D_X5_readVariableOrCall 39 rfl) (by decide) rfl ?_
  exact h
theorem w_X5_readVariableOrCall_75 {X : Cx} {d : Nat} {S : Mem} {Q : Res → Mem → Prop} (r0 : Nat) (x1 : Int32) (t0 : Int32) (h : (t0 = 0 ∨ t0 = 1) ∧ Q (.inl (some (vI t0))) S) : V X d MX5_readVariableOrCall 75 [(0, vR r0), (1, vI x1)] [vI t0] S Q := by
  obtain ⟨h1, h⟩ := h
  exact V_zreturn (dk D_X5_readVariableOrCall 40 rfl) rfl h1 h
def L_X5_readNew : List (Nat × Instr × Nat) := [(0, .aload_n 0, 1), (1, .getfield 9, 3), (4, .invokevirtual 77, 3), (7, .aload_n 0, 1), (8, .invokevirtual 90, 3), (11, .ifCond .ne 5, 3), (14, .iconst 0, 1), (15, .ireturn, 1), (16, .aload_n 0, 1), (17, .getfield 9, 3), (20, .invokevirtual 80, 3), (23, .istore_n 1, 1), (24, .aload_n 0, 1), (25, .getfield 9, 3), (28, .invokevirtual 77, 3), (31, .aload_n 0, 1), (32, .bipush 40, 2), (34, .invokevirtual 105, 3), (37, .ifCond .eq 18, 3), (40, .aload_n 0, 1), (41, .iload_n 1, 1), (42, .bipush 23, 2), (44, .iconst 1, 1), (45, .invokevirtual 218, 3), (48, .ifCond .eq 7, 3), (51, .iconst 1, 1), (52, .goto 4, 3), (55, .iconst 0, 1), (56, .ireturn, 1)]
theorem D_X5_readNew : dOk cX5_readNew L_X5_readNew = true := by decide +kernel
theorem w_X5_readNew_0 {X : Cx} {d : Nat} {S : Mem} {Q : Res → Mem → Prop} (r0 : Nat) (h : (isK S r0 5) ∧ (isK S (gR S r0 0) 9) ∧ ∃ e2 : Nat, e2 + 1 ≤ d ∧ C X e2 MX9_next [vR (gR S r0 0)] S (RV fun  S5 => (isK S5 r0 5) ∧ ∃ e7 : Nat, e7 + 1 ≤ d ∧ C X e7 MX5_isName [vR r0] S5 (RI fun y10 S11 => ((¬ y10 = 0 → (isK S11 r0 5) ∧ (isK S11 (gR S11 r0 0) 9) ∧ ∃ e15 : Nat, e15 + 1 ≤ d ∧ C X e15 MX9_index [vR (gR S11 r0 0)] S11 (RI fun y18 S19 => (isK S19 r0 5) ∧ (isK S19 (gR S19 r0 0) 9) ∧ ∃ e22 : Nat, e22 + 1 ≤ d ∧ C X e22 MX9_next [vR (gR S19 r0 0)] S19 (RV fun  S25 => (isK S25 r0 5) ∧ ∃ e27 : Nat, e27 + 1 ≤ d ∧ C X e27 MX5_takeOpening [vR r0, vI 40] S25 (RI fun y30 S31 => ((y30 = 0 → V X d MX5_readNew 55 [(0, vR r0), (1, vI y18)] [] S31 Q) ∧ (¬ y30 = 0 → (isK S31 r0 5) ∧ ∃ e34 : Nat, e34 + 1 ≤ d ∧ C X e34 MX5_readValues [vR r0, vI y18, vI 23, vI 1] S31 (RI fun y37 S38 => ((y37 = 0 → V X d MX5_readNew 55 [(0, vR r0), (1, vI y18)] [] S38 Q) ∧ (¬ y37 = 0 → V X d MX5_readNew 56 [(0, vR r0), (1, vI y18)] [vI 1] S38 Q))))))))) ∧ (y10 = 0 → Q (.inl (some (vI 0))) S11))))) : V X d MX5_readNew 0 [(0, vR r0)] [] S Q := by
  refine V_aload_n (pc2 := 1) (dk D_X5_readNew 0 rfl) rfl (V_lg 0 rfl) rfl ?_
  obtain ⟨h1, h⟩ := h
  refine V_getR kc5 (pc2 := 4) 0 (dk D_X5_readNew 1 rfl) fl_5_9 (by decide) (fun _ => rfl) rfl h1 ?_
  obtain ⟨h6, h⟩ := h
  obtain ⟨e2, he3, hc4⟩ := h
  refine V_callV (as := []) (st := []) (M' := MX9_next) (ci := 9) (pc2 := 7) (dk D_X5_readNew 2 rfl) ml_5_77 mv_X9_next rfl rfl (by decide) rfl (Nat.le_of_ble_eq_true rfl) rfl he3 h6 hc4 (RV.k fun  S5 h => ?_)
  refine V_aload_n (pc2 := 8) (dk D_X5_readNew 3 rfl) rfl (V_lg 0 rfl) rfl ?_
  obtain ⟨h12, h⟩ := h
  obtain ⟨e7, he8, hc9⟩ := h
  refine V_callV (as := []) (st := []) (M' := MX5_isName) (ci := 5) (pc2 := 11) (dk D_X5_readNew 4 rfl) ml_5_90 mv_X5_isName rfl rfl (by decide) rfl (Nat.le_of_ble_eq_true rfl) rfl he8 h12 hc9 (RI.k fun y10 S11 h => ?_)
  refine V_ifne (tgt := 16) (pc2 := 14) (dk D_X5_readNew 5 rfl) (by decide) rfl (fun q13 => ?_) (fun q13 => ?_)
  · have h := h.1 q13
    refine V_aload_n (pc2 := 17) (dk D_X5_readNew 8 rfl) rfl (V_lg 0 rfl) rfl ?_
    obtain ⟨h14, h⟩ := h
    refine V_getR kc5 (pc2 := 20) 0 (dk D_X5_readNew 9 rfl) fl_5_9 (by decide) (fun _ => rfl) rfl h14 ?_
    obtain ⟨h20, h⟩ := h
    obtain ⟨e15, he16, hc17⟩ := h
    refine V_callV (as := []) (st := []) (M' := MX9_index) (ci := 9) (pc2 := 23) (dk D_X5_readNew 10 rfl) ml_5_80 mv_X9_index rfl rfl (by decide) rfl (Nat.le_of_ble_eq_true rfl) rfl he16 h20 hc17 (RI.k fun y18 S19 h => ?_)
    refine V_istore_n (pc2 := 24) (lv2 := [(0, _), (1, _)]) (dk D_X5_readNew 11 rfl) rfl (by decide) rfl rfl ?_
    refine V_aload_n (pc2 := 25) (dk D_X5_readNew 12 rfl) rfl (V_lg 0 rfl) rfl ?_
    obtain ⟨h21, h⟩ := h
    refine V_getR kc5 (pc2 := 28) 0 (dk D_X5_readNew 13 rfl) fl_5_9 (by decide) (fun _ => rfl) rfl h21 ?_
    obtain ⟨h26, h⟩ := h
    obtain ⟨e22, he23, hc24⟩ := h
    refine V_callV (as := []) (st := []) (M' := MX9_next) (ci := 9) (pc2 := 31) (dk D_X5_readNew 14 rfl) ml_5_77 mv_X9_next rfl rfl (by decide) rfl (Nat.le_of_ble_eq_true rfl) rfl he23 h26 hc24 (RV.k fun  S25 h => ?_)
    refine V_aload_n (pc2 := 32) (dk D_X5_readNew 15 rfl) rfl (V_lg 0 rfl) rfl ?_
    refine V_bipush (x := 40) (pc2 := 34) (dk D_X5_readNew 16 rfl) (by decide) rfl ?_
    obtain ⟨h32, h⟩ := h
    obtain ⟨e27, he28, hc29⟩ := h
    refine V_callV (as := [_]) (st := []) (M' := MX5_takeOpening) (ci := 5) (pc2 := 37) (dk D_X5_readNew 17 rfl) ml_5_105 mv_X5_takeOpening rfl rfl (by decide) rfl (Nat.le_of_ble_eq_true rfl) rfl he28 h32 hc29 (RI.k fun y30 S31 h => ?_)
    refine V_ifeq (tgt := 55) (pc2 := 40) (dk D_X5_readNew 18 rfl) (by decide) rfl (fun q33 => ?_) (fun q33 => ?_)
    · have h := h.1 q33
      exact h
    · have h := h.2 q33
      refine V_aload_n (pc2 := 41) (dk D_X5_readNew 19 rfl) rfl (V_lg 0 rfl) rfl ?_
      refine V_iload_n (pc2 := 42) (dk D_X5_readNew 20 rfl) rfl (V_lg 1 rfl) rfl ?_
      refine V_bipush (x := 23) (pc2 := 44) (dk D_X5_readNew 21 rfl) (by decide) rfl ?_
      refine V_iconst (x := 1) (pc2 := 45) (dk D_X5_readNew 22 rfl) (by decide) rfl ?_
      obtain ⟨h39, h⟩ := h
      obtain ⟨e34, he35, hc36⟩ := h
      refine V_callV (as := [_, _, _]) (st := []) (M' := MX5_readValues) (ci := 5) (pc2 := 48) (dk D_X5_readNew 23 rfl) ml_5_218 mv_X5_readValues rfl rfl (by decide) rfl (Nat.le_of_ble_eq_true rfl) rfl he35 h39 hc36 (RI.k fun y37 S38 h => ?_)
      refine V_ifeq (tgt := 55) (pc2 := 51) (dk D_X5_readNew 24 rfl) (by decide) rfl (fun q40 => ?_) (fun q40 => ?_)
      · have h := h.1 q40
        exact h
      · have h := h.2 q40
        refine V_iconst (x := 1) (pc2 := 52) (dk D_X5_readNew 25 rfl) (by decide) rfl ?_
        refine V_goto (tgt := 56) (dk D_X5_readNew 26 rfl) (by decide) ?_
        exact h
  · have h := h.2 q13
    refine V_iconst (x := 0) (pc2 := 15) (dk D_X5_readNew 6 rfl) (by decide) rfl ?_
    exact V_zreturn (dk D_X5_readNew 7 rfl) rfl (Or.inl rfl) h
theorem w_X5_readNew_55 {X : Cx} {d : Nat} {S : Mem} {Q : Res → Mem → Prop} (r0 : Nat) (x1 : Int32) (h : V X d MX5_readNew 56 [(0, vR r0), (1, vI x1)] [vI 0] S Q) : V X d MX5_readNew 55 [(0, vR r0), (1, vI x1)] [] S Q := by
  refine V_iconst (x := 0) (pc2 := 56) (dk D_X5_readNew 27 rfl) (by decide) rfl ?_
  exact h
theorem w_X5_readNew_56 {X : Cx} {d : Nat} {S : Mem} {Q : Res → Mem → Prop} (r0 : Nat) (x1 : Int32) (t0 : Int32) (h : (t0 = 0 ∨ t0 = 1) ∧ Q (.inl (some (vI t0))) S) : V X d MX5_readNew 56 [(0, vR r0), (1, vI x1)] [vI t0] S Q := by
  obtain ⟨h1, h⟩ := h
  exact V_zreturn (dk D_X5_readNew 28 rfl) rfl h1 h
def L_X5_readValues : List (Nat × Instr × Nat) := [(0, .iconst 0, 1), (1, .istore 4, 2), (3, .aload_n 0, 1), (4, .getfield 9, 3), (7, .getfield 41, 3), (10, .bipush 41, 2), (12, .if_icmp .eq 7, 3), (15, .iconst 1, 1), (16, .goto 4, 3), (19, .iconst 0, 1), (20, .istore 5, 2), (22, .iconst 0, 1), (23, .istore 6, 2), (25, .iload 6, 2), (27, .iconst 4, 1), (28, .if_icmp .ge 62, 3), (31, .iload 5, 2), (33, .ifCond .eq 57, 3), (36, .aload_n 0, 1), (37, .invokevirtual 153, 3), (40, .ifCond .ne 5, 3), (43, .iconst 0, 1), (44, .ireturn, 1), (45, .iinc 4 1, 3), (48, .iload_n 3, 1), (49, .iconst 1, 1), (50, .if_icmp .le 19, 3), (53, .aload_n 0, 1), (54, .getfield 9, 3), (57, .getfield 41, 3), (60, .bipush 44, 2), (62, .if_icmp .ne 7, 3), (65, .iconst 1, 1), (66, .goto 4, 3), (69, .iconst 0, 1), (70, .istore 5, 2), (72, .iload 5, 2), (74, .ifCond .eq 10, 3), (77, .aload_n 0, 1), (78, .getfield 9, 3), (81, .invokevirtual 77, 3), (84, .iinc 6 1, 3), (87, .goto (-62), 3), (90, .iload 5, 2), (92, .ifCond .eq 15, 3), (95, .aload_n 0, 1), (96, .aload_n 0, 1), (97, .getfield 9, 3), (100, .getfield 70, 3), (103, .invokevirtual 73, 3), (106, .ireturn, 1), (107, .aload_n 0, 1), (108, .bipush 41, 2), (110, .invokevirtual 112, 3), (113, .ifCond .ne 5, 3), (116, .iconst 0, 1), (117, .ireturn, 1), (118, .iload_n 2, 1), (119, .bipush 23, 2), (121, .if_icmp .ne 18, 3), (124, .iload 4, 2), (126, .ifCond .ne 13, 3), (129, .aload_n 0, 1), (130, .getfield 25, 3), (133, .iconst 1, 1), (134, .iconst 0, 1), (135, .invokevirtual 57, 3), (138, .pop, 1), (139, .aload_n 0, 1), (140, .getfield 25, 3), (143, .iload_n 2, 1), (144, .bipush 8, 2), (146, .iload_n 1, 1), (147, .imul, 1), (148, .iload 4, 2), (150, .iadd, 1), (151, .invokevirtual 57, 3), (154, .pop, 1), (155, .iconst 1, 1), (156, .ireturn, 1)]
theorem D_X5_readValues : dOk cX5_readValues L_X5_readValues = true := by decide +kernel
theorem w_X5_readValues_0 {X : Cx} {d : Nat} {S : Mem} {Q : Res → Mem → Prop} (r0 : Nat) (x1 : Int32) (x2 : Int32) (x3 : Int32) (h : (isK S r0 5) ∧ (isK S (gR S r0 0) 9) ∧ (((gI S (gR S r0 0) 7) = 41 → V X d MX5_readValues 20 [(0, vR r0), (1, vI x1), (2, vI x2), (3, vI x3), (4, vI 0)] [vI 0] S Q) ∧ (¬ (gI S (gR S r0 0) 7) = 41 → V X d MX5_readValues 20 [(0, vR r0), (1, vI x1), (2, vI x2), (3, vI x3), (4, vI 0)] [vI 1] S Q))) : V X d MX5_readValues 0 [(0, vR r0), (1, vI x1), (2, vI x2), (3, vI x3)] [] S Q := by
  refine V_iconst (x := 0) (pc2 := 1) (dk D_X5_readValues 0 rfl) (by decide) rfl ?_
  refine V_istore (pc2 := 3) (lv2 := [(0, _), (1, _), (2, _), (3, _), (4, _)]) (dk D_X5_readValues 1 rfl) (by decide) rfl rfl ?_
  refine V_aload_n (pc2 := 4) (dk D_X5_readValues 2 rfl) rfl (V_lg 0 rfl) rfl ?_
  obtain ⟨h1, h⟩ := h
  refine V_getR kc5 (pc2 := 7) 0 (dk D_X5_readValues 3 rfl) fl_5_9 (by decide) (fun _ => rfl) rfl h1 ?_
  obtain ⟨h2, h⟩ := h
  refine V_getI kc9 (pc2 := 10) 7 (dk D_X5_readValues 4 rfl) fl_5_41 (by decide) (fun _ => rfl) rfl h2 ?_
  refine V_bipush (x := 41) (pc2 := 12) (dk D_X5_readValues 5 rfl) (by decide) rfl ?_
  refine V_cmpeq (tgt := 19) (pc2 := 15) (dk D_X5_readValues 6 rfl) (by decide) rfl (fun q3 => ?_) (fun q3 => ?_)
  · have h := h.1 q3
    refine V_iconst (x := 0) (pc2 := 20) (dk D_X5_readValues 9 rfl) (by decide) rfl ?_
    exact h
  · have h := h.2 q3
    refine V_iconst (x := 1) (pc2 := 16) (dk D_X5_readValues 7 rfl) (by decide) rfl ?_
    refine V_goto (tgt := 20) (dk D_X5_readValues 8 rfl) (by decide) ?_
    exact h
theorem w_X5_readValues_20 {X : Cx} {d : Nat} {S : Mem} {Q : Res → Mem → Prop} (r0 : Nat) (x1 : Int32) (x2 : Int32) (x3 : Int32) (x4 : Int32) (t0 : Int32) (h : V X d MX5_readValues 25 [(0, vR r0), (1, vI x1), (2, vI x2), (3, vI x3), (4, vI x4), (5, vI t0), (6, vI 0)] [] S Q) : V X d MX5_readValues 20 [(0, vR r0), (1, vI x1), (2, vI x2), (3, vI x3), (4, vI x4)] [vI t0] S Q := by
  refine V_istore (pc2 := 22) (lv2 := [(0, _), (1, _), (2, _), (3, _), (4, _), (5, _)]) (dk D_X5_readValues 10 rfl) (by decide) rfl rfl ?_
  refine V_iconst (x := 0) (pc2 := 23) (dk D_X5_readValues 11 rfl) (by decide) rfl ?_
  refine V_istore (pc2 := 25) (lv2 := [(0, _), (1, _), (2, _), (3, _), (4, _), (5, _), (6, _)]) (dk D_X5_readValues 12 rfl) (by decide) rfl rfl ?_
  exact h
theorem w_X5_readValues_25 {X : Cx} {d : Nat} {S : Mem} {Q : Res → Mem → Prop} (r0 : Nat) (x1 : Int32) (x2 : Int32) (x3 : Int32) (x4 : Int32) (x5 : Int32) (x6 : Int32) (h : ((4 ≤ x6 → V X d MX5_readValues 90 [(0, vR r0), (1, vI x1), (2, vI x2), (3, vI x3), (4, vI x4), (5, vI x5), (6, vI x6)] [] S Q) ∧ (¬ 4 ≤ x6 → ((x5 = 0 → V X d MX5_readValues 90 [(0, vR r0), (1, vI x1), (2, vI x2), (3, vI x3), (4, vI x4), (5, vI x5), (6, vI x6)] [] S Q) ∧ (¬ x5 = 0 → (isK S r0 5) ∧ ∃ e3 : Nat, e3 + 1 ≤ d ∧ C X e3 MX5_readComparison [vR r0] S (RI fun y6 S7 => ((¬ y6 = 0 → ((x3 ≤ 1 → V X d MX5_readValues 69 [(0, vR r0), (1, vI x1), (2, vI x2), (3, vI x3), (4, vI (x4 + 1)), (5, vI x5), (6, vI x6)] [] S7 Q) ∧ (¬ x3 ≤ 1 → (isK S7 r0 5) ∧ (isK S7 (gR S7 r0 0) 9) ∧ ((¬ (gI S7 (gR S7 r0 0) 7) = 44 → V X d MX5_readValues 69 [(0, vR r0), (1, vI x1), (2, vI x2), (3, vI x3), (4, vI (x4 + 1)), (5, vI x5), (6, vI x6)] [] S7 Q) ∧ ((gI S7 (gR S7 r0 0) 7) = 44 → V X d MX5_readValues 70 [(0, vR r0), (1, vI x1), (2, vI x2), (3, vI x3), (4, vI (x4 + 1)), (5, vI x5), (6, vI x6)] [vI 1] S7 Q))))) ∧ (y6 = 0 → Q (.inl (some (vI 0))) S7)))))))) : V X d MX5_readValues 25 [(0, vR r0), (1, vI x1), (2, vI x2), (3, vI x3), (4, vI x4), (5, vI x5), (6, vI x6)] [] S Q := by
  refine V_iload (pc2 := 27) (dk D_X5_readValues 13 rfl) (V_lg 6 rfl) rfl ?_
  refine V_iconst (x := 4) (pc2 := 28) (dk D_X5_readValues 14 rfl) (by decide) rfl ?_
  refine V_cmpge (tgt := 90) (pc2 := 31) (dk D_X5_readValues 15 rfl) (by decide) rfl (fun q1 => ?_) (fun q1 => ?_)
  · have h := h.1 q1
    exact h
  · have h := h.2 q1
    refine V_iload (pc2 := 33) (dk D_X5_readValues 16 rfl) (V_lg 5 rfl) rfl ?_
    refine V_ifeq (tgt := 90) (pc2 := 36) (dk D_X5_readValues 17 rfl) (by decide) rfl (fun q2 => ?_) (fun q2 => ?_)
    · have h := h.1 q2
      exact h
    · have h := h.2 q2
      refine V_aload_n (pc2 := 37) (dk D_X5_readValues 18 rfl) rfl (V_lg 0 rfl) rfl ?_
      obtain ⟨h8, h⟩ := h
      obtain ⟨e3, he4, hc5⟩ := h
      refine V_callV (as := []) (st := []) (M' := MX5_readComparison) (ci := 5) (pc2 := 40) (dk D_X5_readValues 19 rfl) ml_5_153 mv_X5_readComparison rfl rfl (by decide) rfl (Nat.le_of_ble_eq_true rfl) rfl he4 h8 hc5 (RI.k fun y6 S7 h => ?_)
      refine V_ifne (tgt := 45) (pc2 := 43) (dk D_X5_readValues 20 rfl) (by decide) rfl (fun q9 => ?_) (fun q9 => ?_)
      · have h := h.1 q9
        refine V_iinc (y := _ + 1) (pc2 := 48) (lv2 := [(0, _), (1, _), (2, _), (3, _), (4, _), (5, _), (6, _)]) (dk D_X5_readValues 23 rfl) (V_lg 4 rfl) rfl (by decide) rfl rfl ?_
        refine V_iload_n (pc2 := 49) (dk D_X5_readValues 24 rfl) rfl (V_lg 3 rfl) rfl ?_
        refine V_iconst (x := 1) (pc2 := 50) (dk D_X5_readValues 25 rfl) (by decide) rfl ?_
        refine V_cmple (tgt := 69) (pc2 := 53) (dk D_X5_readValues 26 rfl) (by decide) rfl (fun q10 => ?_) (fun q10 => ?_)
        · have h := h.1 q10
          exact h
        · have h := h.2 q10
          refine V_aload_n (pc2 := 54) (dk D_X5_readValues 27 rfl) rfl (V_lg 0 rfl) rfl ?_
          obtain ⟨h11, h⟩ := h
          refine V_getR kc5 (pc2 := 57) 0 (dk D_X5_readValues 28 rfl) fl_5_9 (by decide) (fun _ => rfl) rfl h11 ?_
          obtain ⟨h12, h⟩ := h
          refine V_getI kc9 (pc2 := 60) 7 (dk D_X5_readValues 29 rfl) fl_5_41 (by decide) (fun _ => rfl) rfl h12 ?_
          refine V_bipush (x := 44) (pc2 := 62) (dk D_X5_readValues 30 rfl) (by decide) rfl ?_
          refine V_cmpne (tgt := 69) (pc2 := 65) (dk D_X5_readValues 31 rfl) (by decide) rfl (fun q13 => ?_) (fun q13 => ?_)
          · have h := h.1 q13
            exact h
          · have h := h.2 q13
            refine V_iconst (x := 1) (pc2 := 66) (dk D_X5_readValues 32 rfl) (by decide) rfl ?_
            refine V_goto (tgt := 70) (dk D_X5_readValues 33 rfl) (by decide) ?_
            exact h
      · have h := h.2 q9
        refine V_iconst (x := 0) (pc2 := 44) (dk D_X5_readValues 21 rfl) (by decide) rfl ?_
        exact V_zreturn (dk D_X5_readValues 22 rfl) rfl (Or.inl rfl) h
theorem w_X5_readValues_69 {X : Cx} {d : Nat} {S : Mem} {Q : Res → Mem → Prop} (r0 : Nat) (x1 : Int32) (x2 : Int32) (x3 : Int32) (x4 : Int32) (x5 : Int32) (x6 : Int32) (h : V X d MX5_readValues 70 [(0, vR r0), (1, vI x1), (2, vI x2), (3, vI x3), (4, vI x4), (5, vI x5), (6, vI x6)] [vI 0] S Q) : V X d MX5_readValues 69 [(0, vR r0), (1, vI x1), (2, vI x2), (3, vI x3), (4, vI x4), (5, vI x5), (6, vI x6)] [] S Q := by
  refine V_iconst (x := 0) (pc2 := 70) (dk D_X5_readValues 34 rfl) (by decide) rfl ?_
  exact h
theorem w_X5_readValues_70 {X : Cx} {d : Nat} {S : Mem} {Q : Res → Mem → Prop} (r0 : Nat) (x1 : Int32) (x2 : Int32) (x3 : Int32) (x4 : Int32) (x5 : Int32) (x6 : Int32) (t0 : Int32) (h : ((t0 = 0 → V X d MX5_readValues 84 [(0, vR r0), (1, vI x1), (2, vI x2), (3, vI x3), (4, vI x4), (5, vI t0), (6, vI x6)] [] S Q) ∧ (¬ t0 = 0 → (isK S r0 5) ∧ (isK S (gR S r0 0) 9) ∧ ∃ e3 : Nat, e3 + 1 ≤ d ∧ C X e3 MX9_next [vR (gR S r0 0)] S (RV fun  S6 => V X d MX5_readValues 84 [(0, vR r0), (1, vI x1), (2, vI x2), (3, vI x3), (4, vI x4), (5, vI t0), (6, vI x6)] [] S6 Q)))) : V X d MX5_readValues 70 [(0, vR r0), (1, vI x1), (2, vI x2), (3, vI x3), (4, vI x4), (5, vI x5), (6, vI x6)] [vI t0] S Q := by
  refine V_istore (pc2 := 72) (lv2 := [(0, _), (1, _), (2, _), (3, _), (4, _), (5, _), (6, _)]) (dk D_X5_readValues 35 rfl) (by decide) rfl rfl ?_
  refine V_iload (pc2 := 74) (dk D_X5_readValues 36 rfl) (V_lg 5 rfl) rfl ?_
  refine V_ifeq (tgt := 84) (pc2 := 77) (dk D_X5_readValues 37 rfl) (by decide) rfl (fun q1 => ?_) (fun q1 => ?_)
  · have h := h.1 q1
    exact h
  · have h := h.2 q1
    refine V_aload_n (pc2 := 78) (dk D_X5_readValues 38 rfl) rfl (V_lg 0 rfl) rfl ?_
    obtain ⟨h2, h⟩ := h
    refine V_getR kc5 (pc2 := 81) 0 (dk D_X5_readValues 39 rfl) fl_5_9 (by decide) (fun _ => rfl) rfl h2 ?_
    obtain ⟨h7, h⟩ := h
    obtain ⟨e3, he4, hc5⟩ := h
    refine V_callV (as := []) (st := []) (M' := MX9_next) (ci := 9) (pc2 := 84) (dk D_X5_readValues 40 rfl) ml_5_77 mv_X9_next rfl rfl (by decide) rfl (Nat.le_of_ble_eq_true rfl) rfl he4 h7 hc5 (RV.k fun  S6 h => ?_)
    exact h
theorem w_X5_readValues_84 {X : Cx} {d : Nat} {S : Mem} {Q : Res → Mem → Prop} (r0 : Nat) (x1 : Int32) (x2 : Int32) (x3 : Int32) (x4 : Int32) (x5 : Int32) (x6 : Int32) (h : V X d MX5_readValues 25 [(0, vR r0), (1, vI x1), (2, vI x2), (3, vI x3), (4, vI x4), (5, vI x5), (6, vI (x6 + 1))] [] S Q) : V X d MX5_readValues 84 [(0, vR r0), (1, vI x1), (2, vI x2), (3, vI x3), (4, vI x4), (5, vI x5), (6, vI x6)] [] S Q := by
  refine V_iinc (y := _ + 1) (pc2 := 87) (lv2 := [(0, _), (1, _), (2, _), (3, _), (4, _), (5, _), (6, _)]) (dk D_X5_readValues 41 rfl) (V_lg 6 rfl) rfl (by decide) rfl rfl ?_
  refine V_goto (tgt := 25) (dk D_X5_readValues 42 rfl) (by decide) ?_
  exact h
theorem w_X5_readValues_90 {X : Cx} {d : Nat} {S : Mem} {Q : Res → Mem → Prop} (r0 : Nat) (x1 : Int32) (x2 : Int32) (x3 : Int32) (x4 : Int32) (x5 : Int32) (x6 : Int32) (h : ((x5 = 0 → (isK S r0 5) ∧ ∃ e2 : Nat, e2 + 1 ≤ d ∧ C X e2 MX5_takeClosing [vR r0, vI 41] S (RI fun y5 S6 => ((¬ y5 = 0 → ((¬ x2 = 23 → V X d MX5_readValues 139 [(0, vR r0), (1, vI x1), (2, vI x2), (3, vI x3), (4, vI x4), (5, vI x5), (6, vI x6)] [] S6 Q) ∧ (x2 = 23 → ((¬ x4 = 0 → V X d MX5_readValues 139 [(0, vR r0), (1, vI x1), (2, vI x2), (3, vI x3), (4, vI x4), (5, vI x5), (6, vI x6)] [] S6 Q) ∧ (x4 = 0 → (isK S6 r0 5) ∧ (isK S6 (gR S6 r0 2) 1) ∧ ∃ e12 : Nat, e12 + 1 ≤ d ∧ C X e12 MX1_add [vR (gR S6 r0 2), vI 1, vI 0] S6 (RI fun y15 S16 => V X d MX5_readValues 139 [(0, vR r0), (1, vI x1), (2, vI x2), (3, vI x3), (4, vI x4), (5, vI x5), (6, vI x6)] [] S16 Q)))))) ∧ (y5 = 0 → Q (.inl (some (vI 0))) S6)))) ∧ (¬ x5 = 0 → (isK S r0 5) ∧ (isK S (gR S r0 0) 9) ∧ ∃ e20 : Nat, e20 + 1 ≤ d ∧ C X e20 MX5_refuse [vR r0, vI (gI S (gR S r0 0) 8)] S (RI fun y23 S24 => (y23 = 0 ∨ y23 = 1) ∧ Q (.inl (some (vI y23))) S24)))) : V X d MX5_readValues 90 [(0, vR r0), (1, vI x1), (2, vI x2), (3, vI x3), (4, vI x4), (5, vI x5), (6, vI x6)] [] S Q := by
  refine V_iload (pc2 := 92) (dk D_X5_readValues 43 rfl) (V_lg 5 rfl) rfl ?_
  refine V_ifeq (tgt := 107) (pc2 := 95) (dk D_X5_readValues 44 rfl) (by decide) rfl (fun q1 => ?_) (fun q1 => ?_)
  · have h := h.1 q1
    refine V_aload_n (pc2 := 108) (dk D_X5_readValues 51 rfl) rfl (V_lg 0 rfl) rfl ?_
    refine V_bipush (x := 41) (pc2 := 110) (dk D_X5_readValues 52 rfl) (by decide) rfl ?_
    obtain ⟨h7, h⟩ := h
    obtain ⟨e2, he3, hc4⟩ := h
    refine V_callV (as := [_]) (st := []) (M' := MX5_takeClosing) (ci := 5) (pc2 := 113) (dk D_X5_readValues 53 rfl) ml_5_112 mv_X5_takeClosing rfl rfl (by decide) rfl (Nat.le_of_ble_eq_true rfl) rfl he3 h7 hc4 (RI.k fun y5 S6 h => ?_)
    refine V_ifne (tgt := 118) (pc2 := 116) (dk D_X5_readValues 54 rfl) (by decide) rfl (fun q8 => ?_) (fun q8 => ?_)
    · have h := h.1 q8
      refine V_iload_n (pc2 := 119) (dk D_X5_readValues 57 rfl) rfl (V_lg 2 rfl) rfl ?_
      refine V_bipush (x := 23) (pc2 := 121) (dk D_X5_readValues 58 rfl) (by decide) rfl ?_
      refine V_cmpne (tgt := 139) (pc2 := 124) (dk D_X5_readValues 59 rfl) (by decide) rfl (fun q9 => ?_) (fun q9 => ?_)
      · have h := h.1 q9
        exact h
      · have h := h.2 q9
        refine V_iload (pc2 := 126) (dk D_X5_readValues 60 rfl) (V_lg 4 rfl) rfl ?_
        refine V_ifne (tgt := 139) (pc2 := 129) (dk D_X5_readValues 61 rfl) (by decide) rfl (fun q10 => ?_) (fun q10 => ?_)
        · have h := h.1 q10
          exact h
        · have h := h.2 q10
          refine V_aload_n (pc2 := 130) (dk D_X5_readValues 62 rfl) rfl (V_lg 0 rfl) rfl ?_
          obtain ⟨h11, h⟩ := h
          refine V_getR kc5 (pc2 := 133) 2 (dk D_X5_readValues 63 rfl) fl_5_25 (by decide) (fun _ => rfl) rfl h11 ?_
          refine V_iconst (x := 1) (pc2 := 134) (dk D_X5_readValues 64 rfl) (by decide) rfl ?_
          refine V_iconst (x := 0) (pc2 := 135) (dk D_X5_readValues 65 rfl) (by decide) rfl ?_
          obtain ⟨h17, h⟩ := h
          obtain ⟨e12, he13, hc14⟩ := h
          refine V_callV (as := [_, _]) (st := []) (M' := MX1_add) (ci := 1) (pc2 := 138) (dk D_X5_readValues 66 rfl) ml_5_57 mv_X1_add rfl rfl (by decide) rfl (Nat.le_of_ble_eq_true rfl) rfl he13 h17 hc14 (RI.k fun y15 S16 h => ?_)
          refine V_pop (pc2 := 139) (dk D_X5_readValues 67 rfl) rfl rfl ?_
          exact h
    · have h := h.2 q8
      refine V_iconst (x := 0) (pc2 := 117) (dk D_X5_readValues 55 rfl) (by decide) rfl ?_
      exact V_zreturn (dk D_X5_readValues 56 rfl) rfl (Or.inl rfl) h
  · have h := h.2 q1
    refine V_aload_n (pc2 := 96) (dk D_X5_readValues 45 rfl) rfl (V_lg 0 rfl) rfl ?_
    refine V_aload_n (pc2 := 97) (dk D_X5_readValues 46 rfl) rfl (V_lg 0 rfl) rfl ?_
    obtain ⟨h18, h⟩ := h
    refine V_getR kc5 (pc2 := 100) 0 (dk D_X5_readValues 47 rfl) fl_5_9 (by decide) (fun _ => rfl) rfl h18 ?_
    obtain ⟨h19, h⟩ := h
    refine V_getI kc9 (pc2 := 103) 8 (dk D_X5_readValues 48 rfl) fl_5_70 (by decide) (fun _ => rfl) rfl h19 ?_
    obtain ⟨e20, he21, hc22⟩ := h
    refine V_callV (as := [_]) (st := []) (M' := MX5_refuse) (ci := 5) (pc2 := 106) (dk D_X5_readValues 49 rfl) ml_5_73 mv_X5_refuse rfl rfl (by decide) rfl (Nat.le_of_ble_eq_true rfl) rfl he21 h18 hc22 (RI.k fun y23 S24 h => ?_)
    obtain ⟨h25, h⟩ := h
    exact V_zreturn (dk D_X5_readValues 50 rfl) rfl h25 h
theorem w_X5_readValues_139 {X : Cx} {d : Nat} {S : Mem} {Q : Res → Mem → Prop} (r0 : Nat) (x1 : Int32) (x2 : Int32) (x3 : Int32) (x4 : Int32) (x5 : Int32) (x6 : Int32) (h : (isK S r0 5) ∧ (isK S (gR S r0 2) 1) ∧ ∃ e2 : Nat, e2 + 1 ≤ d ∧ C X e2 MX1_add [vR (gR S r0 2), vI x2, vI ((8 * x1) + x4)] S (RI fun y5 S6 => Q (.inl (some (vI 1))) S6)) : V X d MX5_readValues 139 [(0, vR r0), (1, vI x1), (2, vI x2), (3, vI x3), (4, vI x4), (5, vI x5), (6, vI x6)] [] S Q := by
  refine V_aload_n (pc2 := 140) (dk D_X5_readValues 68 rfl) rfl (V_lg 0 rfl) rfl ?_
  obtain ⟨h1, h⟩ := h
  refine V_getR kc5 (pc2 := 143) 2 (dk D_X5_readValues 69 rfl) fl_5_25 (by decide) (fun _ => rfl) rfl h1 ?_
  refine V_iload_n (pc2 := 144) (dk D_X5_readValues 70 rfl) rfl (V_lg 2 rfl) rfl ?_
  refine V_bipush (x := 8) (pc2 := 146) (dk D_X5_readValues 71 rfl) (by decide) rfl ?_
  refine V_iload_n (pc2 := 147) (dk D_X5_readValues 72 rfl) rfl (V_lg 1 rfl) rfl ?_
  refine V_imul (pc2 := 148) (dk D_X5_readValues 73 rfl) rfl ?_
  refine V_iload (pc2 := 150) (dk D_X5_readValues 74 rfl) (V_lg 4 rfl) rfl ?_
  refine V_iadd (pc2 := 151) (dk D_X5_readValues 75 rfl) rfl ?_
  obtain ⟨h7, h⟩ := h
  obtain ⟨e2, he3, hc4⟩ := h
  refine V_callV (as := [_, _]) (st := []) (M' := MX1_add) (ci := 1) (pc2 := 154) (dk D_X5_readValues 76 rfl) ml_5_57 mv_X1_add rfl rfl (by decide) rfl (Nat.le_of_ble_eq_true rfl) rfl he3 h7 hc4 (RI.k fun y5 S6 h => ?_)
  refine V_pop (pc2 := 155) (dk D_X5_readValues 77 rfl) rfl rfl ?_
  refine V_iconst (x := 1) (pc2 := 156) (dk D_X5_readValues 78 rfl) (by decide) rfl ?_
  exact V_zreturn (dk D_X5_readValues 79 rfl) rfl (Or.inr rfl) h
