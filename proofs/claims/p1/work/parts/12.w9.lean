def L_X9_readTape : List (Nat × Instr × Nat) := [(0, .aload_n 0, 1), (1, .iconst 0, 1), (2, .putfield 41, 3), (5, .iconst 0, 1), (6, .istore_n 1, 1), (7, .iconst 0, 1), (8, .istore_n 2, 1), (9, .iload_n 2, 1), (10, .sipush 3000, 3), (13, .if_icmp .ge 86, 3), (16, .iload_n 1, 1), (17, .aload_n 0, 1), (18, .getfield 23, 3), (21, .invokevirtual 47, 3), (24, .if_icmp .ge 75, 3), (27, .aload_n 0, 1), (28, .getfield 23, 3), (31, .iload_n 1, 1), (32, .invokevirtual 49, 3), (35, .istore_n 3, 1), (36, .iload_n 3, 1), (37, .bipush 32, 2), (39, .if_icmp .eq 9, 3), (42, .iload_n 3, 1), (43, .bipush 10, 2), (45, .if_icmp .ne 9, 3), (48, .iinc 1 1, 3), (51, .goto 42, 3), (54, .iload_n 3, 1), (55, .invokestatic 53, 3), (58, .ifCond .eq 12, 3), (61, .aload_n 0, 1), (62, .iload_n 1, 1), (63, .invokevirtual 57, 3), (66, .istore_n 1, 1), (67, .goto 26, 3), (70, .iload_n 3, 1), (71, .invokestatic 60, 3), (74, .ifCond .eq 12, 3), (77, .aload_n 0, 1), (78, .iload_n 1, 1), (79, .invokevirtual 63, 3), (82, .istore_n 1, 1), (83, .goto 10, 3), (86, .aload_n 0, 1), (87, .iload_n 1, 1), (88, .iload_n 3, 1), (89, .invokevirtual 66, 3), (92, .istore_n 1, 1), (93, .iinc 2 1, 3), (96, .goto (-87), 3), (99, .aload_n 0, 1), (100, .iconst 0, 1), (101, .aload_n 0, 1), (102, .getfield 23, 3), (105, .invokevirtual 47, 3), (108, .lconst 0, 1), (109, .invokevirtual 70, 3), (112, .aload_n 0, 1), (113, .iconst (-1), 1), (114, .putfield 74, 3), (117, .aload_n 0, 1), (118, .invokevirtual 76, 3), (121, .return_, 1)]
theorem D_X9_readTape : dOk cX9_readTape L_X9_readTape = true := by decide +kernel
theorem w_X9_readTape_0 {X : Cx} {d : Nat} {S : Mem} {Q : Res → Mem → Prop} (r0 : Nat) (h : (isK S r0 9) ∧ ∀ S2 : Mem, S2 = uI S r0 5 0 → V X d MX9_readTape 9 [(0, vR r0), (1, vI 0), (2, vI 0)] [] S2 Q) : V X d MX9_readTape 0 [(0, vR r0)] [] S Q := by
  refine V_aload_n (pc2 := 1) (dk D_X9_readTape 0 rfl) rfl (V_lg 0 rfl) rfl ?_
  refine V_iconst (x := 0) (pc2 := 2) (dk D_X9_readTape 1 rfl) (by decide) rfl ?_
  obtain ⟨h1, h⟩ := h
  refine V_putI kc9 (pc2 := 5) 5 (dk D_X9_readTape 2 rfl) fl_9_41 (by decide) (Or.inl rfl) rfl rfl h1 ?_
  have h := h _ rfl
  refine V_iconst (x := 0) (pc2 := 6) (dk D_X9_readTape 3 rfl) (by decide) rfl ?_
  refine V_istore_n (pc2 := 7) (lv2 := [(0, _), (1, _)]) (dk D_X9_readTape 4 rfl) rfl (by decide) rfl rfl ?_
  refine V_iconst (x := 0) (pc2 := 8) (dk D_X9_readTape 5 rfl) (by decide) rfl ?_
  refine V_istore_n (pc2 := 9) (lv2 := [(0, _), (1, _), (2, _)]) (dk D_X9_readTape 6 rfl) rfl (by decide) rfl rfl ?_
  exact h
theorem w_X9_readTape_9 {X : Cx} {d : Nat} {S : Mem} {Q : Res → Mem → Prop} (r0 : Nat) (x1 : Int32) (x2 : Int32) (h : ((3000 ≤ x2 → V X d MX9_readTape 99 [(0, vR r0), (1, vI x1), (2, vI x2)] [] S Q) ∧ (¬ 3000 ≤ x2 → (isK S r0 9) ∧ (isK S (gR S r0 0) 8) ∧ ∃ e3 : Nat, e3 + 1 ≤ d ∧ C X e3 MX8_size [vR (gR S r0 0)] S (RI fun y6 S7 => ((y6 ≤ x1 → V X d MX9_readTape 99 [(0, vR r0), (1, vI x1), (2, vI x2)] [] S7 Q) ∧ (¬ y6 ≤ x1 → (isK S7 r0 9) ∧ (isK S7 (gR S7 r0 0) 8) ∧ ∃ e11 : Nat, e11 + 1 ≤ d ∧ C X e11 MX8_at [vR (gR S7 r0 0), vI x1] S7 (RI fun y14 S15 => ((y14 = 32 → V X d MX9_readTape 48 [(0, vR r0), (1, vI x1), (2, vI x2), (3, vI y14)] [] S15 Q) ∧ (¬ y14 = 32 → ((¬ y14 = 10 → ∃ e19 : Nat, e19 + 1 ≤ d ∧ C X e19 MX9_isLetter [vI y14] S15 (RI fun y22 S23 => ((y22 = 0 → ∃ e25 : Nat, e25 + 1 ≤ d ∧ C X e25 MX9_isFigure [vI y14] S23 (RI fun y28 S29 => ((y28 = 0 → (isK S29 r0 9) ∧ ∃ e31 : Nat, e31 + 1 ≤ d ∧ C X e31 MX9_readSign [vR r0, vI x1, vI y14] S29 (RI fun y34 S35 => V X d MX9_readTape 93 [(0, vR r0), (1, vI y34), (2, vI x2), (3, vI y14)] [] S35 Q)) ∧ (¬ y28 = 0 → (isK S29 r0 9) ∧ ∃ e37 : Nat, e37 + 1 ≤ d ∧ C X e37 MX9_readNumber [vR r0, vI x1] S29 (RI fun y40 S41 => V X d MX9_readTape 93 [(0, vR r0), (1, vI y40), (2, vI x2), (3, vI y14)] [] S41 Q))))) ∧ (¬ y22 = 0 → (isK S23 r0 9) ∧ ∃ e43 : Nat, e43 + 1 ≤ d ∧ C X e43 MX9_readName [vR r0, vI x1] S23 (RI fun y46 S47 => V X d MX9_readTape 93 [(0, vR r0), (1, vI y46), (2, vI x2), (3, vI y14)] [] S47 Q))))) ∧ (y14 = 10 → V X d MX9_readTape 48 [(0, vR r0), (1, vI x1), (2, vI x2), (3, vI y14)] [] S15 Q))))))))))) : V X d MX9_readTape 9 [(0, vR r0), (1, vI x1), (2, vI x2)] [] S Q := by
  refine V_iload_n (pc2 := 10) (dk D_X9_readTape 7 rfl) rfl (V_lg 2 rfl) rfl ?_
  refine V_sipush (x := 3000) (pc2 := 13) (dk D_X9_readTape 8 rfl) (by decide) rfl ?_
  refine V_cmpge (tgt := 99) (pc2 := 16) (dk D_X9_readTape 9 rfl) (by decide) rfl (fun q1 => ?_) (fun q1 => ?_)
  · have h := h.1 q1
    exact h
  · have h := h.2 q1
    refine V_iload_n (pc2 := 17) (dk D_X9_readTape 10 rfl) rfl (V_lg 1 rfl) rfl ?_
    refine V_aload_n (pc2 := 18) (dk D_X9_readTape 11 rfl) rfl (V_lg 0 rfl) rfl ?_
    obtain ⟨h2, h⟩ := h
    refine V_getR kc9 (pc2 := 21) 0 (dk D_X9_readTape 12 rfl) fl_9_23 (by decide) (fun _ => rfl) rfl h2 ?_
    obtain ⟨h8, h⟩ := h
    obtain ⟨e3, he4, hc5⟩ := h
    refine V_callV (as := []) (st := [_]) (M' := MX8_size) (ci := 8) (pc2 := 24) (dk D_X9_readTape 13 rfl) ml_9_47 mv_X8_size rfl rfl (by decide) rfl (Nat.le_of_ble_eq_true rfl) rfl he4 h8 hc5 (RI.k fun y6 S7 h => ?_)
    refine V_cmpge (tgt := 99) (pc2 := 27) (dk D_X9_readTape 14 rfl) (by decide) rfl (fun q9 => ?_) (fun q9 => ?_)
    · have h := h.1 q9
      exact h
    · have h := h.2 q9
      refine V_aload_n (pc2 := 28) (dk D_X9_readTape 15 rfl) rfl (V_lg 0 rfl) rfl ?_
      obtain ⟨h10, h⟩ := h
      refine V_getR kc9 (pc2 := 31) 0 (dk D_X9_readTape 16 rfl) fl_9_23 (by decide) (fun _ => rfl) rfl h10 ?_
      refine V_iload_n (pc2 := 32) (dk D_X9_readTape 17 rfl) rfl (V_lg 1 rfl) rfl ?_
      obtain ⟨h16, h⟩ := h
      obtain ⟨e11, he12, hc13⟩ := h
      refine V_callV (as := [_]) (st := []) (M' := MX8_at) (ci := 8) (pc2 := 35) (dk D_X9_readTape 18 rfl) ml_9_49 mv_X8_at rfl rfl (by decide) rfl (Nat.le_of_ble_eq_true rfl) rfl he12 h16 hc13 (RI.k fun y14 S15 h => ?_)
      refine V_istore_n (pc2 := 36) (lv2 := [(0, _), (1, _), (2, _), (3, _)]) (dk D_X9_readTape 19 rfl) rfl (by decide) rfl rfl ?_
      refine V_iload_n (pc2 := 37) (dk D_X9_readTape 20 rfl) rfl (V_lg 3 rfl) rfl ?_
      refine V_bipush (x := 32) (pc2 := 39) (dk D_X9_readTape 21 rfl) (by decide) rfl ?_
      refine V_cmpeq (tgt := 48) (pc2 := 42) (dk D_X9_readTape 22 rfl) (by decide) rfl (fun q17 => ?_) (fun q17 => ?_)
      · have h := h.1 q17
        exact h
      · have h := h.2 q17
        refine V_iload_n (pc2 := 43) (dk D_X9_readTape 23 rfl) rfl (V_lg 3 rfl) rfl ?_
        refine V_bipush (x := 10) (pc2 := 45) (dk D_X9_readTape 24 rfl) (by decide) rfl ?_
        refine V_cmpne (tgt := 54) (pc2 := 48) (dk D_X9_readTape 25 rfl) (by decide) rfl (fun q18 => ?_) (fun q18 => ?_)
        · have h := h.1 q18
          refine V_iload_n (pc2 := 55) (dk D_X9_readTape 28 rfl) rfl (V_lg 3 rfl) rfl ?_
          obtain ⟨e19, he20, hc21⟩ := h
          refine V_callS (as := [_]) (st := []) (M' := MX9_isLetter) (pc2 := 58) (dk D_X9_readTape 29 rfl) ml_9_53 mv_X9_isLetter rfl rfl (Nat.le_of_ble_eq_true rfl) rfl he20 hc21 (RI.k fun y22 S23 h => ?_)
          refine V_ifeq (tgt := 70) (pc2 := 61) (dk D_X9_readTape 30 rfl) (by decide) rfl (fun q24 => ?_) (fun q24 => ?_)
          · have h := h.1 q24
            refine V_iload_n (pc2 := 71) (dk D_X9_readTape 36 rfl) rfl (V_lg 3 rfl) rfl ?_
            obtain ⟨e25, he26, hc27⟩ := h
            refine V_callS (as := [_]) (st := []) (M' := MX9_isFigure) (pc2 := 74) (dk D_X9_readTape 37 rfl) ml_9_60 mv_X9_isFigure rfl rfl (Nat.le_of_ble_eq_true rfl) rfl he26 hc27 (RI.k fun y28 S29 h => ?_)
            refine V_ifeq (tgt := 86) (pc2 := 77) (dk D_X9_readTape 38 rfl) (by decide) rfl (fun q30 => ?_) (fun q30 => ?_)
            · have h := h.1 q30
              refine V_aload_n (pc2 := 87) (dk D_X9_readTape 44 rfl) rfl (V_lg 0 rfl) rfl ?_
              refine V_iload_n (pc2 := 88) (dk D_X9_readTape 45 rfl) rfl (V_lg 1 rfl) rfl ?_
              refine V_iload_n (pc2 := 89) (dk D_X9_readTape 46 rfl) rfl (V_lg 3 rfl) rfl ?_
              obtain ⟨h36, h⟩ := h
              obtain ⟨e31, he32, hc33⟩ := h
              refine V_callV (as := [_, _]) (st := []) (M' := MX9_readSign) (ci := 9) (pc2 := 92) (dk D_X9_readTape 47 rfl) ml_9_66 mv_X9_readSign rfl rfl (by decide) rfl (Nat.le_of_ble_eq_true rfl) rfl he32 h36 hc33 (RI.k fun y34 S35 h => ?_)
              refine V_istore_n (pc2 := 93) (lv2 := [(0, _), (1, _), (2, _), (3, _)]) (dk D_X9_readTape 48 rfl) rfl (by decide) rfl rfl ?_
              exact h
            · have h := h.2 q30
              refine V_aload_n (pc2 := 78) (dk D_X9_readTape 39 rfl) rfl (V_lg 0 rfl) rfl ?_
              refine V_iload_n (pc2 := 79) (dk D_X9_readTape 40 rfl) rfl (V_lg 1 rfl) rfl ?_
              obtain ⟨h42, h⟩ := h
              obtain ⟨e37, he38, hc39⟩ := h
              refine V_callV (as := [_]) (st := []) (M' := MX9_readNumber) (ci := 9) (pc2 := 82) (dk D_X9_readTape 41 rfl) ml_9_63 mv_X9_readNumber rfl rfl (by decide) rfl (Nat.le_of_ble_eq_true rfl) rfl he38 h42 hc39 (RI.k fun y40 S41 h => ?_)
              refine V_istore_n (pc2 := 83) (lv2 := [(0, _), (1, _), (2, _), (3, _)]) (dk D_X9_readTape 42 rfl) rfl (by decide) rfl rfl ?_
              refine V_goto (tgt := 93) (dk D_X9_readTape 43 rfl) (by decide) ?_
              exact h
          · have h := h.2 q24
            refine V_aload_n (pc2 := 62) (dk D_X9_readTape 31 rfl) rfl (V_lg 0 rfl) rfl ?_
            refine V_iload_n (pc2 := 63) (dk D_X9_readTape 32 rfl) rfl (V_lg 1 rfl) rfl ?_
            obtain ⟨h48, h⟩ := h
            obtain ⟨e43, he44, hc45⟩ := h
            refine V_callV (as := [_]) (st := []) (M' := MX9_readName) (ci := 9) (pc2 := 66) (dk D_X9_readTape 33 rfl) ml_9_57 mv_X9_readName rfl rfl (by decide) rfl (Nat.le_of_ble_eq_true rfl) rfl he44 h48 hc45 (RI.k fun y46 S47 h => ?_)
            refine V_istore_n (pc2 := 67) (lv2 := [(0, _), (1, _), (2, _), (3, _)]) (dk D_X9_readTape 34 rfl) rfl (by decide) rfl rfl ?_
            refine V_goto (tgt := 93) (dk D_X9_readTape 35 rfl) (by decide) ?_
            exact h
        · have h := h.2 q18
          exact h
theorem w_X9_readTape_99 {X : Cx} {d : Nat} {S : Mem} {Q : Res → Mem → Prop} (r0 : Nat) (x1 : Int32) (x2 : Int32) (h : (isK S r0 9) ∧ (isK S (gR S r0 0) 8) ∧ ∃ e2 : Nat, e2 + 1 ≤ d ∧ C X e2 MX8_size [vR (gR S r0 0)] S (RI fun y5 S6 => (isK S6 r0 9) ∧ ∃ e8 : Nat, e8 + 1 ≤ d ∧ C X e8 MX9_add [vR r0, vI 0, vI y5, vL 0] S6 (RV fun  S11 => (isK S11 r0 9) ∧ ∀ S14 : Mem, S14 = uI S11 r0 6 (-1) → ∃ e15 : Nat, e15 + 1 ≤ d ∧ C X e15 MX9_next [vR r0] S14 (RV fun  S18 => Q (.inl none) S18)))) : V X d MX9_readTape 99 [(0, vR r0), (1, vI x1), (2, vI x2)] [] S Q := by
  refine V_aload_n (pc2 := 100) (dk D_X9_readTape 51 rfl) rfl (V_lg 0 rfl) rfl ?_
  refine V_iconst (x := 0) (pc2 := 101) (dk D_X9_readTape 52 rfl) (by decide) rfl ?_
  refine V_aload_n (pc2 := 102) (dk D_X9_readTape 53 rfl) rfl (V_lg 0 rfl) rfl ?_
  obtain ⟨h1, h⟩ := h
  refine V_getR kc9 (pc2 := 105) 0 (dk D_X9_readTape 54 rfl) fl_9_23 (by decide) (fun _ => rfl) rfl h1 ?_
  obtain ⟨h7, h⟩ := h
  obtain ⟨e2, he3, hc4⟩ := h
  refine V_callV (as := []) (st := [_, _]) (M' := MX8_size) (ci := 8) (pc2 := 108) (dk D_X9_readTape 55 rfl) ml_9_47 mv_X8_size rfl rfl (by decide) rfl (Nat.le_of_ble_eq_true rfl) rfl he3 h7 hc4 (RI.k fun y5 S6 h => ?_)
  refine V_lconst (x := 0) (pc2 := 109) (dk D_X9_readTape 56 rfl) (by decide) rfl ?_
  obtain ⟨h12, h⟩ := h
  obtain ⟨e8, he9, hc10⟩ := h
  refine V_callV (as := [_, _, _]) (st := []) (M' := MX9_add) (ci := 9) (pc2 := 112) (dk D_X9_readTape 57 rfl) ml_9_70 mv_X9_add rfl rfl (by decide) rfl (Nat.le_of_ble_eq_true rfl) rfl he9 h12 hc10 (RV.k fun  S11 h => ?_)
  refine V_aload_n (pc2 := 113) (dk D_X9_readTape 58 rfl) rfl (V_lg 0 rfl) rfl ?_
  refine V_iconst (x := (-1)) (pc2 := 114) (dk D_X9_readTape 59 rfl) (by decide) rfl ?_
  obtain ⟨h13, h⟩ := h
  refine V_putI kc9 (pc2 := 117) 6 (dk D_X9_readTape 60 rfl) fl_9_74 (by decide) (Or.inl rfl) rfl rfl h13 ?_
  have h := h _ rfl
  refine V_aload_n (pc2 := 118) (dk D_X9_readTape 61 rfl) rfl (V_lg 0 rfl) rfl ?_
  obtain ⟨e15, he16, hc17⟩ := h
  refine V_callV (as := []) (st := []) (M' := MX9_next) (ci := 9) (pc2 := 121) (dk D_X9_readTape 62 rfl) ml_9_76 mv_X9_next rfl rfl (by decide) rfl (Nat.le_of_ble_eq_true rfl) rfl he16 h13 hc17 (RV.k fun  S18 h => ?_)
  exact V_return (dk D_X9_readTape 63 rfl) rfl h
def L_X9_next : List (Nat × Instr × Nat) := [(0, .aload_n 0, 1), (1, .aload_n 0, 1), (2, .getfield 74, 3), (5, .aload_n 0, 1), (6, .getfield 41, 3), (9, .iconst 1, 1), (10, .isub, 1), (11, .if_icmp .ge 12, 3), (14, .aload_n 0, 1), (15, .getfield 74, 3), (18, .iconst 1, 1), (19, .iadd, 1), (20, .goto 7, 3), (23, .aload_n 0, 1), (24, .getfield 74, 3), (27, .putfield 74, 3), (30, .aload_n 0, 1), (31, .getfield 74, 3), (34, .ifCond .lt 41, 3), (37, .aload_n 0, 1), (38, .getfield 74, 3), (41, .aload_n 0, 1), (42, .getfield 13, 3), (45, .arraylength, 1), (46, .if_icmp .ge 29, 3), (49, .aload_n 0, 1), (50, .aload_n 0, 1), (51, .getfield 13, 3), (54, .aload_n 0, 1), (55, .getfield 74, 3), (58, .iaload, 1), (59, .putfield 79, 3), (62, .aload_n 0, 1), (63, .aload_n 0, 1), (64, .getfield 17, 3), (67, .aload_n 0, 1), (68, .getfield 74, 3), (71, .iaload, 1), (72, .putfield 82, 3), (75, .return_, 1)]
theorem D_X9_next : dOk cX9_next L_X9_next = true := by decide +kernel
theorem w_X9_next_0 {X : Cx} {d : Nat} {S : Mem} {Q : Res → Mem → Prop} (r0 : Nat) (h : (isK S r0 9) ∧ ((((gI S r0 5) - 1) ≤ (gI S r0 6) → V X d MX9_next 27 [(0, vR r0)] [vI (gI S r0 6), vR r0] S Q) ∧ (¬ ((gI S r0 5) - 1) ≤ (gI S r0 6) → V X d MX9_next 27 [(0, vR r0)] [vI ((gI S r0 6) + 1), vR r0] S Q))) : V X d MX9_next 0 [(0, vR r0)] [] S Q := by
  refine V_aload_n (pc2 := 1) (dk D_X9_next 0 rfl) rfl (V_lg 0 rfl) rfl ?_
  refine V_aload_n (pc2 := 2) (dk D_X9_next 1 rfl) rfl (V_lg 0 rfl) rfl ?_
  obtain ⟨h1, h⟩ := h
  refine V_getI kc9 (pc2 := 5) 6 (dk D_X9_next 2 rfl) fl_9_74 (by decide) (fun _ => rfl) rfl h1 ?_
  refine V_aload_n (pc2 := 6) (dk D_X9_next 3 rfl) rfl (V_lg 0 rfl) rfl ?_
  refine V_getI kc9 (pc2 := 9) 5 (dk D_X9_next 4 rfl) fl_9_41 (by decide) (fun _ => rfl) rfl h1 ?_
  refine V_iconst (x := 1) (pc2 := 10) (dk D_X9_next 5 rfl) (by decide) rfl ?_
  refine V_isub (pc2 := 11) (dk D_X9_next 6 rfl) rfl ?_
  refine V_cmpge (tgt := 23) (pc2 := 14) (dk D_X9_next 7 rfl) (by decide) rfl (fun q2 => ?_) (fun q2 => ?_)
  · have h := h.1 q2
    refine V_aload_n (pc2 := 24) (dk D_X9_next 13 rfl) rfl (V_lg 0 rfl) rfl ?_
    refine V_getI kc9 (pc2 := 27) 6 (dk D_X9_next 14 rfl) fl_9_74 (by decide) (fun _ => rfl) rfl h1 ?_
    exact h
  · have h := h.2 q2
    refine V_aload_n (pc2 := 15) (dk D_X9_next 8 rfl) rfl (V_lg 0 rfl) rfl ?_
    refine V_getI kc9 (pc2 := 18) 6 (dk D_X9_next 9 rfl) fl_9_74 (by decide) (fun _ => rfl) rfl h1 ?_
    refine V_iconst (x := 1) (pc2 := 19) (dk D_X9_next 10 rfl) (by decide) rfl ?_
    refine V_iadd (pc2 := 20) (dk D_X9_next 11 rfl) rfl ?_
    refine V_goto (tgt := 27) (dk D_X9_next 12 rfl) (by decide) ?_
    exact h
theorem w_X9_next_27 {X : Cx} {d : Nat} {S : Mem} {Q : Res → Mem → Prop} (r0 : Nat) (t0 : Nat) (t1 : Int32) (h : (isK S t0 9) ∧ ∀ S2 : Mem, S2 = uI S t0 6 t1 → (isK S r0 9) ∧ (((gI S2 r0 6) < 0 → V X d MX9_next 75 [(0, vR r0)] [] S2 Q) ∧ (¬ (gI S2 r0 6) < 0 → (isK S (gR S r0 2) 21) ∧ (((nI (gN S (gR S r0 2))) ≤ (gI S2 r0 6) → V X d MX9_next 75 [(0, vR r0)] [] S2 Q) ∧ (¬ (nI (gN S (gR S r0 2))) ≤ (gI S2 r0 6) → (vp_in (gI S2 r0 6) (gN S (gR S r0 2))) ∧ ∀ S8 : Mem, S8 = uI S2 r0 7 (gI S2 (gR S r0 2) ((gI S2 r0 6) : Int32).toNatClampNeg) → (isK S (gR S r0 3) 21) ∧ (vp_in (gI S8 r0 6) (gN S (gR S r0 3))) ∧ ∀ S11 : Mem, S11 = uI S8 r0 8 (gI S8 (gR S r0 3) ((gI S8 r0 6) : Int32).toNatClampNeg) → V X d MX9_next 75 [(0, vR r0)] [] S11 Q))))) : V X d MX9_next 27 [(0, vR r0)] [vI t1, vR t0] S Q := by
  obtain ⟨h1, h⟩ := h
  refine V_putI kc9 (pc2 := 30) 6 (dk D_X9_next 15 rfl) fl_9_74 (by decide) (Or.inl rfl) rfl rfl h1 ?_
  have h := h _ rfl
  refine V_aload_n (pc2 := 31) (dk D_X9_next 16 rfl) rfl (V_lg 0 rfl) rfl ?_
  obtain ⟨h3, h⟩ := h
  refine V_getI kc9 (pc2 := 34) 6 (dk D_X9_next 17 rfl) fl_9_74 (by decide) (fun _ => rfl) rfl h3 ?_
  refine V_iflt (tgt := 75) (pc2 := 37) (dk D_X9_next 18 rfl) (by decide) rfl (fun q4 => ?_) (fun q4 => ?_)
  · have h := h.1 q4
    exact h
  · have h := h.2 q4
    refine V_aload_n (pc2 := 38) (dk D_X9_next 19 rfl) rfl (V_lg 0 rfl) rfl ?_
    refine V_getI kc9 (pc2 := 41) 6 (dk D_X9_next 20 rfl) fl_9_74 (by decide) (fun _ => rfl) rfl h3 ?_
    refine V_aload_n (pc2 := 42) (dk D_X9_next 21 rfl) rfl (V_lg 0 rfl) rfl ?_
    refine V_getR kc9 (pc2 := 45) 2 (dk D_X9_next 22 rfl) fl_9_13 (by decide) (fun _ => rfl) rfl h3 ?_
    obtain ⟨h5, h⟩ := h
    refine V_alenI (pc2 := 46) (dk D_X9_next 23 rfl) rfl h5 ?_
    refine V_cmpge (tgt := 75) (pc2 := 49) (dk D_X9_next 24 rfl) (by decide) rfl (fun q6 => ?_) (fun q6 => ?_)
    · have h := h.1 q6
      exact h
    · have h := h.2 q6
      refine V_aload_n (pc2 := 50) (dk D_X9_next 25 rfl) rfl (V_lg 0 rfl) rfl ?_
      refine V_aload_n (pc2 := 51) (dk D_X9_next 26 rfl) rfl (V_lg 0 rfl) rfl ?_
      refine V_getR kc9 (pc2 := 54) 2 (dk D_X9_next 27 rfl) fl_9_13 (by decide) (fun _ => rfl) rfl h3 ?_
      refine V_aload_n (pc2 := 55) (dk D_X9_next 28 rfl) rfl (V_lg 0 rfl) rfl ?_
      refine V_getI kc9 (pc2 := 58) 6 (dk D_X9_next 29 rfl) fl_9_74 (by decide) (fun _ => rfl) rfl h3 ?_
      obtain ⟨h7, h⟩ := h
      refine V_iald (pc2 := 59) (dk D_X9_next 30 rfl) rfl h5 h7 ?_
      refine V_putI kc9 (pc2 := 62) 7 (dk D_X9_next 31 rfl) fl_9_79 (by decide) (Or.inl rfl) rfl rfl h3 ?_
      have h := h _ rfl
      refine V_aload_n (pc2 := 63) (dk D_X9_next 32 rfl) rfl (V_lg 0 rfl) rfl ?_
      refine V_aload_n (pc2 := 64) (dk D_X9_next 33 rfl) rfl (V_lg 0 rfl) rfl ?_
      refine V_getR kc9 (pc2 := 67) 3 (dk D_X9_next 34 rfl) fl_9_17 (by decide) (fun _ => rfl) rfl h3 ?_
      refine V_aload_n (pc2 := 68) (dk D_X9_next 35 rfl) rfl (V_lg 0 rfl) rfl ?_
      refine V_getI kc9 (pc2 := 71) 6 (dk D_X9_next 36 rfl) fl_9_74 (by decide) (fun _ => rfl) rfl h3 ?_
      obtain ⟨h9, h⟩ := h
      obtain ⟨h10, h⟩ := h
      refine V_iald (pc2 := 72) (dk D_X9_next 37 rfl) rfl h9 h10 ?_
      refine V_putI kc9 (pc2 := 75) 8 (dk D_X9_next 38 rfl) fl_9_82 (by decide) (Or.inl rfl) rfl rfl h3 ?_
      have h := h _ rfl
      exact h
theorem w_X9_next_75 {X : Cx} {d : Nat} {S : Mem} {Q : Res → Mem → Prop} (r0 : Nat) (h : Q (.inl none) S) : V X d MX9_next 75 [(0, vR r0)] [] S Q := by
  exact V_return (dk D_X9_next 39 rfl) rfl h
def L_X9_add : List (Nat × Instr × Nat) := [(0, .aload_n 0, 1), (1, .getfield 41, 3), (4, .aload_n 0, 1), (5, .getfield 13, 3), (8, .arraylength, 1), (9, .if_icmp .lt 54, 3), (12, .aload_n 0, 1), (13, .aload_n 0, 1), (14, .getfield 13, 3), (17, .iconst 2, 1), (18, .aload_n 0, 1), (19, .getfield 41, 3), (22, .imul, 1), (23, .invokestatic 96, 3), (26, .putfield 13, 3), (29, .aload_n 0, 1), (30, .aload_n 0, 1), (31, .getfield 17, 3), (34, .iconst 2, 1), (35, .aload_n 0, 1), (36, .getfield 41, 3), (39, .imul, 1), (40, .invokestatic 96, 3), (43, .putfield 17, 3), (46, .aload_n 0, 1), (47, .aload_n 0, 1), (48, .getfield 20, 3), (51, .iconst 2, 1), (52, .aload_n 0, 1), (53, .getfield 41, 3), (56, .imul, 1), (57, .invokestatic 102, 3), (60, .putfield 20, 3), (63, .aload_n 0, 1), (64, .getfield 13, 3), (67, .aload_n 0, 1), (68, .getfield 41, 3), (71, .iload_n 1, 1), (72, .iastore, 1), (73, .aload_n 0, 1), (74, .getfield 17, 3), (77, .aload_n 0, 1), (78, .getfield 41, 3), (81, .iload_n 2, 1), (82, .iastore, 1), (83, .aload_n 0, 1), (84, .getfield 20, 3), (87, .aload_n 0, 1), (88, .getfield 41, 3), (91, .lload_n 3, 1), (92, .lastore, 1), (93, .aload_n 0, 1), (94, .dup, 1), (95, .getfield 41, 3), (98, .iconst 1, 1), (99, .iadd, 1), (100, .putfield 41, 3), (103, .return_, 1)]
theorem D_X9_add : dOk cX9_add L_X9_add = true := by decide +kernel
theorem w_X9_add_0 {X : Cx} {d : Nat} {S : Mem} {Q : Res → Mem → Prop} (r0 : Nat) (x1 : Int32) (x2 : Int32) (l3 : Int64) (h : (isK S r0 9) ∧ (isK S (gR S r0 2) 21) ∧ (((gI S r0 5) < (nI (gN S (gR S r0 2))) → V X d MX9_add 63 [(0, vR r0), (1, vI x1), (2, vI x2), (3, vL l3)] [] S Q) ∧ (¬ (gI S r0 5) < (nI (gN S (gR S r0 2))) → ∃ e4 : Nat, e4 + 1 ≤ d ∧ C X e4 MJ7_copyOf_59c91 [vR (gR S r0 2), vI (2 * (gI S r0 5))] S (RR fun p7 S8 => (isK S8 r0 9) ∧ ∀ S10 : Mem, S10 = uR S8 r0 2 p7 → ∃ e11 : Nat, e11 + 1 ≤ d ∧ C X e11 MJ7_copyOf_59c91 [vR (gR S10 r0 3), vI (2 * (gI S8 r0 5))] S10 (RR fun p14 S15 => (isK S15 r0 9) ∧ ∀ S17 : Mem, S17 = uR S15 r0 3 p14 → ∃ e18 : Nat, e18 + 1 ≤ d ∧ C X e18 MJ7_copyOf_c38d5 [vR (gR S17 r0 4), vI (2 * (gI S15 r0 5))] S17 (RR fun p21 S22 => (isK S22 r0 9) ∧ ∀ S24 : Mem, S24 = uR S22 r0 4 p21 → V X d MX9_add 63 [(0, vR r0), (1, vI x1), (2, vI x2), (3, vL l3)] [] S24 Q)))))) : V X d MX9_add 0 [(0, vR r0), (1, vI x1), (2, vI x2), (3, vL l3)] [] S Q := by
  refine V_aload_n (pc2 := 1) (dk D_X9_add 0 rfl) rfl (V_lg 0 rfl) rfl ?_
  obtain ⟨h1, h⟩ := h
  refine V_getI kc9 (pc2 := 4) 5 (dk D_X9_add 1 rfl) fl_9_41 (by decide) (fun _ => rfl) rfl h1 ?_
  refine V_aload_n (pc2 := 5) (dk D_X9_add 2 rfl) rfl (V_lg 0 rfl) rfl ?_
  refine V_getR kc9 (pc2 := 8) 2 (dk D_X9_add 3 rfl) fl_9_13 (by decide) (fun _ => rfl) rfl h1 ?_
  obtain ⟨h2, h⟩ := h
  refine V_alenI (pc2 := 9) (dk D_X9_add 4 rfl) rfl h2 ?_
  refine V_cmplt (tgt := 63) (pc2 := 12) (dk D_X9_add 5 rfl) (by decide) rfl (fun q3 => ?_) (fun q3 => ?_)
  · have h := h.1 q3
    exact h
  · have h := h.2 q3
    refine V_aload_n (pc2 := 13) (dk D_X9_add 6 rfl) rfl (V_lg 0 rfl) rfl ?_
    refine V_aload_n (pc2 := 14) (dk D_X9_add 7 rfl) rfl (V_lg 0 rfl) rfl ?_
    refine V_getR kc9 (pc2 := 17) 2 (dk D_X9_add 8 rfl) fl_9_13 (by decide) (fun _ => rfl) rfl h1 ?_
    refine V_iconst (x := 2) (pc2 := 18) (dk D_X9_add 9 rfl) (by decide) rfl ?_
    refine V_aload_n (pc2 := 19) (dk D_X9_add 10 rfl) rfl (V_lg 0 rfl) rfl ?_
    refine V_getI kc9 (pc2 := 22) 5 (dk D_X9_add 11 rfl) fl_9_41 (by decide) (fun _ => rfl) rfl h1 ?_
    refine V_imul (pc2 := 23) (dk D_X9_add 12 rfl) rfl ?_
    obtain ⟨e4, he5, hc6⟩ := h
    refine V_callS (as := [_, _]) (st := [_]) (M' := MJ7_copyOf_59c91) (pc2 := 26) (dk D_X9_add 13 rfl) ml_9_96 mv_J7_copyOf_59c91 rfl rfl (Nat.le_of_ble_eq_true rfl) rfl he5 hc6 (RR.k fun p7 S8 h => ?_)
    obtain ⟨h9, h⟩ := h
    refine V_putR kc9 (pc2 := 29) 2 (dk D_X9_add 14 rfl) fl_9_13 (by decide) (Or.inl rfl) (Or.inr ⟨_, rfl⟩) rfl h9 ?_
    have h := h _ rfl
    refine V_aload_n (pc2 := 30) (dk D_X9_add 15 rfl) rfl (V_lg 0 rfl) rfl ?_
    refine V_aload_n (pc2 := 31) (dk D_X9_add 16 rfl) rfl (V_lg 0 rfl) rfl ?_
    refine V_getR kc9 (pc2 := 34) 3 (dk D_X9_add 17 rfl) fl_9_17 (by decide) (fun _ => rfl) rfl h9 ?_
    refine V_iconst (x := 2) (pc2 := 35) (dk D_X9_add 18 rfl) (by decide) rfl ?_
    refine V_aload_n (pc2 := 36) (dk D_X9_add 19 rfl) rfl (V_lg 0 rfl) rfl ?_
    refine V_getI kc9 (pc2 := 39) 5 (dk D_X9_add 20 rfl) fl_9_41 (by decide) (fun _ => rfl) rfl h9 ?_
    refine V_imul (pc2 := 40) (dk D_X9_add 21 rfl) rfl ?_
    obtain ⟨e11, he12, hc13⟩ := h
    refine V_callS (as := [_, _]) (st := [_]) (M' := MJ7_copyOf_59c91) (pc2 := 43) (dk D_X9_add 22 rfl) ml_9_96 mv_J7_copyOf_59c91 rfl rfl (Nat.le_of_ble_eq_true rfl) rfl he12 hc13 (RR.k fun p14 S15 h => ?_)
    obtain ⟨h16, h⟩ := h
    refine V_putR kc9 (pc2 := 46) 3 (dk D_X9_add 23 rfl) fl_9_17 (by decide) (Or.inl rfl) (Or.inr ⟨_, rfl⟩) rfl h16 ?_
    have h := h _ rfl
    refine V_aload_n (pc2 := 47) (dk D_X9_add 24 rfl) rfl (V_lg 0 rfl) rfl ?_
    refine V_aload_n (pc2 := 48) (dk D_X9_add 25 rfl) rfl (V_lg 0 rfl) rfl ?_
    refine V_getR kc9 (pc2 := 51) 4 (dk D_X9_add 26 rfl) fl_9_20 (by decide) (fun _ => rfl) rfl h16 ?_
    refine V_iconst (x := 2) (pc2 := 52) (dk D_X9_add 27 rfl) (by decide) rfl ?_
    refine V_aload_n (pc2 := 53) (dk D_X9_add 28 rfl) rfl (V_lg 0 rfl) rfl ?_
    refine V_getI kc9 (pc2 := 56) 5 (dk D_X9_add 29 rfl) fl_9_41 (by decide) (fun _ => rfl) rfl h16 ?_
    refine V_imul (pc2 := 57) (dk D_X9_add 30 rfl) rfl ?_
    obtain ⟨e18, he19, hc20⟩ := h
    refine V_callS (as := [_, _]) (st := [_]) (M' := MJ7_copyOf_c38d5) (pc2 := 60) (dk D_X9_add 31 rfl) ml_9_102 mv_J7_copyOf_c38d5 rfl rfl (Nat.le_of_ble_eq_true rfl) rfl he19 hc20 (RR.k fun p21 S22 h => ?_)
    obtain ⟨h23, h⟩ := h
    refine V_putR kc9 (pc2 := 63) 4 (dk D_X9_add 32 rfl) fl_9_20 (by decide) (Or.inl rfl) (Or.inr ⟨_, rfl⟩) rfl h23 ?_
    have h := h _ rfl
    exact h
theorem w_X9_add_63 {X : Cx} {d : Nat} {S : Mem} {Q : Res → Mem → Prop} (r0 : Nat) (x1 : Int32) (x2 : Int32) (l3 : Int64) (h : (isK S r0 9) ∧ (isK S (gR S r0 2) 21) ∧ (vp_in (gI S r0 5) (gN S (gR S r0 2))) ∧ ∀ S4 : Mem, S4 = uI S (gR S r0 2) (((gI S r0 5) : Int32).toNatClampNeg) x1 → (isK S (gR S r0 3) 21) ∧ (vp_in (gI S4 r0 5) (gN S (gR S r0 3))) ∧ ∀ S7 : Mem, S7 = uI S4 (gR S r0 3) (((gI S4 r0 5) : Int32).toNatClampNeg) x2 → (isK S (gR S r0 4) 22) ∧ (vp_in (gI S7 r0 5) (gN S (gR S r0 4))) ∧ ∀ S10 : Mem, S10 = uL S7 (gR S r0 4) (((gI S7 r0 5) : Int32).toNatClampNeg) l3 → ∀ S11 : Mem, S11 = uI S10 r0 5 ((gI S7 r0 5) + 1) → Q (.inl none) S11) : V X d MX9_add 63 [(0, vR r0), (1, vI x1), (2, vI x2), (3, vL l3)] [] S Q := by
  refine V_aload_n (pc2 := 64) (dk D_X9_add 33 rfl) rfl (V_lg 0 rfl) rfl ?_
  obtain ⟨h1, h⟩ := h
  refine V_getR kc9 (pc2 := 67) 2 (dk D_X9_add 34 rfl) fl_9_13 (by decide) (fun _ => rfl) rfl h1 ?_
  refine V_aload_n (pc2 := 68) (dk D_X9_add 35 rfl) rfl (V_lg 0 rfl) rfl ?_
  refine V_getI kc9 (pc2 := 71) 5 (dk D_X9_add 36 rfl) fl_9_41 (by decide) (fun _ => rfl) rfl h1 ?_
  refine V_iload_n (pc2 := 72) (dk D_X9_add 37 rfl) rfl (V_lg 1 rfl) rfl ?_
  obtain ⟨h2, h⟩ := h
  obtain ⟨h3, h⟩ := h
  refine V_iast (pc2 := 73) (dk D_X9_add 38 rfl) rfl h2 h3 ?_
  have h := h _ rfl
  refine V_aload_n (pc2 := 74) (dk D_X9_add 39 rfl) rfl (V_lg 0 rfl) rfl ?_
  refine V_getR kc9 (pc2 := 77) 3 (dk D_X9_add 40 rfl) fl_9_17 (by decide) (fun _ => rfl) rfl h1 ?_
  refine V_aload_n (pc2 := 78) (dk D_X9_add 41 rfl) rfl (V_lg 0 rfl) rfl ?_
  refine V_getI kc9 (pc2 := 81) 5 (dk D_X9_add 42 rfl) fl_9_41 (by decide) (fun _ => rfl) rfl h1 ?_
  refine V_iload_n (pc2 := 82) (dk D_X9_add 43 rfl) rfl (V_lg 2 rfl) rfl ?_
  obtain ⟨h5, h⟩ := h
  obtain ⟨h6, h⟩ := h
  refine V_iast (pc2 := 83) (dk D_X9_add 44 rfl) rfl h5 h6 ?_
  have h := h _ rfl
  refine V_aload_n (pc2 := 84) (dk D_X9_add 45 rfl) rfl (V_lg 0 rfl) rfl ?_
  refine V_getR kc9 (pc2 := 87) 4 (dk D_X9_add 46 rfl) fl_9_20 (by decide) (fun _ => rfl) rfl h1 ?_
  refine V_aload_n (pc2 := 88) (dk D_X9_add 47 rfl) rfl (V_lg 0 rfl) rfl ?_
  refine V_getI kc9 (pc2 := 91) 5 (dk D_X9_add 48 rfl) fl_9_41 (by decide) (fun _ => rfl) rfl h1 ?_
  refine V_lload_n (pc2 := 92) (dk D_X9_add 49 rfl) rfl (V_lg 3 rfl) rfl ?_
  obtain ⟨h8, h⟩ := h
  obtain ⟨h9, h⟩ := h
  refine V_last (pc2 := 93) (dk D_X9_add 50 rfl) rfl h8 h9 ?_
  have h := h _ rfl
  refine V_aload_n (pc2 := 94) (dk D_X9_add 51 rfl) rfl (V_lg 0 rfl) rfl ?_
  refine V_dup (pc2 := 95) (dk D_X9_add 52 rfl) rfl rfl ?_
  refine V_getI kc9 (pc2 := 98) 5 (dk D_X9_add 53 rfl) fl_9_41 (by decide) (fun _ => rfl) rfl h1 ?_
  refine V_iconst (x := 1) (pc2 := 99) (dk D_X9_add 54 rfl) (by decide) rfl ?_
  refine V_iadd (pc2 := 100) (dk D_X9_add 55 rfl) rfl ?_
  refine V_putI kc9 (pc2 := 103) 5 (dk D_X9_add 56 rfl) fl_9_41 (by decide) (Or.inl rfl) rfl rfl h1 ?_
  have h := h _ rfl
  exact V_return (dk D_X9_add 57 rfl) rfl h
