def L_X13_isComma : List (Nat × Instr × Nat) := [(0, .aload_n 0, 1), (1, .bipush 44, 2), (3, .invokevirtual 334, 3), (6, .ireturn, 1)]
theorem D_X13_isComma : dOk cX13_isComma L_X13_isComma = true := by decide +kernel
theorem w_X13_isComma_0 {X : Cx} {d : Nat} {S : Mem} {Q : Res → Mem → Prop} (r0 : Nat) (h : (isK S r0 13) ∧ ∃ e1 : Nat, e1 + 1 ≤ d ∧ C X e1 MX13_isSign [vR r0, vI 44] S (RI fun y4 S5 => (y4 = 0 ∨ y4 = 1) ∧ Q (.inl (some (vI y4))) S5)) : V X d MX13_isComma 0 [(0, vR r0)] [] S Q := by
  refine V_aload_n (pc2 := 1) (dk D_X13_isComma 0 rfl) rfl (V_lg 0 rfl) rfl ?_
  refine V_bipush (x := 44) (pc2 := 3) (dk D_X13_isComma 1 rfl) (by decide) rfl ?_
  obtain ⟨h6, h⟩ := h
  obtain ⟨e1, he2, hc3⟩ := h
  refine V_callV (as := [_]) (st := []) (M' := MX13_isSign) (ci := 13) (pc2 := 6) (dk D_X13_isComma 2 rfl) ml_13_334 mv_X13_isSign rfl rfl (by decide) rfl (Nat.le_of_ble_eq_true rfl) rfl he2 h6 hc3 (RI.k fun y4 S5 h => ?_)
  obtain ⟨h7, h⟩ := h
  exact V_zreturn (dk D_X13_isComma 3 rfl) rfl h7 h
def L_X13_asksFor : List (Nat × Instr × Nat) := [(0, .aload_n 0, 1), (1, .getfield 143, 3), (4, .aload_n 0, 1), (5, .getfield 442, 3), (8, .iload_n 1, 1), (9, .iastore, 1), (10, .aload_n 0, 1), (11, .getfield 146, 3), (14, .aload_n 0, 1), (15, .getfield 442, 3), (18, .iload_n 2, 1), (19, .iastore, 1), (20, .aload_n 0, 1), (21, .getfield 149, 3), (24, .aload_n 0, 1), (25, .getfield 442, 3), (28, .iload_n 3, 1), (29, .iastore, 1), (30, .aload_n 0, 1), (31, .dup, 1), (32, .getfield 442, 3), (35, .iconst 1, 1), (36, .iadd, 1), (37, .putfield 442, 3), (40, .return_, 1)]
theorem D_X13_asksFor : dOk cX13_asksFor L_X13_asksFor = true := by decide +kernel
theorem w_X13_asksFor_0 {X : Cx} {d : Nat} {S : Mem} {Q : Res → Mem → Prop} (r0 : Nat) (x1 : Int32) (x2 : Int32) (x3 : Int32) (h : (isK S r0 13) ∧ (isK S (gR S r0 38) 21) ∧ (vp_in (gI S r0 41) (gN S (gR S r0 38))) ∧ ∀ S4 : Mem, S4 = uI S (gR S r0 38) (((gI S r0 41) : Int32).toNatClampNeg) x1 → (isK S (gR S r0 39) 21) ∧ (vp_in (gI S4 r0 41) (gN S (gR S r0 39))) ∧ ∀ S7 : Mem, S7 = uI S4 (gR S r0 39) (((gI S4 r0 41) : Int32).toNatClampNeg) x2 → (isK S (gR S r0 40) 21) ∧ (vp_in (gI S7 r0 41) (gN S (gR S r0 40))) ∧ ∀ S10 : Mem, S10 = uI S7 (gR S r0 40) (((gI S7 r0 41) : Int32).toNatClampNeg) x3 → ∀ S11 : Mem, S11 = uI S10 r0 41 ((gI S10 r0 41) + 1) → Q (.inl none) S11) : V X d MX13_asksFor 0 [(0, vR r0), (1, vI x1), (2, vI x2), (3, vI x3)] [] S Q := by
  refine V_aload_n (pc2 := 1) (dk D_X13_asksFor 0 rfl) rfl (V_lg 0 rfl) rfl ?_
  obtain ⟨h1, h⟩ := h
  refine V_getR kc13 (pc2 := 4) 38 (dk D_X13_asksFor 1 rfl) fl_13_143 (by decide) (fun _ => rfl) rfl h1 ?_
  refine V_aload_n (pc2 := 5) (dk D_X13_asksFor 2 rfl) rfl (V_lg 0 rfl) rfl ?_
  refine V_getI kc13 (pc2 := 8) 41 (dk D_X13_asksFor 3 rfl) fl_13_442 (by decide) (fun _ => rfl) rfl h1 ?_
  refine V_iload_n (pc2 := 9) (dk D_X13_asksFor 4 rfl) rfl (V_lg 1 rfl) rfl ?_
  obtain ⟨h2, h⟩ := h
  obtain ⟨h3, h⟩ := h
  refine V_iast (pc2 := 10) (dk D_X13_asksFor 5 rfl) rfl h2 h3 ?_
  have h := h _ rfl
  refine V_aload_n (pc2 := 11) (dk D_X13_asksFor 6 rfl) rfl (V_lg 0 rfl) rfl ?_
  refine V_getR kc13 (pc2 := 14) 39 (dk D_X13_asksFor 7 rfl) fl_13_146 (by decide) (fun _ => rfl) rfl h1 ?_
  refine V_aload_n (pc2 := 15) (dk D_X13_asksFor 8 rfl) rfl (V_lg 0 rfl) rfl ?_
  refine V_getI kc13 (pc2 := 18) 41 (dk D_X13_asksFor 9 rfl) fl_13_442 (by decide) (fun _ => rfl) rfl h1 ?_
  refine V_iload_n (pc2 := 19) (dk D_X13_asksFor 10 rfl) rfl (V_lg 2 rfl) rfl ?_
  obtain ⟨h5, h⟩ := h
  obtain ⟨h6, h⟩ := h
  refine V_iast (pc2 := 20) (dk D_X13_asksFor 11 rfl) rfl h5 h6 ?_
  have h := h _ rfl
  refine V_aload_n (pc2 := 21) (dk D_X13_asksFor 12 rfl) rfl (V_lg 0 rfl) rfl ?_
  refine V_getR kc13 (pc2 := 24) 40 (dk D_X13_asksFor 13 rfl) fl_13_149 (by decide) (fun _ => rfl) rfl h1 ?_
  refine V_aload_n (pc2 := 25) (dk D_X13_asksFor 14 rfl) rfl (V_lg 0 rfl) rfl ?_
  refine V_getI kc13 (pc2 := 28) 41 (dk D_X13_asksFor 15 rfl) fl_13_442 (by decide) (fun _ => rfl) rfl h1 ?_
  refine V_iload_n (pc2 := 29) (dk D_X13_asksFor 16 rfl) rfl (V_lg 3 rfl) rfl ?_
  obtain ⟨h8, h⟩ := h
  obtain ⟨h9, h⟩ := h
  refine V_iast (pc2 := 30) (dk D_X13_asksFor 17 rfl) rfl h8 h9 ?_
  have h := h _ rfl
  refine V_aload_n (pc2 := 31) (dk D_X13_asksFor 18 rfl) rfl (V_lg 0 rfl) rfl ?_
  refine V_dup (pc2 := 32) (dk D_X13_asksFor 19 rfl) rfl rfl ?_
  refine V_getI kc13 (pc2 := 35) 41 (dk D_X13_asksFor 20 rfl) fl_13_442 (by decide) (fun _ => rfl) rfl h1 ?_
  refine V_iconst (x := 1) (pc2 := 36) (dk D_X13_asksFor 21 rfl) (by decide) rfl ?_
  refine V_iadd (pc2 := 37) (dk D_X13_asksFor 22 rfl) rfl ?_
  refine V_putI kc13 (pc2 := 40) 41 (dk D_X13_asksFor 23 rfl) fl_13_442 (by decide) (Or.inl rfl) rfl rfl h1 ?_
  have h := h _ rfl
  exact V_return (dk D_X13_asksFor 24 rfl) rfl h
def L_X13_body : List (Nat × Instr × Nat) := [(0, .aload_n 0, 1), (1, .getfield 448, 3), (4, .ifCond .ne 6, 3), (7, .bipush (-2), 2), (9, .ireturn, 1), (10, .iload_n 1, 1), (11, .iconst 0, 1), (12, .aload_n 0, 1), (13, .getfield 445, 3), (16, .iconst 1, 1), (17, .isub, 1), (18, .invokestatic 292, 3), (21, .ifCond .eq 12, 3), (24, .iload_n 2, 1), (25, .iconst 0, 1), (26, .iconst 3, 1), (27, .invokestatic 292, 3), (30, .ifCond .ne 5, 3), (33, .iconst (-1), 1), (34, .ireturn, 1), (35, .iload_n 2, 1), (36, .ifCond .ne 12, 3), (39, .aload_n 0, 1), (40, .getfield 104, 3), (43, .iload_n 1, 1), (44, .iaload, 1), (45, .goto 37, 3), (48, .iload_n 2, 1), (49, .iconst 1, 1), (50, .if_icmp .ne 12, 3), (53, .aload_n 0, 1), (54, .getfield 107, 3), (57, .iload_n 1, 1), (58, .iaload, 1), (59, .goto 23, 3), (62, .iload_n 2, 1), (63, .iconst 2, 1), (64, .if_icmp .ne 12, 3), (67, .aload_n 0, 1), (68, .getfield 110, 3), (71, .iload_n 1, 1), (72, .iaload, 1), (73, .goto 9, 3), (76, .aload_n 0, 1), (77, .getfield 113, 3), (80, .iload_n 1, 1), (81, .iaload, 1), (82, .ireturn, 1)]
theorem D_X13_body : dOk cX13_body L_X13_body = true := by decide +kernel
theorem w_X13_body_0 {X : Cx} {d : Nat} {S : Mem} {Q : Res → Mem → Prop} (r0 : Nat) (x1 : Int32) (x2 : Int32) (h : (isK S r0 13) ∧ ((¬ (gI S r0 46) = 0 → ∃ e3 : Nat, e3 + 1 ≤ d ∧ C X e3 MX13_in [vI x1, vI 0, vI ((gI S r0 18) - 1)] S (RI fun y6 S7 => ((y6 = 0 → V X d MX13_body 33 [(0, vR r0), (1, vI x1), (2, vI x2)] [] S7 Q) ∧ (¬ y6 = 0 → ∃ e9 : Nat, e9 + 1 ≤ d ∧ C X e9 MX13_in [vI x2, vI 0, vI 3] S7 (RI fun y12 S13 => ((¬ y12 = 0 → ((¬ x2 = 0 → ((¬ x2 = 1 → ((¬ x2 = 2 → (isK S13 r0 13) ∧ (isK S13 (gR S13 r0 22) 21) ∧ (vp_in x1 (gN S13 (gR S13 r0 22))) ∧ V X d MX13_body 82 [(0, vR r0), (1, vI x1), (2, vI x2)] [vI (gI S13 (gR S13 r0 22) (x1 : Int32).toNatClampNeg)] S13 Q) ∧ (x2 = 2 → (isK S13 r0 13) ∧ (isK S13 (gR S13 r0 21) 21) ∧ (vp_in x1 (gN S13 (gR S13 r0 21))) ∧ V X d MX13_body 82 [(0, vR r0), (1, vI x1), (2, vI x2)] [vI (gI S13 (gR S13 r0 21) (x1 : Int32).toNatClampNeg)] S13 Q))) ∧ (x2 = 1 → (isK S13 r0 13) ∧ (isK S13 (gR S13 r0 20) 21) ∧ (vp_in x1 (gN S13 (gR S13 r0 20))) ∧ V X d MX13_body 82 [(0, vR r0), (1, vI x1), (2, vI x2)] [vI (gI S13 (gR S13 r0 20) (x1 : Int32).toNatClampNeg)] S13 Q))) ∧ (x2 = 0 → (isK S13 r0 13) ∧ (isK S13 (gR S13 r0 19) 21) ∧ (vp_in x1 (gN S13 (gR S13 r0 19))) ∧ V X d MX13_body 82 [(0, vR r0), (1, vI x1), (2, vI x2)] [vI (gI S13 (gR S13 r0 19) (x1 : Int32).toNatClampNeg)] S13 Q))) ∧ (y12 = 0 → V X d MX13_body 33 [(0, vR r0), (1, vI x1), (2, vI x2)] [] S13 Q))))))) ∧ ((gI S r0 46) = 0 → Q (.inl (some (vI (-2)))) S))) : V X d MX13_body 0 [(0, vR r0), (1, vI x1), (2, vI x2)] [] S Q := by
  refine V_aload_n (pc2 := 1) (dk D_X13_body 0 rfl) rfl (V_lg 0 rfl) rfl ?_
  obtain ⟨h1, h⟩ := h
  refine V_getI kc13 (pc2 := 4) 46 (dk D_X13_body 1 rfl) fl_13_448 (by decide) (fun _ => rfl) rfl h1 ?_
  refine V_ifne (tgt := 10) (pc2 := 7) (dk D_X13_body 2 rfl) (by decide) rfl (fun q2 => ?_) (fun q2 => ?_)
  · have h := h.1 q2
    refine V_iload_n (pc2 := 11) (dk D_X13_body 5 rfl) rfl (V_lg 1 rfl) rfl ?_
    refine V_iconst (x := 0) (pc2 := 12) (dk D_X13_body 6 rfl) (by decide) rfl ?_
    refine V_aload_n (pc2 := 13) (dk D_X13_body 7 rfl) rfl (V_lg 0 rfl) rfl ?_
    refine V_getI kc13 (pc2 := 16) 18 (dk D_X13_body 8 rfl) fl_13_445 (by decide) (fun _ => rfl) rfl h1 ?_
    refine V_iconst (x := 1) (pc2 := 17) (dk D_X13_body 9 rfl) (by decide) rfl ?_
    refine V_isub (pc2 := 18) (dk D_X13_body 10 rfl) rfl ?_
    obtain ⟨e3, he4, hc5⟩ := h
    refine V_callS (as := [_, _, _]) (st := []) (M' := MX13_in) (pc2 := 21) (dk D_X13_body 11 rfl) ml_13_292 mv_X13_in rfl rfl (Nat.le_of_ble_eq_true rfl) rfl he4 hc5 (RI.k fun y6 S7 h => ?_)
    refine V_ifeq (tgt := 33) (pc2 := 24) (dk D_X13_body 12 rfl) (by decide) rfl (fun q8 => ?_) (fun q8 => ?_)
    · have h := h.1 q8
      exact h
    · have h := h.2 q8
      refine V_iload_n (pc2 := 25) (dk D_X13_body 13 rfl) rfl (V_lg 2 rfl) rfl ?_
      refine V_iconst (x := 0) (pc2 := 26) (dk D_X13_body 14 rfl) (by decide) rfl ?_
      refine V_iconst (x := 3) (pc2 := 27) (dk D_X13_body 15 rfl) (by decide) rfl ?_
      obtain ⟨e9, he10, hc11⟩ := h
      refine V_callS (as := [_, _, _]) (st := []) (M' := MX13_in) (pc2 := 30) (dk D_X13_body 16 rfl) ml_13_292 mv_X13_in rfl rfl (Nat.le_of_ble_eq_true rfl) rfl he10 hc11 (RI.k fun y12 S13 h => ?_)
      refine V_ifne (tgt := 35) (pc2 := 33) (dk D_X13_body 17 rfl) (by decide) rfl (fun q14 => ?_) (fun q14 => ?_)
      · have h := h.1 q14
        refine V_iload_n (pc2 := 36) (dk D_X13_body 20 rfl) rfl (V_lg 2 rfl) rfl ?_
        refine V_ifne (tgt := 48) (pc2 := 39) (dk D_X13_body 21 rfl) (by decide) rfl (fun q15 => ?_) (fun q15 => ?_)
        · have h := h.1 q15
          refine V_iload_n (pc2 := 49) (dk D_X13_body 27 rfl) rfl (V_lg 2 rfl) rfl ?_
          refine V_iconst (x := 1) (pc2 := 50) (dk D_X13_body 28 rfl) (by decide) rfl ?_
          refine V_cmpne (tgt := 62) (pc2 := 53) (dk D_X13_body 29 rfl) (by decide) rfl (fun q16 => ?_) (fun q16 => ?_)
          · have h := h.1 q16
            refine V_iload_n (pc2 := 63) (dk D_X13_body 35 rfl) rfl (V_lg 2 rfl) rfl ?_
            refine V_iconst (x := 2) (pc2 := 64) (dk D_X13_body 36 rfl) (by decide) rfl ?_
            refine V_cmpne (tgt := 76) (pc2 := 67) (dk D_X13_body 37 rfl) (by decide) rfl (fun q17 => ?_) (fun q17 => ?_)
            · have h := h.1 q17
              refine V_aload_n (pc2 := 77) (dk D_X13_body 43 rfl) rfl (V_lg 0 rfl) rfl ?_
              obtain ⟨h18, h⟩ := h
              refine V_getR kc13 (pc2 := 80) 22 (dk D_X13_body 44 rfl) fl_13_113 (by decide) (fun _ => rfl) rfl h18 ?_
              refine V_iload_n (pc2 := 81) (dk D_X13_body 45 rfl) rfl (V_lg 1 rfl) rfl ?_
              obtain ⟨h19, h⟩ := h
              obtain ⟨h20, h⟩ := h
              refine V_iald (pc2 := 82) (dk D_X13_body 46 rfl) rfl h19 h20 ?_
              exact h
            · have h := h.2 q17
              refine V_aload_n (pc2 := 68) (dk D_X13_body 38 rfl) rfl (V_lg 0 rfl) rfl ?_
              obtain ⟨h21, h⟩ := h
              refine V_getR kc13 (pc2 := 71) 21 (dk D_X13_body 39 rfl) fl_13_110 (by decide) (fun _ => rfl) rfl h21 ?_
              refine V_iload_n (pc2 := 72) (dk D_X13_body 40 rfl) rfl (V_lg 1 rfl) rfl ?_
              obtain ⟨h22, h⟩ := h
              obtain ⟨h23, h⟩ := h
              refine V_iald (pc2 := 73) (dk D_X13_body 41 rfl) rfl h22 h23 ?_
              refine V_goto (tgt := 82) (dk D_X13_body 42 rfl) (by decide) ?_
              exact h
          · have h := h.2 q16
            refine V_aload_n (pc2 := 54) (dk D_X13_body 30 rfl) rfl (V_lg 0 rfl) rfl ?_
            obtain ⟨h24, h⟩ := h
            refine V_getR kc13 (pc2 := 57) 20 (dk D_X13_body 31 rfl) fl_13_107 (by decide) (fun _ => rfl) rfl h24 ?_
            refine V_iload_n (pc2 := 58) (dk D_X13_body 32 rfl) rfl (V_lg 1 rfl) rfl ?_
            obtain ⟨h25, h⟩ := h
            obtain ⟨h26, h⟩ := h
            refine V_iald (pc2 := 59) (dk D_X13_body 33 rfl) rfl h25 h26 ?_
            refine V_goto (tgt := 82) (dk D_X13_body 34 rfl) (by decide) ?_
            exact h
        · have h := h.2 q15
          refine V_aload_n (pc2 := 40) (dk D_X13_body 22 rfl) rfl (V_lg 0 rfl) rfl ?_
          obtain ⟨h27, h⟩ := h
          refine V_getR kc13 (pc2 := 43) 19 (dk D_X13_body 23 rfl) fl_13_104 (by decide) (fun _ => rfl) rfl h27 ?_
          refine V_iload_n (pc2 := 44) (dk D_X13_body 24 rfl) rfl (V_lg 1 rfl) rfl ?_
          obtain ⟨h28, h⟩ := h
          obtain ⟨h29, h⟩ := h
          refine V_iald (pc2 := 45) (dk D_X13_body 25 rfl) rfl h28 h29 ?_
          refine V_goto (tgt := 82) (dk D_X13_body 26 rfl) (by decide) ?_
          exact h
      · have h := h.2 q14
        exact h
  · have h := h.2 q2
    refine V_bipush (x := (-2)) (pc2 := 9) (dk D_X13_body 3 rfl) (by decide) rfl ?_
    exact V_ireturn (dk D_X13_body 4 rfl) rfl h
theorem w_X13_body_33 {X : Cx} {d : Nat} {S : Mem} {Q : Res → Mem → Prop} (r0 : Nat) (x1 : Int32) (x2 : Int32) (h : Q (.inl (some (vI (-1)))) S) : V X d MX13_body 33 [(0, vR r0), (1, vI x1), (2, vI x2)] [] S Q := by
  refine V_iconst (x := (-1)) (pc2 := 34) (dk D_X13_body 18 rfl) (by decide) rfl ?_
  exact V_ireturn (dk D_X13_body 19 rfl) rfl h
theorem w_X13_body_82 {X : Cx} {d : Nat} {S : Mem} {Q : Res → Mem → Prop} (r0 : Nat) (x1 : Int32) (x2 : Int32) (t0 : Int32) (h : Q (.inl (some (vI t0))) S) : V X d MX13_body 82 [(0, vR r0), (1, vI x1), (2, vI x2)] [vI t0] S Q := by
  exact V_ireturn (dk D_X13_body 47 rfl) rfl h
def L_X13_begins : List (Nat × Instr × Nat) := [(0, .aload_n 0, 1), (1, .iconst 0, 1), (2, .putfield 461, 3), (5, .aload_n 0, 1), (6, .iconst 0, 1), (7, .putfield 464, 3), (10, .iconst 0, 1), (11, .istore_n 1, 1), (12, .iload_n 1, 1), (13, .bipush 12, 2), (15, .if_icmp .ge 16, 3), (18, .aload_n 0, 1), (19, .getfield 192, 3), (22, .iload_n 1, 1), (23, .iconst 0, 1), (24, .bastore, 1), (25, .iinc 1 1, 3), (28, .goto (-16), 3), (31, .aload_n 0, 1), (32, .iconst 0, 1), (33, .putfield 467, 3), (36, .aload_n 0, 1), (37, .iconst 0, 1), (38, .putfield 470, 3), (41, .aload_n 0, 1), (42, .iconst 0, 1), (43, .putfield 473, 3), (46, .aload_n 0, 1), (47, .iconst 0, 1), (48, .putfield 476, 3), (51, .aload_n 0, 1), (52, .iconst 0, 1), (53, .putfield 479, 3), (56, .aload_n 0, 1), (57, .iconst 0, 1), (58, .putfield 482, 3), (61, .aload_n 0, 1), (62, .iconst 0, 1), (63, .putfield 485, 3), (66, .aload_n 0, 1), (67, .iconst 0, 1), (68, .putfield 488, 3), (71, .aload_n 0, 1), (72, .bipush (-9), 2), (74, .putfield 491, 3), (77, .return_, 1)]
theorem D_X13_begins : dOk cX13_begins L_X13_begins = true := by decide +kernel
theorem w_X13_begins_0 {X : Cx} {d : Nat} {S : Mem} {Q : Res → Mem → Prop} (r0 : Nat) (h : (isK S r0 13) ∧ ∀ S2 : Mem, S2 = uI S r0 47 0 → ∀ S3 : Mem, S3 = uI S2 r0 48 0 → V X d MX13_begins 12 [(0, vR r0), (1, vI 0)] [] S3 Q) : V X d MX13_begins 0 [(0, vR r0)] [] S Q := by
  refine V_aload_n (pc2 := 1) (dk D_X13_begins 0 rfl) rfl (V_lg 0 rfl) rfl ?_
  refine V_iconst (x := 0) (pc2 := 2) (dk D_X13_begins 1 rfl) (by decide) rfl ?_
  obtain ⟨h1, h⟩ := h
  refine V_putI kc13 (pc2 := 5) 47 (dk D_X13_begins 2 rfl) fl_13_461 (by decide) (Or.inl rfl) rfl rfl h1 ?_
  have h := h _ rfl
  refine V_aload_n (pc2 := 6) (dk D_X13_begins 3 rfl) rfl (V_lg 0 rfl) rfl ?_
  refine V_iconst (x := 0) (pc2 := 7) (dk D_X13_begins 4 rfl) (by decide) rfl ?_
  refine V_putI kc13 (pc2 := 10) 48 (dk D_X13_begins 5 rfl) fl_13_464 (by decide) (Or.inl rfl) rfl rfl h1 ?_
  have h := h _ rfl
  refine V_iconst (x := 0) (pc2 := 11) (dk D_X13_begins 6 rfl) (by decide) rfl ?_
  refine V_istore_n (pc2 := 12) (lv2 := [(0, _), (1, _)]) (dk D_X13_begins 7 rfl) rfl (by decide) rfl rfl ?_
  exact h
theorem w_X13_begins_12 {X : Cx} {d : Nat} {S : Mem} {Q : Res → Mem → Prop} (r0 : Nat) (x1 : Int32) (h : ((12 ≤ x1 → (isK S r0 13) ∧ ∀ S3 : Mem, S3 = uI S r0 75 0 → ∀ S4 : Mem, S4 = uI S3 r0 76 0 → ∀ S5 : Mem, S5 = uI S4 r0 77 0 → ∀ S6 : Mem, S6 = uI S5 r0 79 0 → ∀ S7 : Mem, S7 = uI S6 r0 80 0 → ∀ S8 : Mem, S8 = uI S7 r0 83 0 → ∀ S9 : Mem, S9 = uI S8 r0 87 0 → ∀ S10 : Mem, S10 = uI S9 r0 88 0 → ∀ S11 : Mem, S11 = uI S10 r0 97 (-9) → Q (.inl none) S11) ∧ (¬ 12 ≤ x1 → (isK S r0 13) ∧ (isK S (gR S r0 59) 23) ∧ (vp_in x1 (gN S (gR S r0 59))) ∧ ∀ S15 : Mem, S15 = uI S (gR S r0 59) ((x1 : Int32).toNatClampNeg) 0 → V X d MX13_begins 12 [(0, vR r0), (1, vI (x1 + 1))] [] S15 Q))) : V X d MX13_begins 12 [(0, vR r0), (1, vI x1)] [] S Q := by
  refine V_iload_n (pc2 := 13) (dk D_X13_begins 8 rfl) rfl (V_lg 1 rfl) rfl ?_
  refine V_bipush (x := 12) (pc2 := 15) (dk D_X13_begins 9 rfl) (by decide) rfl ?_
  refine V_cmpge (tgt := 31) (pc2 := 18) (dk D_X13_begins 10 rfl) (by decide) rfl (fun q1 => ?_) (fun q1 => ?_)
  · have h := h.1 q1
    refine V_aload_n (pc2 := 32) (dk D_X13_begins 18 rfl) rfl (V_lg 0 rfl) rfl ?_
    refine V_iconst (x := 0) (pc2 := 33) (dk D_X13_begins 19 rfl) (by decide) rfl ?_
    obtain ⟨h2, h⟩ := h
    refine V_putI kc13 (pc2 := 36) 75 (dk D_X13_begins 20 rfl) fl_13_467 (by decide) (Or.inl rfl) rfl rfl h2 ?_
    have h := h _ rfl
    refine V_aload_n (pc2 := 37) (dk D_X13_begins 21 rfl) rfl (V_lg 0 rfl) rfl ?_
    refine V_iconst (x := 0) (pc2 := 38) (dk D_X13_begins 22 rfl) (by decide) rfl ?_
    refine V_putZ kc13 (pc2 := 41) 76 (dk D_X13_begins 23 rfl) fl_13_470 (by decide) (Or.inl rfl) rfl rfl h2 (Or.inl rfl) ?_
    have h := h _ rfl
    refine V_aload_n (pc2 := 42) (dk D_X13_begins 24 rfl) rfl (V_lg 0 rfl) rfl ?_
    refine V_iconst (x := 0) (pc2 := 43) (dk D_X13_begins 25 rfl) (by decide) rfl ?_
    refine V_putI kc13 (pc2 := 46) 77 (dk D_X13_begins 26 rfl) fl_13_473 (by decide) (Or.inl rfl) rfl rfl h2 ?_
    have h := h _ rfl
    refine V_aload_n (pc2 := 47) (dk D_X13_begins 27 rfl) rfl (V_lg 0 rfl) rfl ?_
    refine V_iconst (x := 0) (pc2 := 48) (dk D_X13_begins 28 rfl) (by decide) rfl ?_
    refine V_putI kc13 (pc2 := 51) 79 (dk D_X13_begins 29 rfl) fl_13_476 (by decide) (Or.inl rfl) rfl rfl h2 ?_
    have h := h _ rfl
    refine V_aload_n (pc2 := 52) (dk D_X13_begins 30 rfl) rfl (V_lg 0 rfl) rfl ?_
    refine V_iconst (x := 0) (pc2 := 53) (dk D_X13_begins 31 rfl) (by decide) rfl ?_
    refine V_putI kc13 (pc2 := 56) 80 (dk D_X13_begins 32 rfl) fl_13_479 (by decide) (Or.inl rfl) rfl rfl h2 ?_
    have h := h _ rfl
    refine V_aload_n (pc2 := 57) (dk D_X13_begins 33 rfl) rfl (V_lg 0 rfl) rfl ?_
    refine V_iconst (x := 0) (pc2 := 58) (dk D_X13_begins 34 rfl) (by decide) rfl ?_
    refine V_putI kc13 (pc2 := 61) 83 (dk D_X13_begins 35 rfl) fl_13_482 (by decide) (Or.inl rfl) rfl rfl h2 ?_
    have h := h _ rfl
    refine V_aload_n (pc2 := 62) (dk D_X13_begins 36 rfl) rfl (V_lg 0 rfl) rfl ?_
    refine V_iconst (x := 0) (pc2 := 63) (dk D_X13_begins 37 rfl) (by decide) rfl ?_
    refine V_putI kc13 (pc2 := 66) 87 (dk D_X13_begins 38 rfl) fl_13_485 (by decide) (Or.inl rfl) rfl rfl h2 ?_
    have h := h _ rfl
    refine V_aload_n (pc2 := 67) (dk D_X13_begins 39 rfl) rfl (V_lg 0 rfl) rfl ?_
    refine V_iconst (x := 0) (pc2 := 68) (dk D_X13_begins 40 rfl) (by decide) rfl ?_
    refine V_putI kc13 (pc2 := 71) 88 (dk D_X13_begins 41 rfl) fl_13_488 (by decide) (Or.inl rfl) rfl rfl h2 ?_
    have h := h _ rfl
    refine V_aload_n (pc2 := 72) (dk D_X13_begins 42 rfl) rfl (V_lg 0 rfl) rfl ?_
    refine V_bipush (x := (-9)) (pc2 := 74) (dk D_X13_begins 43 rfl) (by decide) rfl ?_
    refine V_putI kc13 (pc2 := 77) 97 (dk D_X13_begins 44 rfl) fl_13_491 (by decide) (Or.inl rfl) rfl rfl h2 ?_
    have h := h _ rfl
    exact V_return (dk D_X13_begins 45 rfl) rfl h
  · have h := h.2 q1
    refine V_aload_n (pc2 := 19) (dk D_X13_begins 11 rfl) rfl (V_lg 0 rfl) rfl ?_
    obtain ⟨h12, h⟩ := h
    refine V_getR kc13 (pc2 := 22) 59 (dk D_X13_begins 12 rfl) fl_13_192 (by decide) (fun _ => rfl) rfl h12 ?_
    refine V_iload_n (pc2 := 23) (dk D_X13_begins 13 rfl) rfl (V_lg 1 rfl) rfl ?_
    refine V_iconst (x := 0) (pc2 := 24) (dk D_X13_begins 14 rfl) (by decide) rfl ?_
    obtain ⟨h13, h⟩ := h
    obtain ⟨h14, h⟩ := h
    refine V_zast (pc2 := 25) (dk D_X13_begins 15 rfl) rfl h13 h14 (Or.inl rfl) ?_
    have h := h _ rfl
    refine V_iinc (y := _ + 1) (pc2 := 28) (lv2 := [(0, _), (1, _)]) (dk D_X13_begins 16 rfl) (V_lg 1 rfl) rfl (by decide) rfl rfl ?_
    refine V_goto (tgt := 12) (dk D_X13_begins 17 rfl) (by decide) ?_
    exact h
def L_X13_isVoice : List (Nat × Instr × Nat) := [(0, .iload_n 1, 1), (1, .iconst 1, 1), (2, .aload_n 0, 1), (3, .getfield 461, 3), (6, .invokestatic 292, 3), (9, .ireturn, 1)]
theorem D_X13_isVoice : dOk cX13_isVoice L_X13_isVoice = true := by decide +kernel
theorem w_X13_isVoice_0 {X : Cx} {d : Nat} {S : Mem} {Q : Res → Mem → Prop} (r0 : Nat) (x1 : Int32) (h : (isK S r0 13) ∧ ∃ e2 : Nat, e2 + 1 ≤ d ∧ C X e2 MX13_in [vI x1, vI 1, vI (gI S r0 47)] S (RI fun y5 S6 => (y5 = 0 ∨ y5 = 1) ∧ Q (.inl (some (vI y5))) S6)) : V X d MX13_isVoice 0 [(0, vR r0), (1, vI x1)] [] S Q := by
  refine V_iload_n (pc2 := 1) (dk D_X13_isVoice 0 rfl) rfl (V_lg 1 rfl) rfl ?_
  refine V_iconst (x := 1) (pc2 := 2) (dk D_X13_isVoice 1 rfl) (by decide) rfl ?_
  refine V_aload_n (pc2 := 3) (dk D_X13_isVoice 2 rfl) rfl (V_lg 0 rfl) rfl ?_
  obtain ⟨h1, h⟩ := h
  refine V_getI kc13 (pc2 := 6) 47 (dk D_X13_isVoice 3 rfl) fl_13_461 (by decide) (fun _ => rfl) rfl h1 ?_
  obtain ⟨e2, he3, hc4⟩ := h
  refine V_callS (as := [_, _, _]) (st := []) (M' := MX13_in) (pc2 := 9) (dk D_X13_isVoice 4 rfl) ml_13_292 mv_X13_in rfl rfl (Nat.le_of_ble_eq_true rfl) rfl he3 hc4 (RI.k fun y5 S6 h => ?_)
  obtain ⟨h7, h⟩ := h
  exact V_zreturn (dk D_X13_isVoice 5 rfl) rfl h7 h
def L_X13_isOver : List (Nat × Instr × Nat) := [(0, .aload_n 0, 1), (1, .getfield 161, 3), (4, .iload_n 1, 1), (5, .iaload, 1), (6, .iconst 4, 1), (7, .if_icmp .lt 7, 3), (10, .iconst 1, 1), (11, .goto 4, 3), (14, .iconst 0, 1), (15, .ireturn, 1)]
theorem D_X13_isOver : dOk cX13_isOver L_X13_isOver = true := by decide +kernel
theorem w_X13_isOver_0 {X : Cx} {d : Nat} {S : Mem} {Q : Res → Mem → Prop} (r0 : Nat) (x1 : Int32) (h : (isK S r0 13) ∧ (isK S (gR S r0 49) 21) ∧ (vp_in x1 (gN S (gR S r0 49))) ∧ (((gI S (gR S r0 49) (x1 : Int32).toNatClampNeg) < 4 → V X d MX13_isOver 15 [(0, vR r0), (1, vI x1)] [vI 0] S Q) ∧ (¬ (gI S (gR S r0 49) (x1 : Int32).toNatClampNeg) < 4 → V X d MX13_isOver 15 [(0, vR r0), (1, vI x1)] [vI 1] S Q))) : V X d MX13_isOver 0 [(0, vR r0), (1, vI x1)] [] S Q := by
  refine V_aload_n (pc2 := 1) (dk D_X13_isOver 0 rfl) rfl (V_lg 0 rfl) rfl ?_
  obtain ⟨h1, h⟩ := h
  refine V_getR kc13 (pc2 := 4) 49 (dk D_X13_isOver 1 rfl) fl_13_161 (by decide) (fun _ => rfl) rfl h1 ?_
  refine V_iload_n (pc2 := 5) (dk D_X13_isOver 2 rfl) rfl (V_lg 1 rfl) rfl ?_
  obtain ⟨h2, h⟩ := h
  obtain ⟨h3, h⟩ := h
  refine V_iald (pc2 := 6) (dk D_X13_isOver 3 rfl) rfl h2 h3 ?_
  refine V_iconst (x := 4) (pc2 := 7) (dk D_X13_isOver 4 rfl) (by decide) rfl ?_
  refine V_cmplt (tgt := 14) (pc2 := 10) (dk D_X13_isOver 5 rfl) (by decide) rfl (fun q4 => ?_) (fun q4 => ?_)
  · have h := h.1 q4
    refine V_iconst (x := 0) (pc2 := 15) (dk D_X13_isOver 8 rfl) (by decide) rfl ?_
    exact h
  · have h := h.2 q4
    refine V_iconst (x := 1) (pc2 := 11) (dk D_X13_isOver 6 rfl) (by decide) rfl ?_
    refine V_goto (tgt := 15) (dk D_X13_isOver 7 rfl) (by decide) ?_
    exact h
theorem w_X13_isOver_15 {X : Cx} {d : Nat} {S : Mem} {Q : Res → Mem → Prop} (r0 : Nat) (x1 : Int32) (t0 : Int32) (h : (t0 = 0 ∨ t0 = 1) ∧ Q (.inl (some (vI t0))) S) : V X d MX13_isOver 15 [(0, vR r0), (1, vI x1)] [vI t0] S Q := by
  obtain ⟨h1, h⟩ := h
  exact V_zreturn (dk D_X13_isOver 9 rfl) rfl h1 h
def L_X13_made : List (Nat × Instr × Nat) := [(0, .aload_n 0, 1), (1, .dup, 1), (2, .getfield 461, 3), (5, .iconst 1, 1), (6, .iadd, 1), (7, .putfield 461, 3), (10, .aload_n 0, 1), (11, .getfield 461, 3), (14, .istore 4, 2), (16, .aload_n 0, 1), (17, .dup, 1), (18, .getfield 464, 3), (21, .iconst 1, 1), (22, .iadd, 1), (23, .putfield 464, 3), (26, .aload_n 0, 1), (27, .getfield 161, 3), (30, .iload 4, 2), (32, .iconst 0, 1), (33, .iastore, 1), (34, .aload_n 0, 1), (35, .getfield 164, 3), (38, .iload 4, 2), (40, .iload_n 1, 1), (41, .iastore, 1), (42, .aload_n 0, 1), (43, .getfield 167, 3), (46, .iload 4, 2), (48, .aload_n 0, 1), (49, .getfield 107, 3), (52, .iload_n 1, 1), (53, .iaload, 1), (54, .ifCond .le 7, 3), (57, .iload_n 2, 1), (58, .goto 4, 3), (61, .iconst 0, 1), (62, .iastore, 1), (63, .aload_n 0, 1), (64, .getfield 170, 3), (67, .iload 4, 2), (69, .iconst 0, 1), (70, .iastore, 1), (71, .aload_n 0, 1), (72, .getfield 173, 3), (75, .iload 4, 2), (77, .iconst 0, 1), (78, .iastore, 1), (79, .aload_n 0, 1), (80, .getfield 176, 3), (83, .iload 4, 2), (85, .bipush (-9), 2), (87, .iastore, 1), (88, .aload_n 0, 1), (89, .getfield 179, 3), (92, .iload 4, 2), (94, .iload_n 3, 1), (95, .iastore, 1), (96, .aload_n 0, 1), (97, .getfield 182, 3), (100, .iload 4, 2), (102, .iconst 0, 1), (103, .iastore, 1), (104, .aload_n 0, 1), (105, .getfield 185, 3), (108, .iload 4, 2), (110, .iconst 0, 1), (111, .bastore, 1), (112, .aload_n 0, 1), (113, .getfield 189, 3), (116, .iload 4, 2), (118, .bipush (-9), 2), (120, .iastore, 1), (121, .iload 4, 2), (123, .ireturn, 1)]
theorem D_X13_made : dOk cX13_made L_X13_made = true := by decide +kernel
theorem w_X13_made_0 {X : Cx} {d : Nat} {S : Mem} {Q : Res → Mem → Prop} (r0 : Nat) (x1 : Int32) (x2 : Int32) (x3 : Int32) (h : (isK S r0 13) ∧ ∀ S2 : Mem, S2 = uI S r0 47 ((gI S r0 47) + 1) → ∀ S3 : Mem, S3 = uI S2 r0 48 ((gI S2 r0 48) + 1) → (isK S (gR S r0 49) 21) ∧ (vp_in (gI S2 r0 47) (gN S (gR S r0 49))) ∧ ∀ S6 : Mem, S6 = uI S3 (gR S r0 49) (((gI S2 r0 47) : Int32).toNatClampNeg) 0 → (isK S (gR S r0 50) 21) ∧ (vp_in (gI S2 r0 47) (gN S (gR S r0 50))) ∧ ∀ S9 : Mem, S9 = uI S6 (gR S r0 50) (((gI S2 r0 47) : Int32).toNatClampNeg) x1 → (isK S (gR S r0 20) 21) ∧ (vp_in x1 (gN S (gR S r0 20))) ∧ (((gI S9 (gR S r0 20) (x1 : Int32).toNatClampNeg) ≤ 0 → V X d MX13_made 62 [(0, vR r0), (1, vI x1), (2, vI x2), (3, vI x3), (4, vI (gI S2 r0 47))] [vI 0, vI (gI S2 r0 47), vR (gR S r0 51)] S9 Q) ∧ (¬ (gI S9 (gR S r0 20) (x1 : Int32).toNatClampNeg) ≤ 0 → V X d MX13_made 62 [(0, vR r0), (1, vI x1), (2, vI x2), (3, vI x3), (4, vI (gI S2 r0 47))] [vI x2, vI (gI S2 r0 47), vR (gR S r0 51)] S9 Q))) : V X d MX13_made 0 [(0, vR r0), (1, vI x1), (2, vI x2), (3, vI x3)] [] S Q := by
  refine V_aload_n (pc2 := 1) (dk D_X13_made 0 rfl) rfl (V_lg 0 rfl) rfl ?_
  refine V_dup (pc2 := 2) (dk D_X13_made 1 rfl) rfl rfl ?_
  obtain ⟨h1, h⟩ := h
  refine V_getI kc13 (pc2 := 5) 47 (dk D_X13_made 2 rfl) fl_13_461 (by decide) (fun _ => rfl) rfl h1 ?_
  refine V_iconst (x := 1) (pc2 := 6) (dk D_X13_made 3 rfl) (by decide) rfl ?_
  refine V_iadd (pc2 := 7) (dk D_X13_made 4 rfl) rfl ?_
  refine V_putI kc13 (pc2 := 10) 47 (dk D_X13_made 5 rfl) fl_13_461 (by decide) (Or.inl rfl) rfl rfl h1 ?_
  have h := h _ rfl
  refine V_aload_n (pc2 := 11) (dk D_X13_made 6 rfl) rfl (V_lg 0 rfl) rfl ?_
  refine V_getI kc13 (pc2 := 14) 47 (dk D_X13_made 7 rfl) fl_13_461 (by decide) (fun _ => rfl) rfl h1 ?_
  refine V_istore (pc2 := 16) (lv2 := [(0, _), (1, _), (2, _), (3, _), (4, _)]) (dk D_X13_made 8 rfl) (by decide) rfl rfl ?_
  refine V_aload_n (pc2 := 17) (dk D_X13_made 9 rfl) rfl (V_lg 0 rfl) rfl ?_
  refine V_dup (pc2 := 18) (dk D_X13_made 10 rfl) rfl rfl ?_
  refine V_getI kc13 (pc2 := 21) 48 (dk D_X13_made 11 rfl) fl_13_464 (by decide) (fun _ => rfl) rfl h1 ?_
  refine V_iconst (x := 1) (pc2 := 22) (dk D_X13_made 12 rfl) (by decide) rfl ?_
  refine V_iadd (pc2 := 23) (dk D_X13_made 13 rfl) rfl ?_
  refine V_putI kc13 (pc2 := 26) 48 (dk D_X13_made 14 rfl) fl_13_464 (by decide) (Or.inl rfl) rfl rfl h1 ?_
  have h := h _ rfl
  refine V_aload_n (pc2 := 27) (dk D_X13_made 15 rfl) rfl (V_lg 0 rfl) rfl ?_
  refine V_getR kc13 (pc2 := 30) 49 (dk D_X13_made 16 rfl) fl_13_161 (by decide) (fun _ => rfl) rfl h1 ?_
  refine V_iload (pc2 := 32) (dk D_X13_made 17 rfl) (V_lg 4 rfl) rfl ?_
  refine V_iconst (x := 0) (pc2 := 33) (dk D_X13_made 18 rfl) (by decide) rfl ?_
  obtain ⟨h4, h⟩ := h
  obtain ⟨h5, h⟩ := h
  refine V_iast (pc2 := 34) (dk D_X13_made 19 rfl) rfl h4 h5 ?_
  have h := h _ rfl
  refine V_aload_n (pc2 := 35) (dk D_X13_made 20 rfl) rfl (V_lg 0 rfl) rfl ?_
  refine V_getR kc13 (pc2 := 38) 50 (dk D_X13_made 21 rfl) fl_13_164 (by decide) (fun _ => rfl) rfl h1 ?_
  refine V_iload (pc2 := 40) (dk D_X13_made 22 rfl) (V_lg 4 rfl) rfl ?_
  refine V_iload_n (pc2 := 41) (dk D_X13_made 23 rfl) rfl (V_lg 1 rfl) rfl ?_
  obtain ⟨h7, h⟩ := h
  obtain ⟨h8, h⟩ := h
  refine V_iast (pc2 := 42) (dk D_X13_made 24 rfl) rfl h7 h8 ?_
  have h := h _ rfl
  refine V_aload_n (pc2 := 43) (dk D_X13_made 25 rfl) rfl (V_lg 0 rfl) rfl ?_
  refine V_getR kc13 (pc2 := 46) 51 (dk D_X13_made 26 rfl) fl_13_167 (by decide) (fun _ => rfl) rfl h1 ?_
  refine V_iload (pc2 := 48) (dk D_X13_made 27 rfl) (V_lg 4 rfl) rfl ?_
  refine V_aload_n (pc2 := 49) (dk D_X13_made 28 rfl) rfl (V_lg 0 rfl) rfl ?_
  refine V_getR kc13 (pc2 := 52) 20 (dk D_X13_made 29 rfl) fl_13_107 (by decide) (fun _ => rfl) rfl h1 ?_
  refine V_iload_n (pc2 := 53) (dk D_X13_made 30 rfl) rfl (V_lg 1 rfl) rfl ?_
  obtain ⟨h10, h⟩ := h
  obtain ⟨h11, h⟩ := h
  refine V_iald (pc2 := 54) (dk D_X13_made 31 rfl) rfl h10 h11 ?_
  refine V_ifle (tgt := 61) (pc2 := 57) (dk D_X13_made 32 rfl) (by decide) rfl (fun q12 => ?_) (fun q12 => ?_)
  · have h := h.1 q12
    refine V_iconst (x := 0) (pc2 := 62) (dk D_X13_made 35 rfl) (by decide) rfl ?_
    exact h
  · have h := h.2 q12
    refine V_iload_n (pc2 := 58) (dk D_X13_made 33 rfl) rfl (V_lg 2 rfl) rfl ?_
    refine V_goto (tgt := 62) (dk D_X13_made 34 rfl) (by decide) ?_
    exact h
theorem w_X13_made_62 {X : Cx} {d : Nat} {S : Mem} {Q : Res → Mem → Prop} (r0 : Nat) (x1 : Int32) (x2 : Int32) (x3 : Int32) (x4 : Int32) (t0 : Nat) (t1 : Int32) (t2 : Int32) (h : (isK S t0 21) ∧ (vp_in t1 (gN S t0)) ∧ ∀ S3 : Mem, S3 = uI S t0 ((t1 : Int32).toNatClampNeg) t2 → (isK S r0 13) ∧ (isK S (gR S r0 52) 21) ∧ (vp_in x4 (gN S (gR S r0 52))) ∧ ∀ S7 : Mem, S7 = uI S3 (gR S r0 52) ((x4 : Int32).toNatClampNeg) 0 → (isK S (gR S r0 53) 21) ∧ (vp_in x4 (gN S (gR S r0 53))) ∧ ∀ S10 : Mem, S10 = uI S7 (gR S r0 53) ((x4 : Int32).toNatClampNeg) 0 → (isK S (gR S r0 54) 21) ∧ (vp_in x4 (gN S (gR S r0 54))) ∧ ∀ S13 : Mem, S13 = uI S10 (gR S r0 54) ((x4 : Int32).toNatClampNeg) (-9) → (isK S (gR S r0 55) 21) ∧ (vp_in x4 (gN S (gR S r0 55))) ∧ ∀ S16 : Mem, S16 = uI S13 (gR S r0 55) ((x4 : Int32).toNatClampNeg) x3 → (isK S (gR S r0 56) 21) ∧ (vp_in x4 (gN S (gR S r0 56))) ∧ ∀ S19 : Mem, S19 = uI S16 (gR S r0 56) ((x4 : Int32).toNatClampNeg) 0 → (isK S (gR S r0 57) 23) ∧ (vp_in x4 (gN S (gR S r0 57))) ∧ ∀ S22 : Mem, S22 = uI S19 (gR S r0 57) ((x4 : Int32).toNatClampNeg) 0 → (isK S (gR S r0 58) 21) ∧ (vp_in x4 (gN S (gR S r0 58))) ∧ ∀ S25 : Mem, S25 = uI S22 (gR S r0 58) ((x4 : Int32).toNatClampNeg) (-9) → Q (.inl (some (vI x4))) S25) : V X d MX13_made 62 [(0, vR r0), (1, vI x1), (2, vI x2), (3, vI x3), (4, vI x4)] [vI t2, vI t1, vR t0] S Q := by
  obtain ⟨h1, h⟩ := h
  obtain ⟨h2, h⟩ := h
  refine V_iast (pc2 := 63) (dk D_X13_made 36 rfl) rfl h1 h2 ?_
  have h := h _ rfl
  refine V_aload_n (pc2 := 64) (dk D_X13_made 37 rfl) rfl (V_lg 0 rfl) rfl ?_
  obtain ⟨h4, h⟩ := h
  refine V_getR kc13 (pc2 := 67) 52 (dk D_X13_made 38 rfl) fl_13_170 (by decide) (fun _ => rfl) rfl h4 ?_
  refine V_iload (pc2 := 69) (dk D_X13_made 39 rfl) (V_lg 4 rfl) rfl ?_
  refine V_iconst (x := 0) (pc2 := 70) (dk D_X13_made 40 rfl) (by decide) rfl ?_
  obtain ⟨h5, h⟩ := h
  obtain ⟨h6, h⟩ := h
  refine V_iast (pc2 := 71) (dk D_X13_made 41 rfl) rfl h5 h6 ?_
  have h := h _ rfl
  refine V_aload_n (pc2 := 72) (dk D_X13_made 42 rfl) rfl (V_lg 0 rfl) rfl ?_
  refine V_getR kc13 (pc2 := 75) 53 (dk D_X13_made 43 rfl) fl_13_173 (by decide) (fun _ => rfl) rfl h4 ?_
  refine V_iload (pc2 := 77) (dk D_X13_made 44 rfl) (V_lg 4 rfl) rfl ?_
  refine V_iconst (x := 0) (pc2 := 78) (dk D_X13_made 45 rfl) (by decide) rfl ?_
  obtain ⟨h8, h⟩ := h
  obtain ⟨h9, h⟩ := h
  refine V_iast (pc2 := 79) (dk D_X13_made 46 rfl) rfl h8 h9 ?_
  have h := h _ rfl
  refine V_aload_n (pc2 := 80) (dk D_X13_made 47 rfl) rfl (V_lg 0 rfl) rfl ?_
  refine V_getR kc13 (pc2 := 83) 54 (dk D_X13_made 48 rfl) fl_13_176 (by decide) (fun _ => rfl) rfl h4 ?_
  refine V_iload (pc2 := 85) (dk D_X13_made 49 rfl) (V_lg 4 rfl) rfl ?_
  refine V_bipush (x := (-9)) (pc2 := 87) (dk D_X13_made 50 rfl) (by decide) rfl ?_
  obtain ⟨h11, h⟩ := h
  obtain ⟨h12, h⟩ := h
  refine V_iast (pc2 := 88) (dk D_X13_made 51 rfl) rfl h11 h12 ?_
  have h := h _ rfl
  refine V_aload_n (pc2 := 89) (dk D_X13_made 52 rfl) rfl (V_lg 0 rfl) rfl ?_
  refine V_getR kc13 (pc2 := 92) 55 (dk D_X13_made 53 rfl) fl_13_179 (by decide) (fun _ => rfl) rfl h4 ?_
  refine V_iload (pc2 := 94) (dk D_X13_made 54 rfl) (V_lg 4 rfl) rfl ?_
  refine V_iload_n (pc2 := 95) (dk D_X13_made 55 rfl) rfl (V_lg 3 rfl) rfl ?_
  obtain ⟨h14, h⟩ := h
  obtain ⟨h15, h⟩ := h
  refine V_iast (pc2 := 96) (dk D_X13_made 56 rfl) rfl h14 h15 ?_
  have h := h _ rfl
  refine V_aload_n (pc2 := 97) (dk D_X13_made 57 rfl) rfl (V_lg 0 rfl) rfl ?_
  refine V_getR kc13 (pc2 := 100) 56 (dk D_X13_made 58 rfl) fl_13_182 (by decide) (fun _ => rfl) rfl h4 ?_
  refine V_iload (pc2 := 102) (dk D_X13_made 59 rfl) (V_lg 4 rfl) rfl ?_
  refine V_iconst (x := 0) (pc2 := 103) (dk D_X13_made 60 rfl) (by decide) rfl ?_
  obtain ⟨h17, h⟩ := h
  obtain ⟨h18, h⟩ := h
  refine V_iast (pc2 := 104) (dk D_X13_made 61 rfl) rfl h17 h18 ?_
  have h := h _ rfl
  refine V_aload_n (pc2 := 105) (dk D_X13_made 62 rfl) rfl (V_lg 0 rfl) rfl ?_
  refine V_getR kc13 (pc2 := 108) 57 (dk D_X13_made 63 rfl) fl_13_185 (by decide) (fun _ => rfl) rfl h4 ?_
  refine V_iload (pc2 := 110) (dk D_X13_made 64 rfl) (V_lg 4 rfl) rfl ?_
  refine V_iconst (x := 0) (pc2 := 111) (dk D_X13_made 65 rfl) (by decide) rfl ?_
  obtain ⟨h20, h⟩ := h
  obtain ⟨h21, h⟩ := h
  refine V_zast (pc2 := 112) (dk D_X13_made 66 rfl) rfl h20 h21 (Or.inl rfl) ?_
  have h := h _ rfl
  refine V_aload_n (pc2 := 113) (dk D_X13_made 67 rfl) rfl (V_lg 0 rfl) rfl ?_
  refine V_getR kc13 (pc2 := 116) 58 (dk D_X13_made 68 rfl) fl_13_189 (by decide) (fun _ => rfl) rfl h4 ?_
  refine V_iload (pc2 := 118) (dk D_X13_made 69 rfl) (V_lg 4 rfl) rfl ?_
  refine V_bipush (x := (-9)) (pc2 := 120) (dk D_X13_made 70 rfl) (by decide) rfl ?_
  obtain ⟨h23, h⟩ := h
  obtain ⟨h24, h⟩ := h
  refine V_iast (pc2 := 121) (dk D_X13_made 71 rfl) rfl h23 h24 ?_
  have h := h _ rfl
  refine V_iload (pc2 := 123) (dk D_X13_made 72 rfl) (V_lg 4 rfl) rfl ?_
  exact V_ireturn (dk D_X13_made 73 rfl) rfl h
def L_X13_failure : List (Nat × Instr × Nat) := [(0, .aload_n 0, 1), (1, .getfield 488, 3), (4, .istore 6, 2), (6, .aload_n 0, 1), (7, .dup, 1), (8, .getfield 488, 3), (11, .iconst 1, 1), (12, .iadd, 1), (13, .putfield 488, 3), (16, .aload_n 0, 1), (17, .getfield 256, 3), (20, .iload 6, 2), (22, .iload_n 1, 1), (23, .iastore, 1), (24, .aload_n 0, 1), (25, .getfield 259, 3), (28, .iload 6, 2), (30, .iload_n 2, 1), (31, .iastore, 1), (32, .aload_n 0, 1), (33, .getfield 262, 3), (36, .iload 6, 2), (38, .iload_n 3, 1), (39, .iastore, 1), (40, .aload_n 0, 1), (41, .getfield 265, 3), (44, .iload 6, 2), (46, .iload 4, 2), (48, .iastore, 1), (49, .aload_n 0, 1), (50, .getfield 268, 3), (53, .iload 6, 2), (55, .iload 5, 2), (57, .iastore, 1), (58, .aload_n 0, 1), (59, .getfield 271, 3), (62, .iload 6, 2), (64, .bipush (-9), 2), (66, .iastore, 1), (67, .aload_n 0, 1), (68, .getfield 274, 3), (71, .iload 6, 2), (73, .bipush (-9), 2), (75, .iastore, 1), (76, .aload_n 0, 1), (77, .getfield 277, 3), (80, .iload 6, 2), (82, .bipush (-9), 2), (84, .iastore, 1), (85, .iload 6, 2), (87, .ireturn, 1)]
theorem D_X13_failure : dOk cX13_failure L_X13_failure = true := by decide +kernel
theorem w_X13_failure_0 {X : Cx} {d : Nat} {S : Mem} {Q : Res → Mem → Prop} (r0 : Nat) (x1 : Int32) (x2 : Int32) (x3 : Int32) (x4 : Int32) (x5 : Int32) (h : (isK S r0 13) ∧ ∀ S2 : Mem, S2 = uI S r0 88 ((gI S r0 88) + 1) → (isK S (gR S r0 89) 21) ∧ (vp_in (gI S r0 88) (gN S (gR S r0 89))) ∧ ∀ S5 : Mem, S5 = uI S2 (gR S r0 89) (((gI S r0 88) : Int32).toNatClampNeg) x1 → (isK S (gR S r0 90) 21) ∧ (vp_in (gI S r0 88) (gN S (gR S r0 90))) ∧ ∀ S8 : Mem, S8 = uI S5 (gR S r0 90) (((gI S r0 88) : Int32).toNatClampNeg) x2 → (isK S (gR S r0 91) 21) ∧ (vp_in (gI S r0 88) (gN S (gR S r0 91))) ∧ ∀ S11 : Mem, S11 = uI S8 (gR S r0 91) (((gI S r0 88) : Int32).toNatClampNeg) x3 → (isK S (gR S r0 92) 21) ∧ (vp_in (gI S r0 88) (gN S (gR S r0 92))) ∧ ∀ S14 : Mem, S14 = uI S11 (gR S r0 92) (((gI S r0 88) : Int32).toNatClampNeg) x4 → (isK S (gR S r0 93) 21) ∧ (vp_in (gI S r0 88) (gN S (gR S r0 93))) ∧ ∀ S17 : Mem, S17 = uI S14 (gR S r0 93) (((gI S r0 88) : Int32).toNatClampNeg) x5 → (isK S (gR S r0 94) 21) ∧ (vp_in (gI S r0 88) (gN S (gR S r0 94))) ∧ ∀ S20 : Mem, S20 = uI S17 (gR S r0 94) (((gI S r0 88) : Int32).toNatClampNeg) (-9) → (isK S (gR S r0 95) 21) ∧ (vp_in (gI S r0 88) (gN S (gR S r0 95))) ∧ ∀ S23 : Mem, S23 = uI S20 (gR S r0 95) (((gI S r0 88) : Int32).toNatClampNeg) (-9) → (isK S (gR S r0 96) 21) ∧ (vp_in (gI S r0 88) (gN S (gR S r0 96))) ∧ ∀ S26 : Mem, S26 = uI S23 (gR S r0 96) (((gI S r0 88) : Int32).toNatClampNeg) (-9) → Q (.inl (some (vI (gI S r0 88)))) S26) : V X d MX13_failure 0 [(0, vR r0), (1, vI x1), (2, vI x2), (3, vI x3), (4, vI x4), (5, vI x5)] [] S Q := by
  refine V_aload_n (pc2 := 1) (dk D_X13_failure 0 rfl) rfl (V_lg 0 rfl) rfl ?_
  obtain ⟨h1, h⟩ := h
  refine V_getI kc13 (pc2 := 4) 88 (dk D_X13_failure 1 rfl) fl_13_488 (by decide) (fun _ => rfl) rfl h1 ?_
  refine V_istore (pc2 := 6) (lv2 := [(0, _), (1, _), (2, _), (3, _), (4, _), (5, _), (6, _)]) (dk D_X13_failure 2 rfl) (by decide) rfl rfl ?_
  refine V_aload_n (pc2 := 7) (dk D_X13_failure 3 rfl) rfl (V_lg 0 rfl) rfl ?_
  refine V_dup (pc2 := 8) (dk D_X13_failure 4 rfl) rfl rfl ?_
  refine V_getI kc13 (pc2 := 11) 88 (dk D_X13_failure 5 rfl) fl_13_488 (by decide) (fun _ => rfl) rfl h1 ?_
  refine V_iconst (x := 1) (pc2 := 12) (dk D_X13_failure 6 rfl) (by decide) rfl ?_
  refine V_iadd (pc2 := 13) (dk D_X13_failure 7 rfl) rfl ?_
  refine V_putI kc13 (pc2 := 16) 88 (dk D_X13_failure 8 rfl) fl_13_488 (by decide) (Or.inl rfl) rfl rfl h1 ?_
  have h := h _ rfl
  refine V_aload_n (pc2 := 17) (dk D_X13_failure 9 rfl) rfl (V_lg 0 rfl) rfl ?_
  refine V_getR kc13 (pc2 := 20) 89 (dk D_X13_failure 10 rfl) fl_13_256 (by decide) (fun _ => rfl) rfl h1 ?_
  refine V_iload (pc2 := 22) (dk D_X13_failure 11 rfl) (V_lg 6 rfl) rfl ?_
  refine V_iload_n (pc2 := 23) (dk D_X13_failure 12 rfl) rfl (V_lg 1 rfl) rfl ?_
  obtain ⟨h3, h⟩ := h
  obtain ⟨h4, h⟩ := h
  refine V_iast (pc2 := 24) (dk D_X13_failure 13 rfl) rfl h3 h4 ?_
  have h := h _ rfl
  refine V_aload_n (pc2 := 25) (dk D_X13_failure 14 rfl) rfl (V_lg 0 rfl) rfl ?_
  refine V_getR kc13 (pc2 := 28) 90 (dk D_X13_failure 15 rfl) fl_13_259 (by decide) (fun _ => rfl) rfl h1 ?_
  refine V_iload (pc2 := 30) (dk D_X13_failure 16 rfl) (V_lg 6 rfl) rfl ?_
  refine V_iload_n (pc2 := 31) (dk D_X13_failure 17 rfl) rfl (V_lg 2 rfl) rfl ?_
  obtain ⟨h6, h⟩ := h
  obtain ⟨h7, h⟩ := h
  refine V_iast (pc2 := 32) (dk D_X13_failure 18 rfl) rfl h6 h7 ?_
  have h := h _ rfl
  refine V_aload_n (pc2 := 33) (dk D_X13_failure 19 rfl) rfl (V_lg 0 rfl) rfl ?_
  refine V_getR kc13 (pc2 := 36) 91 (dk D_X13_failure 20 rfl) fl_13_262 (by decide) (fun _ => rfl) rfl h1 ?_
  refine V_iload (pc2 := 38) (dk D_X13_failure 21 rfl) (V_lg 6 rfl) rfl ?_
  refine V_iload_n (pc2 := 39) (dk D_X13_failure 22 rfl) rfl (V_lg 3 rfl) rfl ?_
  obtain ⟨h9, h⟩ := h
  obtain ⟨h10, h⟩ := h
  refine V_iast (pc2 := 40) (dk D_X13_failure 23 rfl) rfl h9 h10 ?_
  have h := h _ rfl
  refine V_aload_n (pc2 := 41) (dk D_X13_failure 24 rfl) rfl (V_lg 0 rfl) rfl ?_
  refine V_getR kc13 (pc2 := 44) 92 (dk D_X13_failure 25 rfl) fl_13_265 (by decide) (fun _ => rfl) rfl h1 ?_
  refine V_iload (pc2 := 46) (dk D_X13_failure 26 rfl) (V_lg 6 rfl) rfl ?_
  refine V_iload (pc2 := 48) (dk D_X13_failure 27 rfl) (V_lg 4 rfl) rfl ?_
  obtain ⟨h12, h⟩ := h
  obtain ⟨h13, h⟩ := h
  refine V_iast (pc2 := 49) (dk D_X13_failure 28 rfl) rfl h12 h13 ?_
  have h := h _ rfl
  refine V_aload_n (pc2 := 50) (dk D_X13_failure 29 rfl) rfl (V_lg 0 rfl) rfl ?_
  refine V_getR kc13 (pc2 := 53) 93 (dk D_X13_failure 30 rfl) fl_13_268 (by decide) (fun _ => rfl) rfl h1 ?_
  refine V_iload (pc2 := 55) (dk D_X13_failure 31 rfl) (V_lg 6 rfl) rfl ?_
  refine V_iload (pc2 := 57) (dk D_X13_failure 32 rfl) (V_lg 5 rfl) rfl ?_
  obtain ⟨h15, h⟩ := h
  obtain ⟨h16, h⟩ := h
  refine V_iast (pc2 := 58) (dk D_X13_failure 33 rfl) rfl h15 h16 ?_
  have h := h _ rfl
  refine V_aload_n (pc2 := 59) (dk D_X13_failure 34 rfl) rfl (V_lg 0 rfl) rfl ?_
  refine V_getR kc13 (pc2 := 62) 94 (dk D_X13_failure 35 rfl) fl_13_271 (by decide) (fun _ => rfl) rfl h1 ?_
  refine V_iload (pc2 := 64) (dk D_X13_failure 36 rfl) (V_lg 6 rfl) rfl ?_
  refine V_bipush (x := (-9)) (pc2 := 66) (dk D_X13_failure 37 rfl) (by decide) rfl ?_
  obtain ⟨h18, h⟩ := h
  obtain ⟨h19, h⟩ := h
  refine V_iast (pc2 := 67) (dk D_X13_failure 38 rfl) rfl h18 h19 ?_
  have h := h _ rfl
  refine V_aload_n (pc2 := 68) (dk D_X13_failure 39 rfl) rfl (V_lg 0 rfl) rfl ?_
  refine V_getR kc13 (pc2 := 71) 95 (dk D_X13_failure 40 rfl) fl_13_274 (by decide) (fun _ => rfl) rfl h1 ?_
  refine V_iload (pc2 := 73) (dk D_X13_failure 41 rfl) (V_lg 6 rfl) rfl ?_
  refine V_bipush (x := (-9)) (pc2 := 75) (dk D_X13_failure 42 rfl) (by decide) rfl ?_
  obtain ⟨h21, h⟩ := h
  obtain ⟨h22, h⟩ := h
  refine V_iast (pc2 := 76) (dk D_X13_failure 43 rfl) rfl h21 h22 ?_
  have h := h _ rfl
  refine V_aload_n (pc2 := 77) (dk D_X13_failure 44 rfl) rfl (V_lg 0 rfl) rfl ?_
  refine V_getR kc13 (pc2 := 80) 96 (dk D_X13_failure 45 rfl) fl_13_277 (by decide) (fun _ => rfl) rfl h1 ?_
  refine V_iload (pc2 := 82) (dk D_X13_failure 46 rfl) (V_lg 6 rfl) rfl ?_
  refine V_bipush (x := (-9)) (pc2 := 84) (dk D_X13_failure 47 rfl) (by decide) rfl ?_
  obtain ⟨h24, h⟩ := h
  obtain ⟨h25, h⟩ := h
  refine V_iast (pc2 := 85) (dk D_X13_failure 48 rfl) rfl h24 h25 ?_
  have h := h _ rfl
  refine V_iload (pc2 := 87) (dk D_X13_failure 49 rfl) (V_lg 6 rfl) rfl ?_
  exact V_ireturn (dk D_X13_failure 50 rfl) rfl h
def L_X13_hands : List (Nat × Instr × Nat) := [(0, .aload_n 0, 1), (1, .getfield 482, 3), (4, .sipush 300, 3), (7, .if_icmp .ge 23, 3), (10, .aload_n 0, 1), (11, .getfield 247, 3), (14, .aload_n 0, 1), (15, .getfield 482, 3), (18, .iload_n 1, 1), (19, .iastore, 1), (20, .aload_n 0, 1), (21, .getfield 250, 3), (24, .aload_n 0, 1), (25, .getfield 482, 3), (28, .iload_n 2, 1), (29, .iastore, 1), (30, .aload_n 0, 1), (31, .dup, 1), (32, .getfield 482, 3), (35, .iconst 1, 1), (36, .iadd, 1), (37, .putfield 482, 3), (40, .return_, 1)]
theorem D_X13_hands : dOk cX13_hands L_X13_hands = true := by decide +kernel
theorem w_X13_hands_0 {X : Cx} {d : Nat} {S : Mem} {Q : Res → Mem → Prop} (r0 : Nat) (x1 : Int32) (x2 : Int32) (h : (isK S r0 13) ∧ ((300 ≤ (gI S r0 83) → V X d MX13_hands 30 [(0, vR r0), (1, vI x1), (2, vI x2)] [] S Q) ∧ (¬ 300 ≤ (gI S r0 83) → (isK S (gR S r0 84) 21) ∧ (vp_in (gI S r0 83) (gN S (gR S r0 84))) ∧ ∀ S5 : Mem, S5 = uI S (gR S r0 84) (((gI S r0 83) : Int32).toNatClampNeg) x1 → (isK S (gR S r0 85) 21) ∧ (vp_in (gI S5 r0 83) (gN S (gR S r0 85))) ∧ ∀ S8 : Mem, S8 = uI S5 (gR S r0 85) (((gI S5 r0 83) : Int32).toNatClampNeg) x2 → V X d MX13_hands 30 [(0, vR r0), (1, vI x1), (2, vI x2)] [] S8 Q))) : V X d MX13_hands 0 [(0, vR r0), (1, vI x1), (2, vI x2)] [] S Q := by
  refine V_aload_n (pc2 := 1) (dk D_X13_hands 0 rfl) rfl (V_lg 0 rfl) rfl ?_
  obtain ⟨h1, h⟩ := h
  refine V_getI kc13 (pc2 := 4) 83 (dk D_X13_hands 1 rfl) fl_13_482 (by decide) (fun _ => rfl) rfl h1 ?_
  refine V_sipush (x := 300) (pc2 := 7) (dk D_X13_hands 2 rfl) (by decide) rfl ?_
  refine V_cmpge (tgt := 30) (pc2 := 10) (dk D_X13_hands 3 rfl) (by decide) rfl (fun q2 => ?_) (fun q2 => ?_)
  · have h := h.1 q2
    exact h
  · have h := h.2 q2
    refine V_aload_n (pc2 := 11) (dk D_X13_hands 4 rfl) rfl (V_lg 0 rfl) rfl ?_
    refine V_getR kc13 (pc2 := 14) 84 (dk D_X13_hands 5 rfl) fl_13_247 (by decide) (fun _ => rfl) rfl h1 ?_
    refine V_aload_n (pc2 := 15) (dk D_X13_hands 6 rfl) rfl (V_lg 0 rfl) rfl ?_
    refine V_getI kc13 (pc2 := 18) 83 (dk D_X13_hands 7 rfl) fl_13_482 (by decide) (fun _ => rfl) rfl h1 ?_
    refine V_iload_n (pc2 := 19) (dk D_X13_hands 8 rfl) rfl (V_lg 1 rfl) rfl ?_
    obtain ⟨h3, h⟩ := h
    obtain ⟨h4, h⟩ := h
    refine V_iast (pc2 := 20) (dk D_X13_hands 9 rfl) rfl h3 h4 ?_
    have h := h _ rfl
    refine V_aload_n (pc2 := 21) (dk D_X13_hands 10 rfl) rfl (V_lg 0 rfl) rfl ?_
    refine V_getR kc13 (pc2 := 24) 85 (dk D_X13_hands 11 rfl) fl_13_250 (by decide) (fun _ => rfl) rfl h1 ?_
    refine V_aload_n (pc2 := 25) (dk D_X13_hands 12 rfl) rfl (V_lg 0 rfl) rfl ?_
    refine V_getI kc13 (pc2 := 28) 83 (dk D_X13_hands 13 rfl) fl_13_482 (by decide) (fun _ => rfl) rfl h1 ?_
    refine V_iload_n (pc2 := 29) (dk D_X13_hands 14 rfl) rfl (V_lg 2 rfl) rfl ?_
    obtain ⟨h6, h⟩ := h
    obtain ⟨h7, h⟩ := h
    refine V_iast (pc2 := 30) (dk D_X13_hands 15 rfl) rfl h6 h7 ?_
    have h := h _ rfl
    exact h
theorem w_X13_hands_30 {X : Cx} {d : Nat} {S : Mem} {Q : Res → Mem → Prop} (r0 : Nat) (x1 : Int32) (x2 : Int32) (h : (isK S r0 13) ∧ ∀ S2 : Mem, S2 = uI S r0 83 ((gI S r0 83) + 1) → Q (.inl none) S2) : V X d MX13_hands 30 [(0, vR r0), (1, vI x1), (2, vI x2)] [] S Q := by
  refine V_aload_n (pc2 := 31) (dk D_X13_hands 16 rfl) rfl (V_lg 0 rfl) rfl ?_
  refine V_dup (pc2 := 32) (dk D_X13_hands 17 rfl) rfl rfl ?_
  obtain ⟨h1, h⟩ := h
  refine V_getI kc13 (pc2 := 35) 83 (dk D_X13_hands 18 rfl) fl_13_482 (by decide) (fun _ => rfl) rfl h1 ?_
  refine V_iconst (x := 1) (pc2 := 36) (dk D_X13_hands 19 rfl) (by decide) rfl ?_
  refine V_iadd (pc2 := 37) (dk D_X13_hands 20 rfl) rfl ?_
  refine V_putI kc13 (pc2 := 40) 83 (dk D_X13_hands 21 rfl) fl_13_482 (by decide) (Or.inl rfl) rfl rfl h1 ?_
  have h := h _ rfl
  exact V_return (dk D_X13_hands 22 rfl) rfl h
def L_X13_call : List (Nat × Instr × Nat) := [(0, .bipush 60, 2), (2, .aload_n 0, 1), (3, .getfield 189, 3), (6, .iload_n 1, 1), (7, .iaload, 1), (8, .imul, 1), (9, .aload_n 0, 1), (10, .getfield 195, 3), (13, .aload_n 0, 1), (14, .getfield 189, 3), (17, .iload_n 1, 1), (18, .iaload, 1), (19, .iaload, 1), (20, .iadd, 1), (21, .iconst 1, 1), (22, .isub, 1), (23, .ireturn, 1)]
theorem D_X13_call : dOk cX13_call L_X13_call = true := by decide +kernel
theorem w_X13_call_0 {X : Cx} {d : Nat} {S : Mem} {Q : Res → Mem → Prop} (r0 : Nat) (x1 : Int32) (h : (isK S r0 13) ∧ (isK S (gR S r0 58) 21) ∧ (vp_in x1 (gN S (gR S r0 58))) ∧ (vp_in x1 (gN S (gR S r0 58))) ∧ (isK S (gR S r0 60) 21) ∧ (vp_in (gI S (gR S r0 58) (x1 : Int32).toNatClampNeg) (gN S (gR S r0 60))) ∧ Q (.inl (some (vI (((60 * (gI S (gR S r0 58) (x1 : Int32).toNatClampNeg)) + (gI S (gR S r0 60) ((gI S (gR S r0 58) (x1 : Int32).toNatClampNeg) : Int32).toNatClampNeg)) - 1)))) S) : V X d MX13_call 0 [(0, vR r0), (1, vI x1)] [] S Q := by
  refine V_bipush (x := 60) (pc2 := 2) (dk D_X13_call 0 rfl) (by decide) rfl ?_
  refine V_aload_n (pc2 := 3) (dk D_X13_call 1 rfl) rfl (V_lg 0 rfl) rfl ?_
  obtain ⟨h1, h⟩ := h
  refine V_getR kc13 (pc2 := 6) 58 (dk D_X13_call 2 rfl) fl_13_189 (by decide) (fun _ => rfl) rfl h1 ?_
  refine V_iload_n (pc2 := 7) (dk D_X13_call 3 rfl) rfl (V_lg 1 rfl) rfl ?_
  obtain ⟨h2, h⟩ := h
  obtain ⟨h3, h⟩ := h
  refine V_iald (pc2 := 8) (dk D_X13_call 4 rfl) rfl h2 h3 ?_
  refine V_imul (pc2 := 9) (dk D_X13_call 5 rfl) rfl ?_
  refine V_aload_n (pc2 := 10) (dk D_X13_call 6 rfl) rfl (V_lg 0 rfl) rfl ?_
  refine V_getR kc13 (pc2 := 13) 60 (dk D_X13_call 7 rfl) fl_13_195 (by decide) (fun _ => rfl) rfl h1 ?_
  refine V_aload_n (pc2 := 14) (dk D_X13_call 8 rfl) rfl (V_lg 0 rfl) rfl ?_
  refine V_getR kc13 (pc2 := 17) 58 (dk D_X13_call 9 rfl) fl_13_189 (by decide) (fun _ => rfl) rfl h1 ?_
  refine V_iload_n (pc2 := 18) (dk D_X13_call 10 rfl) rfl (V_lg 1 rfl) rfl ?_
  obtain ⟨h4, h⟩ := h
  refine V_iald (pc2 := 19) (dk D_X13_call 11 rfl) rfl h2 h4 ?_
  obtain ⟨h5, h⟩ := h
  obtain ⟨h6, h⟩ := h
  refine V_iald (pc2 := 20) (dk D_X13_call 12 rfl) rfl h5 h6 ?_
  refine V_iadd (pc2 := 21) (dk D_X13_call 13 rfl) rfl ?_
  refine V_iconst (x := 1) (pc2 := 22) (dk D_X13_call 14 rfl) (by decide) rfl ?_
  refine V_isub (pc2 := 23) (dk D_X13_call 15 rfl) rfl ?_
  exact V_ireturn (dk D_X13_call 16 rfl) rfl h
def L_X13_push : List (Nat × Instr × Nat) := [(0, .aload_n 0, 1), (1, .getfield 189, 3), (4, .iload_n 1, 1), (5, .iaload, 1), (6, .istore_n 3, 1), (7, .aload_n 0, 1), (8, .getfield 238, 3), (11, .sipush 10200, 3), (14, .iload_n 3, 1), (15, .imul, 1), (16, .aload_n 0, 1), (17, .getfield 234, 3), (20, .iload_n 3, 1), (21, .iaload, 1), (22, .iadd, 1), (23, .iload_n 2, 1), (24, .iastore, 1), (25, .aload_n 0, 1), (26, .getfield 234, 3), (29, .iload_n 3, 1), (30, .dup2, 1), (31, .iaload, 1), (32, .iconst 1, 1), (33, .iadd, 1), (34, .iastore, 1), (35, .return_, 1)]
theorem D_X13_push : dOk cX13_push L_X13_push = true := by decide +kernel
theorem w_X13_push_0 {X : Cx} {d : Nat} {S : Mem} {Q : Res → Mem → Prop} (r0 : Nat) (x1 : Int32) (x2 : Int32) (h : (isK S r0 13) ∧ (isK S (gR S r0 58) 21) ∧ (vp_in x1 (gN S (gR S r0 58))) ∧ (isK S (gR S r0 73) 21) ∧ (vp_in (gI S (gR S r0 58) (x1 : Int32).toNatClampNeg) (gN S (gR S r0 73))) ∧ (isK S (gR S r0 74) 21) ∧ (vp_in ((10200 * (gI S (gR S r0 58) (x1 : Int32).toNatClampNeg)) + (gI S (gR S r0 73) ((gI S (gR S r0 58) (x1 : Int32).toNatClampNeg) : Int32).toNatClampNeg)) (gN S (gR S r0 74))) ∧ ∀ S8 : Mem, S8 = uI S (gR S r0 74) ((((10200 * (gI S (gR S r0 58) (x1 : Int32).toNatClampNeg)) + (gI S (gR S r0 73) ((gI S (gR S r0 58) (x1 : Int32).toNatClampNeg) : Int32).toNatClampNeg)) : Int32).toNatClampNeg) x2 → (vp_in (gI S (gR S r0 58) (x1 : Int32).toNatClampNeg) (gN S (gR S r0 73))) ∧ (vp_in (gI S (gR S r0 58) (x1 : Int32).toNatClampNeg) (gN S (gR S r0 73))) ∧ ∀ S11 : Mem, S11 = uI S8 (gR S r0 73) (((gI S (gR S r0 58) (x1 : Int32).toNatClampNeg) : Int32).toNatClampNeg) ((gI S8 (gR S r0 73) ((gI S (gR S r0 58) (x1 : Int32).toNatClampNeg) : Int32).toNatClampNeg) + 1) → Q (.inl none) S11) : V X d MX13_push 0 [(0, vR r0), (1, vI x1), (2, vI x2)] [] S Q := by
  refine V_aload_n (pc2 := 1) (dk D_X13_push 0 rfl) rfl (V_lg 0 rfl) rfl ?_
  obtain ⟨h1, h⟩ := h
  refine V_getR kc13 (pc2 := 4) 58 (dk D_X13_push 1 rfl) fl_13_189 (by decide) (fun _ => rfl) rfl h1 ?_
  refine V_iload_n (pc2 := 5) (dk D_X13_push 2 rfl) rfl (V_lg 1 rfl) rfl ?_
  obtain ⟨h2, h⟩ := h
  obtain ⟨h3, h⟩ := h
  refine V_iald (pc2 := 6) (dk D_X13_push 3 rfl) rfl h2 h3 ?_
  refine V_istore_n (pc2 := 7) (lv2 := [(0, _), (1, _), (2, _), (3, _)]) (dk D_X13_push 4 rfl) rfl (by decide) rfl rfl ?_
  refine V_aload_n (pc2 := 8) (dk D_X13_push 5 rfl) rfl (V_lg 0 rfl) rfl ?_
  refine V_getR kc13 (pc2 := 11) 74 (dk D_X13_push 6 rfl) fl_13_238 (by decide) (fun _ => rfl) rfl h1 ?_
  refine V_sipush (x := 10200) (pc2 := 14) (dk D_X13_push 7 rfl) (by decide) rfl ?_
  refine V_iload_n (pc2 := 15) (dk D_X13_push 8 rfl) rfl (V_lg 3 rfl) rfl ?_
  refine V_imul (pc2 := 16) (dk D_X13_push 9 rfl) rfl ?_
  refine V_aload_n (pc2 := 17) (dk D_X13_push 10 rfl) rfl (V_lg 0 rfl) rfl ?_
  refine V_getR kc13 (pc2 := 20) 73 (dk D_X13_push 11 rfl) fl_13_234 (by decide) (fun _ => rfl) rfl h1 ?_
  refine V_iload_n (pc2 := 21) (dk D_X13_push 12 rfl) rfl (V_lg 3 rfl) rfl ?_
  obtain ⟨h4, h⟩ := h
  obtain ⟨h5, h⟩ := h
  refine V_iald (pc2 := 22) (dk D_X13_push 13 rfl) rfl h4 h5 ?_
  refine V_iadd (pc2 := 23) (dk D_X13_push 14 rfl) rfl ?_
  refine V_iload_n (pc2 := 24) (dk D_X13_push 15 rfl) rfl (V_lg 2 rfl) rfl ?_
  obtain ⟨h6, h⟩ := h
  obtain ⟨h7, h⟩ := h
  refine V_iast (pc2 := 25) (dk D_X13_push 16 rfl) rfl h6 h7 ?_
  have h := h _ rfl
  refine V_aload_n (pc2 := 26) (dk D_X13_push 17 rfl) rfl (V_lg 0 rfl) rfl ?_
  refine V_getR kc13 (pc2 := 29) 73 (dk D_X13_push 18 rfl) fl_13_234 (by decide) (fun _ => rfl) rfl h1 ?_
  refine V_iload_n (pc2 := 30) (dk D_X13_push 19 rfl) rfl (V_lg 3 rfl) rfl ?_
  refine V_dup2 (pc2 := 31) (dk D_X13_push 20 rfl) rfl rfl rfl ?_
  obtain ⟨h9, h⟩ := h
  refine V_iald (pc2 := 32) (dk D_X13_push 21 rfl) rfl h4 h9 ?_
  refine V_iconst (x := 1) (pc2 := 33) (dk D_X13_push 22 rfl) (by decide) rfl ?_
  refine V_iadd (pc2 := 34) (dk D_X13_push 23 rfl) rfl ?_
  obtain ⟨h10, h⟩ := h
  refine V_iast (pc2 := 35) (dk D_X13_push 24 rfl) rfl h4 h10 ?_
  have h := h _ rfl
  exact V_return (dk D_X13_push 25 rfl) rfl h
def L_X13_pop : List (Nat × Instr × Nat) := [(0, .aload_n 0, 1), (1, .getfield 189, 3), (4, .iload_n 1, 1), (5, .iaload, 1), (6, .istore_n 2, 1), (7, .aload_n 0, 1), (8, .getfield 234, 3), (11, .iload_n 2, 1), (12, .dup2, 1), (13, .iaload, 1), (14, .iconst 1, 1), (15, .isub, 1), (16, .iastore, 1), (17, .aload_n 0, 1), (18, .getfield 238, 3), (21, .sipush 10200, 3), (24, .iload_n 2, 1), (25, .imul, 1), (26, .aload_n 0, 1), (27, .getfield 234, 3), (30, .iload_n 2, 1), (31, .iaload, 1), (32, .iadd, 1), (33, .iaload, 1), (34, .ireturn, 1)]
theorem D_X13_pop : dOk cX13_pop L_X13_pop = true := by decide +kernel
theorem w_X13_pop_0 {X : Cx} {d : Nat} {S : Mem} {Q : Res → Mem → Prop} (r0 : Nat) (x1 : Int32) (h : (isK S r0 13) ∧ (isK S (gR S r0 58) 21) ∧ (vp_in x1 (gN S (gR S r0 58))) ∧ (isK S (gR S r0 73) 21) ∧ (vp_in (gI S (gR S r0 58) (x1 : Int32).toNatClampNeg) (gN S (gR S r0 73))) ∧ (vp_in (gI S (gR S r0 58) (x1 : Int32).toNatClampNeg) (gN S (gR S r0 73))) ∧ ∀ S7 : Mem, S7 = uI S (gR S r0 73) (((gI S (gR S r0 58) (x1 : Int32).toNatClampNeg) : Int32).toNatClampNeg) ((gI S (gR S r0 73) ((gI S (gR S r0 58) (x1 : Int32).toNatClampNeg) : Int32).toNatClampNeg) - 1) → (vp_in (gI S (gR S r0 58) (x1 : Int32).toNatClampNeg) (gN S (gR S r0 73))) ∧ (isK S (gR S r0 74) 21) ∧ (vp_in ((10200 * (gI S (gR S r0 58) (x1 : Int32).toNatClampNeg)) + (gI S7 (gR S r0 73) ((gI S (gR S r0 58) (x1 : Int32).toNatClampNeg) : Int32).toNatClampNeg)) (gN S (gR S r0 74))) ∧ Q (.inl (some (vI (gI S7 (gR S r0 74) (((10200 * (gI S (gR S r0 58) (x1 : Int32).toNatClampNeg)) + (gI S7 (gR S r0 73) ((gI S (gR S r0 58) (x1 : Int32).toNatClampNeg) : Int32).toNatClampNeg)) : Int32).toNatClampNeg)))) S7) : V X d MX13_pop 0 [(0, vR r0), (1, vI x1)] [] S Q := by
  refine V_aload_n (pc2 := 1) (dk D_X13_pop 0 rfl) rfl (V_lg 0 rfl) rfl ?_
  obtain ⟨h1, h⟩ := h
  refine V_getR kc13 (pc2 := 4) 58 (dk D_X13_pop 1 rfl) fl_13_189 (by decide) (fun _ => rfl) rfl h1 ?_
  refine V_iload_n (pc2 := 5) (dk D_X13_pop 2 rfl) rfl (V_lg 1 rfl) rfl ?_
  obtain ⟨h2, h⟩ := h
  obtain ⟨h3, h⟩ := h
  refine V_iald (pc2 := 6) (dk D_X13_pop 3 rfl) rfl h2 h3 ?_
  refine V_istore_n (pc2 := 7) (lv2 := [(0, _), (1, _), (2, _)]) (dk D_X13_pop 4 rfl) rfl (by decide) rfl rfl ?_
  refine V_aload_n (pc2 := 8) (dk D_X13_pop 5 rfl) rfl (V_lg 0 rfl) rfl ?_
  refine V_getR kc13 (pc2 := 11) 73 (dk D_X13_pop 6 rfl) fl_13_234 (by decide) (fun _ => rfl) rfl h1 ?_
  refine V_iload_n (pc2 := 12) (dk D_X13_pop 7 rfl) rfl (V_lg 2 rfl) rfl ?_
  refine V_dup2 (pc2 := 13) (dk D_X13_pop 8 rfl) rfl rfl rfl ?_
  obtain ⟨h4, h⟩ := h
  obtain ⟨h5, h⟩ := h
  refine V_iald (pc2 := 14) (dk D_X13_pop 9 rfl) rfl h4 h5 ?_
  refine V_iconst (x := 1) (pc2 := 15) (dk D_X13_pop 10 rfl) (by decide) rfl ?_
  refine V_isub (pc2 := 16) (dk D_X13_pop 11 rfl) rfl ?_
  obtain ⟨h6, h⟩ := h
  refine V_iast (pc2 := 17) (dk D_X13_pop 12 rfl) rfl h4 h6 ?_
  have h := h _ rfl
  refine V_aload_n (pc2 := 18) (dk D_X13_pop 13 rfl) rfl (V_lg 0 rfl) rfl ?_
  refine V_getR kc13 (pc2 := 21) 74 (dk D_X13_pop 14 rfl) fl_13_238 (by decide) (fun _ => rfl) rfl h1 ?_
  refine V_sipush (x := 10200) (pc2 := 24) (dk D_X13_pop 15 rfl) (by decide) rfl ?_
  refine V_iload_n (pc2 := 25) (dk D_X13_pop 16 rfl) rfl (V_lg 2 rfl) rfl ?_
  refine V_imul (pc2 := 26) (dk D_X13_pop 17 rfl) rfl ?_
  refine V_aload_n (pc2 := 27) (dk D_X13_pop 18 rfl) rfl (V_lg 0 rfl) rfl ?_
  refine V_getR kc13 (pc2 := 30) 73 (dk D_X13_pop 19 rfl) fl_13_234 (by decide) (fun _ => rfl) rfl h1 ?_
  refine V_iload_n (pc2 := 31) (dk D_X13_pop 20 rfl) rfl (V_lg 2 rfl) rfl ?_
  obtain ⟨h8, h⟩ := h
  refine V_iald (pc2 := 32) (dk D_X13_pop 21 rfl) rfl h4 h8 ?_
  refine V_iadd (pc2 := 33) (dk D_X13_pop 22 rfl) rfl ?_
  obtain ⟨h9, h⟩ := h
  obtain ⟨h10, h⟩ := h
  refine V_iald (pc2 := 34) (dk D_X13_pop 23 rfl) rfl h9 h10 ?_
  exact V_ireturn (dk D_X13_pop 24 rfl) rfl h
def L_X13_enter : List (Nat × Instr × Nat) := [(0, .aload_n 0, 1), (1, .getfield 189, 3), (4, .iload_n 1, 1), (5, .iaload, 1), (6, .istore 4, 2), (8, .bipush 60, 2), (10, .iload 4, 2), (12, .imul, 1), (13, .aload_n 0, 1), (14, .getfield 195, 3), (17, .iload 4, 2), (19, .iaload, 1), (20, .iadd, 1), (21, .istore 5, 2), (23, .aload_n 0, 1), (24, .getfield 195, 3), (27, .iload 4, 2), (29, .dup2, 1), (30, .iaload, 1), (31, .iconst 1, 1), (32, .iadd, 1), (33, .iastore, 1), (34, .iconst 0, 1), (35, .istore 6, 2), (37, .iload 6, 2), (39, .bipush 40, 2), (41, .if_icmp .ge 23, 3), (44, .aload_n 0, 1), (45, .getfield 213, 3), (48, .bipush 40, 2), (50, .iload 5, 2), (52, .imul, 1), (53, .iload 6, 2), (55, .iadd, 1), (56, .iconst 0, 1), (57, .iastore, 1), (58, .iinc 6 1, 3), (61, .goto (-24), 3), (64, .iload_n 3, 1), (65, .iconst 1, 1), (66, .isub, 1), (67, .istore 6, 2), (69, .iload 6, 2), (71, .ifCond .lt 27, 3), (74, .aload_n 0, 1), (75, .getfield 213, 3), (78, .bipush 40, 2), (80, .iload 5, 2), (82, .imul, 1), (83, .iload 6, 2), (85, .iadd, 1), (86, .aload_n 0, 1), (87, .iload_n 1, 1), (88, .invokevirtual 494, 3), (91, .iastore, 1), (92, .iinc 6 (-1), 3), (95, .goto (-26), 3), (98, .aload_n 0, 1), (99, .getfield 198, 3), (102, .iload 5, 2), (104, .iload_n 2, 1), (105, .iastore, 1), (106, .aload_n 0, 1), (107, .getfield 201, 3), (110, .iload 5, 2), (112, .aload_n 0, 1), (113, .getfield 116, 3), (116, .iload_n 2, 1), (117, .iaload, 1), (118, .iastore, 1), (119, .aload_n 0, 1), (120, .getfield 204, 3), (123, .iload 5, 2), (125, .bipush (-9), 2), (127, .iastore, 1), (128, .aload_n 0, 1), (129, .getfield 207, 3), (132, .iload 5, 2), (134, .aload_n 0, 1), (135, .getfield 219, 3), (138, .iload 4, 2), (140, .iaload, 1), (141, .iastore, 1), (142, .aload_n 0, 1), (143, .getfield 210, 3), (146, .iload 5, 2), (148, .aload_n 0, 1), (149, .getfield 234, 3), (152, .iload 4, 2), (154, .iaload, 1), (155, .iastore, 1), (156, .return_, 1)]
theorem D_X13_enter : dOk cX13_enter L_X13_enter = true := by decide +kernel
theorem w_X13_enter_0 {X : Cx} {d : Nat} {S : Mem} {Q : Res → Mem → Prop} (r0 : Nat) (x1 : Int32) (x2 : Int32) (x3 : Int32) (h : (isK S r0 13) ∧ (isK S (gR S r0 58) 21) ∧ (vp_in x1 (gN S (gR S r0 58))) ∧ (isK S (gR S r0 60) 21) ∧ (vp_in (gI S (gR S r0 58) (x1 : Int32).toNatClampNeg) (gN S (gR S r0 60))) ∧ (vp_in (gI S (gR S r0 58) (x1 : Int32).toNatClampNeg) (gN S (gR S r0 60))) ∧ (vp_in (gI S (gR S r0 58) (x1 : Int32).toNatClampNeg) (gN S (gR S r0 60))) ∧ ∀ S8 : Mem, S8 = uI S (gR S r0 60) (((gI S (gR S r0 58) (x1 : Int32).toNatClampNeg) : Int32).toNatClampNeg) ((gI S (gR S r0 60) ((gI S (gR S r0 58) (x1 : Int32).toNatClampNeg) : Int32).toNatClampNeg) + 1) → V X d MX13_enter 37 [(0, vR r0), (1, vI x1), (2, vI x2), (3, vI x3), (4, vI (gI S (gR S r0 58) (x1 : Int32).toNatClampNeg)), (5, vI ((60 * (gI S (gR S r0 58) (x1 : Int32).toNatClampNeg)) + (gI S (gR S r0 60) ((gI S (gR S r0 58) (x1 : Int32).toNatClampNeg) : Int32).toNatClampNeg))), (6, vI 0)] [] S8 Q) : V X d MX13_enter 0 [(0, vR r0), (1, vI x1), (2, vI x2), (3, vI x3)] [] S Q := by
  refine V_aload_n (pc2 := 1) (dk D_X13_enter 0 rfl) rfl (V_lg 0 rfl) rfl ?_
  obtain ⟨h1, h⟩ := h
  refine V_getR kc13 (pc2 := 4) 58 (dk D_X13_enter 1 rfl) fl_13_189 (by decide) (fun _ => rfl) rfl h1 ?_
  refine V_iload_n (pc2 := 5) (dk D_X13_enter 2 rfl) rfl (V_lg 1 rfl) rfl ?_
  obtain ⟨h2, h⟩ := h
  obtain ⟨h3, h⟩ := h
  refine V_iald (pc2 := 6) (dk D_X13_enter 3 rfl) rfl h2 h3 ?_
  refine V_istore (pc2 := 8) (lv2 := [(0, _), (1, _), (2, _), (3, _), (4, _)]) (dk D_X13_enter 4 rfl) (by decide) rfl rfl ?_
  refine V_bipush (x := 60) (pc2 := 10) (dk D_X13_enter 5 rfl) (by decide) rfl ?_
  refine V_iload (pc2 := 12) (dk D_X13_enter 6 rfl) (V_lg 4 rfl) rfl ?_
  refine V_imul (pc2 := 13) (dk D_X13_enter 7 rfl) rfl ?_
  refine V_aload_n (pc2 := 14) (dk D_X13_enter 8 rfl) rfl (V_lg 0 rfl) rfl ?_
  refine V_getR kc13 (pc2 := 17) 60 (dk D_X13_enter 9 rfl) fl_13_195 (by decide) (fun _ => rfl) rfl h1 ?_
  refine V_iload (pc2 := 19) (dk D_X13_enter 10 rfl) (V_lg 4 rfl) rfl ?_
  obtain ⟨h4, h⟩ := h
  obtain ⟨h5, h⟩ := h
  refine V_iald (pc2 := 20) (dk D_X13_enter 11 rfl) rfl h4 h5 ?_
  refine V_iadd (pc2 := 21) (dk D_X13_enter 12 rfl) rfl ?_
  refine V_istore (pc2 := 23) (lv2 := [(0, _), (1, _), (2, _), (3, _), (4, _), (5, _)]) (dk D_X13_enter 13 rfl) (by decide) rfl rfl ?_
  refine V_aload_n (pc2 := 24) (dk D_X13_enter 14 rfl) rfl (V_lg 0 rfl) rfl ?_
  refine V_getR kc13 (pc2 := 27) 60 (dk D_X13_enter 15 rfl) fl_13_195 (by decide) (fun _ => rfl) rfl h1 ?_
  refine V_iload (pc2 := 29) (dk D_X13_enter 16 rfl) (V_lg 4 rfl) rfl ?_
  refine V_dup2 (pc2 := 30) (dk D_X13_enter 17 rfl) rfl rfl rfl ?_
  obtain ⟨h6, h⟩ := h
  refine V_iald (pc2 := 31) (dk D_X13_enter 18 rfl) rfl h4 h6 ?_
  refine V_iconst (x := 1) (pc2 := 32) (dk D_X13_enter 19 rfl) (by decide) rfl ?_
  refine V_iadd (pc2 := 33) (dk D_X13_enter 20 rfl) rfl ?_
  obtain ⟨h7, h⟩ := h
  refine V_iast (pc2 := 34) (dk D_X13_enter 21 rfl) rfl h4 h7 ?_
  have h := h _ rfl
  refine V_iconst (x := 0) (pc2 := 35) (dk D_X13_enter 22 rfl) (by decide) rfl ?_
  refine V_istore (pc2 := 37) (lv2 := [(0, _), (1, _), (2, _), (3, _), (4, _), (5, _), (6, _)]) (dk D_X13_enter 23 rfl) (by decide) rfl rfl ?_
  exact h
theorem w_X13_enter_37 {X : Cx} {d : Nat} {S : Mem} {Q : Res → Mem → Prop} (r0 : Nat) (x1 : Int32) (x2 : Int32) (x3 : Int32) (x4 : Int32) (x5 : Int32) (x6 : Int32) (h : ((40 ≤ x6 → V X d MX13_enter 69 [(0, vR r0), (1, vI x1), (2, vI x2), (3, vI x3), (4, vI x4), (5, vI x5), (6, vI (x3 - 1))] [] S Q) ∧ (¬ 40 ≤ x6 → (isK S r0 13) ∧ (isK S (gR S r0 66) 21) ∧ (vp_in ((40 * x5) + x6) (gN S (gR S r0 66))) ∧ ∀ S5 : Mem, S5 = uI S (gR S r0 66) ((((40 * x5) + x6) : Int32).toNatClampNeg) 0 → V X d MX13_enter 37 [(0, vR r0), (1, vI x1), (2, vI x2), (3, vI x3), (4, vI x4), (5, vI x5), (6, vI (x6 + 1))] [] S5 Q))) : V X d MX13_enter 37 [(0, vR r0), (1, vI x1), (2, vI x2), (3, vI x3), (4, vI x4), (5, vI x5), (6, vI x6)] [] S Q := by
  refine V_iload (pc2 := 39) (dk D_X13_enter 24 rfl) (V_lg 6 rfl) rfl ?_
  refine V_bipush (x := 40) (pc2 := 41) (dk D_X13_enter 25 rfl) (by decide) rfl ?_
  refine V_cmpge (tgt := 64) (pc2 := 44) (dk D_X13_enter 26 rfl) (by decide) rfl (fun q1 => ?_) (fun q1 => ?_)
  · have h := h.1 q1
    refine V_iload_n (pc2 := 65) (dk D_X13_enter 38 rfl) rfl (V_lg 3 rfl) rfl ?_
    refine V_iconst (x := 1) (pc2 := 66) (dk D_X13_enter 39 rfl) (by decide) rfl ?_
    refine V_isub (pc2 := 67) (dk D_X13_enter 40 rfl) rfl ?_
    refine V_istore (pc2 := 69) (lv2 := [(0, _), (1, _), (2, _), (3, _), (4, _), (5, _), (6, _)]) (dk D_X13_enter 41 rfl) (by decide) rfl rfl ?_
    exact h
  · have h := h.2 q1
    refine V_aload_n (pc2 := 45) (dk D_X13_enter 27 rfl) rfl (V_lg 0 rfl) rfl ?_
    obtain ⟨h2, h⟩ := h
    refine V_getR kc13 (pc2 := 48) 66 (dk D_X13_enter 28 rfl) fl_13_213 (by decide) (fun _ => rfl) rfl h2 ?_
    refine V_bipush (x := 40) (pc2 := 50) (dk D_X13_enter 29 rfl) (by decide) rfl ?_
    refine V_iload (pc2 := 52) (dk D_X13_enter 30 rfl) (V_lg 5 rfl) rfl ?_
    refine V_imul (pc2 := 53) (dk D_X13_enter 31 rfl) rfl ?_
    refine V_iload (pc2 := 55) (dk D_X13_enter 32 rfl) (V_lg 6 rfl) rfl ?_
    refine V_iadd (pc2 := 56) (dk D_X13_enter 33 rfl) rfl ?_
    refine V_iconst (x := 0) (pc2 := 57) (dk D_X13_enter 34 rfl) (by decide) rfl ?_
    obtain ⟨h3, h⟩ := h
    obtain ⟨h4, h⟩ := h
    refine V_iast (pc2 := 58) (dk D_X13_enter 35 rfl) rfl h3 h4 ?_
    have h := h _ rfl
    refine V_iinc (y := _ + 1) (pc2 := 61) (lv2 := [(0, _), (1, _), (2, _), (3, _), (4, _), (5, _), (6, _)]) (dk D_X13_enter 36 rfl) (V_lg 6 rfl) rfl (by decide) rfl rfl ?_
    refine V_goto (tgt := 37) (dk D_X13_enter 37 rfl) (by decide) ?_
    exact h
theorem w_X13_enter_69 {X : Cx} {d : Nat} {S : Mem} {Q : Res → Mem → Prop} (r0 : Nat) (x1 : Int32) (x2 : Int32) (x3 : Int32) (x4 : Int32) (x5 : Int32) (x6 : Int32) (h : ((x6 < 0 → (isK S r0 13) ∧ (isK S (gR S r0 61) 21) ∧ (vp_in x5 (gN S (gR S r0 61))) ∧ ∀ S5 : Mem, S5 = uI S (gR S r0 61) ((x5 : Int32).toNatClampNeg) x2 → (isK S (gR S r0 23) 21) ∧ (vp_in x2 (gN S (gR S r0 23))) ∧ (isK S (gR S r0 62) 21) ∧ (vp_in x5 (gN S (gR S r0 62))) ∧ ∀ S10 : Mem, S10 = uI S5 (gR S r0 62) ((x5 : Int32).toNatClampNeg) (gI S5 (gR S r0 23) (x2 : Int32).toNatClampNeg) → (isK S (gR S r0 63) 21) ∧ (vp_in x5 (gN S (gR S r0 63))) ∧ ∀ S13 : Mem, S13 = uI S10 (gR S r0 63) ((x5 : Int32).toNatClampNeg) (-9) → (isK S (gR S r0 68) 21) ∧ (vp_in x4 (gN S (gR S r0 68))) ∧ (isK S (gR S r0 64) 21) ∧ (vp_in x5 (gN S (gR S r0 64))) ∧ ∀ S18 : Mem, S18 = uI S13 (gR S r0 64) ((x5 : Int32).toNatClampNeg) (gI S13 (gR S r0 68) (x4 : Int32).toNatClampNeg) → (isK S (gR S r0 73) 21) ∧ (vp_in x4 (gN S (gR S r0 73))) ∧ (isK S (gR S r0 65) 21) ∧ (vp_in x5 (gN S (gR S r0 65))) ∧ ∀ S23 : Mem, S23 = uI S18 (gR S r0 65) ((x5 : Int32).toNatClampNeg) (gI S18 (gR S r0 73) (x4 : Int32).toNatClampNeg) → Q (.inl none) S23) ∧ (¬ x6 < 0 → (isK S r0 13) ∧ ∃ e25 : Nat, e25 + 1 ≤ d ∧ C X e25 MX13_pop [vR r0, vI x1] S (RI fun y28 S29 => (isK S29 (gR S r0 66) 21) ∧ (vp_in ((40 * x5) + x6) (gN S29 (gR S r0 66))) ∧ ∀ S32 : Mem, S32 = uI S29 (gR S r0 66) ((((40 * x5) + x6) : Int32).toNatClampNeg) y28 → V X d MX13_enter 69 [(0, vR r0), (1, vI x1), (2, vI x2), (3, vI x3), (4, vI x4), (5, vI x5), (6, vI (x6 + (-1)))] [] S32 Q)))) : V X d MX13_enter 69 [(0, vR r0), (1, vI x1), (2, vI x2), (3, vI x3), (4, vI x4), (5, vI x5), (6, vI x6)] [] S Q := by
  refine V_iload (pc2 := 71) (dk D_X13_enter 42 rfl) (V_lg 6 rfl) rfl ?_
  refine V_iflt (tgt := 98) (pc2 := 74) (dk D_X13_enter 43 rfl) (by decide) rfl (fun q1 => ?_) (fun q1 => ?_)
  · have h := h.1 q1
    refine V_aload_n (pc2 := 99) (dk D_X13_enter 57 rfl) rfl (V_lg 0 rfl) rfl ?_
    obtain ⟨h2, h⟩ := h
    refine V_getR kc13 (pc2 := 102) 61 (dk D_X13_enter 58 rfl) fl_13_198 (by decide) (fun _ => rfl) rfl h2 ?_
    refine V_iload (pc2 := 104) (dk D_X13_enter 59 rfl) (V_lg 5 rfl) rfl ?_
    refine V_iload_n (pc2 := 105) (dk D_X13_enter 60 rfl) rfl (V_lg 2 rfl) rfl ?_
    obtain ⟨h3, h⟩ := h
    obtain ⟨h4, h⟩ := h
    refine V_iast (pc2 := 106) (dk D_X13_enter 61 rfl) rfl h3 h4 ?_
    have h := h _ rfl
    refine V_aload_n (pc2 := 107) (dk D_X13_enter 62 rfl) rfl (V_lg 0 rfl) rfl ?_
    refine V_getR kc13 (pc2 := 110) 62 (dk D_X13_enter 63 rfl) fl_13_201 (by decide) (fun _ => rfl) rfl h2 ?_
    refine V_iload (pc2 := 112) (dk D_X13_enter 64 rfl) (V_lg 5 rfl) rfl ?_
    refine V_aload_n (pc2 := 113) (dk D_X13_enter 65 rfl) rfl (V_lg 0 rfl) rfl ?_
    refine V_getR kc13 (pc2 := 116) 23 (dk D_X13_enter 66 rfl) fl_13_116 (by decide) (fun _ => rfl) rfl h2 ?_
    refine V_iload_n (pc2 := 117) (dk D_X13_enter 67 rfl) rfl (V_lg 2 rfl) rfl ?_
    obtain ⟨h6, h⟩ := h
    obtain ⟨h7, h⟩ := h
    refine V_iald (pc2 := 118) (dk D_X13_enter 68 rfl) rfl h6 h7 ?_
    obtain ⟨h8, h⟩ := h
    obtain ⟨h9, h⟩ := h
    refine V_iast (pc2 := 119) (dk D_X13_enter 69 rfl) rfl h8 h9 ?_
    have h := h _ rfl
    refine V_aload_n (pc2 := 120) (dk D_X13_enter 70 rfl) rfl (V_lg 0 rfl) rfl ?_
    refine V_getR kc13 (pc2 := 123) 63 (dk D_X13_enter 71 rfl) fl_13_204 (by decide) (fun _ => rfl) rfl h2 ?_
    refine V_iload (pc2 := 125) (dk D_X13_enter 72 rfl) (V_lg 5 rfl) rfl ?_
    refine V_bipush (x := (-9)) (pc2 := 127) (dk D_X13_enter 73 rfl) (by decide) rfl ?_
    obtain ⟨h11, h⟩ := h
    obtain ⟨h12, h⟩ := h
    refine V_iast (pc2 := 128) (dk D_X13_enter 74 rfl) rfl h11 h12 ?_
    have h := h _ rfl
    refine V_aload_n (pc2 := 129) (dk D_X13_enter 75 rfl) rfl (V_lg 0 rfl) rfl ?_
    refine V_getR kc13 (pc2 := 132) 64 (dk D_X13_enter 76 rfl) fl_13_207 (by decide) (fun _ => rfl) rfl h2 ?_
    refine V_iload (pc2 := 134) (dk D_X13_enter 77 rfl) (V_lg 5 rfl) rfl ?_
    refine V_aload_n (pc2 := 135) (dk D_X13_enter 78 rfl) rfl (V_lg 0 rfl) rfl ?_
    refine V_getR kc13 (pc2 := 138) 68 (dk D_X13_enter 79 rfl) fl_13_219 (by decide) (fun _ => rfl) rfl h2 ?_
    refine V_iload (pc2 := 140) (dk D_X13_enter 80 rfl) (V_lg 4 rfl) rfl ?_
    obtain ⟨h14, h⟩ := h
    obtain ⟨h15, h⟩ := h
    refine V_iald (pc2 := 141) (dk D_X13_enter 81 rfl) rfl h14 h15 ?_
    obtain ⟨h16, h⟩ := h
    obtain ⟨h17, h⟩ := h
    refine V_iast (pc2 := 142) (dk D_X13_enter 82 rfl) rfl h16 h17 ?_
    have h := h _ rfl
    refine V_aload_n (pc2 := 143) (dk D_X13_enter 83 rfl) rfl (V_lg 0 rfl) rfl ?_
    refine V_getR kc13 (pc2 := 146) 65 (dk D_X13_enter 84 rfl) fl_13_210 (by decide) (fun _ => rfl) rfl h2 ?_
    refine V_iload (pc2 := 148) (dk D_X13_enter 85 rfl) (V_lg 5 rfl) rfl ?_
    refine V_aload_n (pc2 := 149) (dk D_X13_enter 86 rfl) rfl (V_lg 0 rfl) rfl ?_
    refine V_getR kc13 (pc2 := 152) 73 (dk D_X13_enter 87 rfl) fl_13_234 (by decide) (fun _ => rfl) rfl h2 ?_
    refine V_iload (pc2 := 154) (dk D_X13_enter 88 rfl) (V_lg 4 rfl) rfl ?_
    obtain ⟨h19, h⟩ := h
    obtain ⟨h20, h⟩ := h
    refine V_iald (pc2 := 155) (dk D_X13_enter 89 rfl) rfl h19 h20 ?_
    obtain ⟨h21, h⟩ := h
    obtain ⟨h22, h⟩ := h
    refine V_iast (pc2 := 156) (dk D_X13_enter 90 rfl) rfl h21 h22 ?_
    have h := h _ rfl
    exact V_return (dk D_X13_enter 91 rfl) rfl h
  · have h := h.2 q1
    refine V_aload_n (pc2 := 75) (dk D_X13_enter 44 rfl) rfl (V_lg 0 rfl) rfl ?_
    obtain ⟨h24, h⟩ := h
    refine V_getR kc13 (pc2 := 78) 66 (dk D_X13_enter 45 rfl) fl_13_213 (by decide) (fun _ => rfl) rfl h24 ?_
    refine V_bipush (x := 40) (pc2 := 80) (dk D_X13_enter 46 rfl) (by decide) rfl ?_
    refine V_iload (pc2 := 82) (dk D_X13_enter 47 rfl) (V_lg 5 rfl) rfl ?_
    refine V_imul (pc2 := 83) (dk D_X13_enter 48 rfl) rfl ?_
    refine V_iload (pc2 := 85) (dk D_X13_enter 49 rfl) (V_lg 6 rfl) rfl ?_
    refine V_iadd (pc2 := 86) (dk D_X13_enter 50 rfl) rfl ?_
    refine V_aload_n (pc2 := 87) (dk D_X13_enter 51 rfl) rfl (V_lg 0 rfl) rfl ?_
    refine V_iload_n (pc2 := 88) (dk D_X13_enter 52 rfl) rfl (V_lg 1 rfl) rfl ?_
    obtain ⟨e25, he26, hc27⟩ := h
    refine V_callV (as := [_]) (st := [_, _]) (M' := MX13_pop) (ci := 13) (pc2 := 91) (dk D_X13_enter 53 rfl) ml_13_494 mv_X13_pop rfl rfl (by decide) rfl (Nat.le_of_ble_eq_true rfl) rfl he26 h24 hc27 (RI.k fun y28 S29 h => ?_)
    obtain ⟨h30, h⟩ := h
    obtain ⟨h31, h⟩ := h
    refine V_iast (pc2 := 92) (dk D_X13_enter 54 rfl) rfl h30 h31 ?_
    have h := h _ rfl
    refine V_iinc (y := _ + (-1)) (pc2 := 95) (lv2 := [(0, _), (1, _), (2, _), (3, _), (4, _), (5, _), (6, _)]) (dk D_X13_enter 55 rfl) (V_lg 6 rfl) rfl (by decide) rfl rfl ?_
    refine V_goto (tgt := 69) (dk D_X13_enter 56 rfl) (by decide) ?_
    exact h
def L_X13_start : List (Nat × Instr × Nat) := [(0, .iconst 0, 1), (1, .istore_n 2, 1), (2, .aload_n 0, 1), (3, .getfield 192, 3), (6, .iload_n 2, 1), (7, .baload, 1), (8, .ifCond .eq 9, 3), (11, .iinc 2 1, 3), (14, .goto (-12), 3), (17, .aload_n 0, 1), (18, .getfield 192, 3), (21, .iload_n 2, 1), (22, .iconst 1, 1), (23, .bastore, 1), (24, .aload_n 0, 1), (25, .getfield 189, 3), (28, .iload_n 1, 1), (29, .iload_n 2, 1), (30, .iastore, 1), (31, .aload_n 0, 1), (32, .getfield 195, 3), (35, .iload_n 2, 1), (36, .iconst 0, 1), (37, .iastore, 1), (38, .aload_n 0, 1), (39, .getfield 219, 3), (42, .iload_n 2, 1), (43, .iconst 0, 1), (44, .iastore, 1), (45, .aload_n 0, 1), (46, .getfield 234, 3), (49, .iload_n 2, 1), (50, .iconst 0, 1), (51, .iastore, 1), (52, .aload_n 0, 1), (53, .getfield 107, 3), (56, .aload_n 0, 1), (57, .getfield 164, 3), (60, .iload_n 1, 1), (61, .iaload, 1), (62, .iaload, 1), (63, .ifCond .le 14, 3), (66, .aload_n 0, 1), (67, .iload_n 1, 1), (68, .aload_n 0, 1), (69, .getfield 167, 3), (72, .iload_n 1, 1), (73, .iaload, 1), (74, .invokevirtual 497, 3), (77, .aload_n 0, 1), (78, .iload_n 1, 1), (79, .aload_n 0, 1), (80, .getfield 164, 3), (83, .iload_n 1, 1), (84, .iaload, 1), (85, .aload_n 0, 1), (86, .getfield 107, 3), (89, .aload_n 0, 1), (90, .getfield 164, 3), (93, .iload_n 1, 1), (94, .iaload, 1), (95, .iaload, 1), (96, .invokevirtual 501, 3), (99, .return_, 1)]
theorem D_X13_start : dOk cX13_start L_X13_start = true := by decide +kernel
theorem w_X13_start_0 {X : Cx} {d : Nat} {S : Mem} {Q : Res → Mem → Prop} (r0 : Nat) (x1 : Int32) (h : V X d MX13_start 2 [(0, vR r0), (1, vI x1), (2, vI 0)] [] S Q) : V X d MX13_start 0 [(0, vR r0), (1, vI x1)] [] S Q := by
  refine V_iconst (x := 0) (pc2 := 1) (dk D_X13_start 0 rfl) (by decide) rfl ?_
  refine V_istore_n (pc2 := 2) (lv2 := [(0, _), (1, _), (2, _)]) (dk D_X13_start 1 rfl) rfl (by decide) rfl rfl ?_
  exact h
theorem w_X13_start_2 {X : Cx} {d : Nat} {S : Mem} {Q : Res → Mem → Prop} (r0 : Nat) (x1 : Int32) (x2 : Int32) (h : (isK S r0 13) ∧ (isK S (gR S r0 59) 23) ∧ (vp_in x2 (gN S (gR S r0 59))) ∧ (((gI S (gR S r0 59) (x2 : Int32).toNatClampNeg) = 0 → (vp_in x2 (gN S (gR S r0 59))) ∧ ∀ S6 : Mem, S6 = uI S (gR S r0 59) ((x2 : Int32).toNatClampNeg) 1 → (isK S (gR S r0 58) 21) ∧ (vp_in x1 (gN S (gR S r0 58))) ∧ ∀ S9 : Mem, S9 = uI S6 (gR S r0 58) ((x1 : Int32).toNatClampNeg) x2 → (isK S (gR S r0 60) 21) ∧ (vp_in x2 (gN S (gR S r0 60))) ∧ ∀ S12 : Mem, S12 = uI S9 (gR S r0 60) ((x2 : Int32).toNatClampNeg) 0 → (isK S (gR S r0 68) 21) ∧ (vp_in x2 (gN S (gR S r0 68))) ∧ ∀ S15 : Mem, S15 = uI S12 (gR S r0 68) ((x2 : Int32).toNatClampNeg) 0 → (isK S (gR S r0 73) 21) ∧ (vp_in x2 (gN S (gR S r0 73))) ∧ ∀ S18 : Mem, S18 = uI S15 (gR S r0 73) ((x2 : Int32).toNatClampNeg) 0 → (isK S (gR S r0 50) 21) ∧ (vp_in x1 (gN S (gR S r0 50))) ∧ (isK S (gR S r0 20) 21) ∧ (vp_in (gI S18 (gR S r0 50) (x1 : Int32).toNatClampNeg) (gN S (gR S r0 20))) ∧ (((gI S18 (gR S r0 20) ((gI S18 (gR S r0 50) (x1 : Int32).toNatClampNeg) : Int32).toNatClampNeg) ≤ 0 → V X d MX13_start 77 [(0, vR r0), (1, vI x1), (2, vI x2)] [] S18 Q) ∧ (¬ (gI S18 (gR S r0 20) ((gI S18 (gR S r0 50) (x1 : Int32).toNatClampNeg) : Int32).toNatClampNeg) ≤ 0 → (isK S (gR S r0 51) 21) ∧ (vp_in x1 (gN S (gR S r0 51))) ∧ ∃ e26 : Nat, e26 + 1 ≤ d ∧ C X e26 MX13_push [vR r0, vI x1, vI (gI S18 (gR S r0 51) (x1 : Int32).toNatClampNeg)] S18 (RV fun  S29 => V X d MX13_start 77 [(0, vR r0), (1, vI x1), (2, vI x2)] [] S29 Q)))) ∧ (¬ (gI S (gR S r0 59) (x2 : Int32).toNatClampNeg) = 0 → V X d MX13_start 2 [(0, vR r0), (1, vI x1), (2, vI (x2 + 1))] [] S Q))) : V X d MX13_start 2 [(0, vR r0), (1, vI x1), (2, vI x2)] [] S Q := by
  refine V_aload_n (pc2 := 3) (dk D_X13_start 2 rfl) rfl (V_lg 0 rfl) rfl ?_
  obtain ⟨h1, h⟩ := h
  refine V_getR kc13 (pc2 := 6) 59 (dk D_X13_start 3 rfl) fl_13_192 (by decide) (fun _ => rfl) rfl h1 ?_
  refine V_iload_n (pc2 := 7) (dk D_X13_start 4 rfl) rfl (V_lg 2 rfl) rfl ?_
  obtain ⟨h2, h⟩ := h
  obtain ⟨h3, h⟩ := h
  refine V_zald (pc2 := 8) (dk D_X13_start 5 rfl) rfl h2 h3 ?_
  refine V_ifeq (tgt := 17) (pc2 := 11) (dk D_X13_start 6 rfl) (by decide) rfl (fun q4 => ?_) (fun q4 => ?_)
  · have h := h.1 q4
    refine V_aload_n (pc2 := 18) (dk D_X13_start 9 rfl) rfl (V_lg 0 rfl) rfl ?_
    refine V_getR kc13 (pc2 := 21) 59 (dk D_X13_start 10 rfl) fl_13_192 (by decide) (fun _ => rfl) rfl h1 ?_
    refine V_iload_n (pc2 := 22) (dk D_X13_start 11 rfl) rfl (V_lg 2 rfl) rfl ?_
    refine V_iconst (x := 1) (pc2 := 23) (dk D_X13_start 12 rfl) (by decide) rfl ?_
    obtain ⟨h5, h⟩ := h
    refine V_zast (pc2 := 24) (dk D_X13_start 13 rfl) rfl h2 h5 (Or.inr rfl) ?_
    have h := h _ rfl
    refine V_aload_n (pc2 := 25) (dk D_X13_start 14 rfl) rfl (V_lg 0 rfl) rfl ?_
    refine V_getR kc13 (pc2 := 28) 58 (dk D_X13_start 15 rfl) fl_13_189 (by decide) (fun _ => rfl) rfl h1 ?_
    refine V_iload_n (pc2 := 29) (dk D_X13_start 16 rfl) rfl (V_lg 1 rfl) rfl ?_
    refine V_iload_n (pc2 := 30) (dk D_X13_start 17 rfl) rfl (V_lg 2 rfl) rfl ?_
    obtain ⟨h7, h⟩ := h
    obtain ⟨h8, h⟩ := h
    refine V_iast (pc2 := 31) (dk D_X13_start 18 rfl) rfl h7 h8 ?_
    have h := h _ rfl
    refine V_aload_n (pc2 := 32) (dk D_X13_start 19 rfl) rfl (V_lg 0 rfl) rfl ?_
    refine V_getR kc13 (pc2 := 35) 60 (dk D_X13_start 20 rfl) fl_13_195 (by decide) (fun _ => rfl) rfl h1 ?_
    refine V_iload_n (pc2 := 36) (dk D_X13_start 21 rfl) rfl (V_lg 2 rfl) rfl ?_
    refine V_iconst (x := 0) (pc2 := 37) (dk D_X13_start 22 rfl) (by decide) rfl ?_
    obtain ⟨h10, h⟩ := h
    obtain ⟨h11, h⟩ := h
    refine V_iast (pc2 := 38) (dk D_X13_start 23 rfl) rfl h10 h11 ?_
    have h := h _ rfl
    refine V_aload_n (pc2 := 39) (dk D_X13_start 24 rfl) rfl (V_lg 0 rfl) rfl ?_
    refine V_getR kc13 (pc2 := 42) 68 (dk D_X13_start 25 rfl) fl_13_219 (by decide) (fun _ => rfl) rfl h1 ?_
    refine V_iload_n (pc2 := 43) (dk D_X13_start 26 rfl) rfl (V_lg 2 rfl) rfl ?_
    refine V_iconst (x := 0) (pc2 := 44) (dk D_X13_start 27 rfl) (by decide) rfl ?_
    obtain ⟨h13, h⟩ := h
    obtain ⟨h14, h⟩ := h
    refine V_iast (pc2 := 45) (dk D_X13_start 28 rfl) rfl h13 h14 ?_
    have h := h _ rfl
    refine V_aload_n (pc2 := 46) (dk D_X13_start 29 rfl) rfl (V_lg 0 rfl) rfl ?_
    refine V_getR kc13 (pc2 := 49) 73 (dk D_X13_start 30 rfl) fl_13_234 (by decide) (fun _ => rfl) rfl h1 ?_
    refine V_iload_n (pc2 := 50) (dk D_X13_start 31 rfl) rfl (V_lg 2 rfl) rfl ?_
    refine V_iconst (x := 0) (pc2 := 51) (dk D_X13_start 32 rfl) (by decide) rfl ?_
    obtain ⟨h16, h⟩ := h
    obtain ⟨h17, h⟩ := h
    refine V_iast (pc2 := 52) (dk D_X13_start 33 rfl) rfl h16 h17 ?_
    have h := h _ rfl
    refine V_aload_n (pc2 := 53) (dk D_X13_start 34 rfl) rfl (V_lg 0 rfl) rfl ?_
    refine V_getR kc13 (pc2 := 56) 20 (dk D_X13_start 35 rfl) fl_13_107 (by decide) (fun _ => rfl) rfl h1 ?_
    refine V_aload_n (pc2 := 57) (dk D_X13_start 36 rfl) rfl (V_lg 0 rfl) rfl ?_
    refine V_getR kc13 (pc2 := 60) 50 (dk D_X13_start 37 rfl) fl_13_164 (by decide) (fun _ => rfl) rfl h1 ?_
    refine V_iload_n (pc2 := 61) (dk D_X13_start 38 rfl) rfl (V_lg 1 rfl) rfl ?_
    obtain ⟨h19, h⟩ := h
    obtain ⟨h20, h⟩ := h
    refine V_iald (pc2 := 62) (dk D_X13_start 39 rfl) rfl h19 h20 ?_
    obtain ⟨h21, h⟩ := h
    obtain ⟨h22, h⟩ := h
    refine V_iald (pc2 := 63) (dk D_X13_start 40 rfl) rfl h21 h22 ?_
    refine V_ifle (tgt := 77) (pc2 := 66) (dk D_X13_start 41 rfl) (by decide) rfl (fun q23 => ?_) (fun q23 => ?_)
    · have h := h.1 q23
      exact h
    · have h := h.2 q23
      refine V_aload_n (pc2 := 67) (dk D_X13_start 42 rfl) rfl (V_lg 0 rfl) rfl ?_
      refine V_iload_n (pc2 := 68) (dk D_X13_start 43 rfl) rfl (V_lg 1 rfl) rfl ?_
      refine V_aload_n (pc2 := 69) (dk D_X13_start 44 rfl) rfl (V_lg 0 rfl) rfl ?_
      refine V_getR kc13 (pc2 := 72) 51 (dk D_X13_start 45 rfl) fl_13_167 (by decide) (fun _ => rfl) rfl h1 ?_
      refine V_iload_n (pc2 := 73) (dk D_X13_start 46 rfl) rfl (V_lg 1 rfl) rfl ?_
      obtain ⟨h24, h⟩ := h
      obtain ⟨h25, h⟩ := h
      refine V_iald (pc2 := 74) (dk D_X13_start 47 rfl) rfl h24 h25 ?_
      obtain ⟨e26, he27, hc28⟩ := h
      refine V_callV (as := [_, _]) (st := []) (M' := MX13_push) (ci := 13) (pc2 := 77) (dk D_X13_start 48 rfl) ml_13_497 mv_X13_push rfl rfl (by decide) rfl (Nat.le_of_ble_eq_true rfl) rfl he27 h1 hc28 (RV.k fun  S29 h => ?_)
      exact h
  · have h := h.2 q4
    refine V_iinc (y := _ + 1) (pc2 := 14) (lv2 := [(0, _), (1, _), (2, _)]) (dk D_X13_start 7 rfl) (V_lg 2 rfl) rfl (by decide) rfl rfl ?_
    refine V_goto (tgt := 2) (dk D_X13_start 8 rfl) (by decide) ?_
    exact h
theorem w_X13_start_77 {X : Cx} {d : Nat} {S : Mem} {Q : Res → Mem → Prop} (r0 : Nat) (x1 : Int32) (x2 : Int32) (h : (isK S r0 13) ∧ (isK S (gR S r0 50) 21) ∧ (vp_in x1 (gN S (gR S r0 50))) ∧ (vp_in x1 (gN S (gR S r0 50))) ∧ (isK S (gR S r0 20) 21) ∧ (vp_in (gI S (gR S r0 50) (x1 : Int32).toNatClampNeg) (gN S (gR S r0 20))) ∧ ∃ e7 : Nat, e7 + 1 ≤ d ∧ C X e7 MX13_enter [vR r0, vI x1, vI (gI S (gR S r0 50) (x1 : Int32).toNatClampNeg), vI (gI S (gR S r0 20) ((gI S (gR S r0 50) (x1 : Int32).toNatClampNeg) : Int32).toNatClampNeg)] S (RV fun  S10 => Q (.inl none) S10)) : V X d MX13_start 77 [(0, vR r0), (1, vI x1), (2, vI x2)] [] S Q := by
  refine V_aload_n (pc2 := 78) (dk D_X13_start 49 rfl) rfl (V_lg 0 rfl) rfl ?_
  refine V_iload_n (pc2 := 79) (dk D_X13_start 50 rfl) rfl (V_lg 1 rfl) rfl ?_
  refine V_aload_n (pc2 := 80) (dk D_X13_start 51 rfl) rfl (V_lg 0 rfl) rfl ?_
  obtain ⟨h1, h⟩ := h
  refine V_getR kc13 (pc2 := 83) 50 (dk D_X13_start 52 rfl) fl_13_164 (by decide) (fun _ => rfl) rfl h1 ?_
  refine V_iload_n (pc2 := 84) (dk D_X13_start 53 rfl) rfl (V_lg 1 rfl) rfl ?_
  obtain ⟨h2, h⟩ := h
  obtain ⟨h3, h⟩ := h
  refine V_iald (pc2 := 85) (dk D_X13_start 54 rfl) rfl h2 h3 ?_
  refine V_aload_n (pc2 := 86) (dk D_X13_start 55 rfl) rfl (V_lg 0 rfl) rfl ?_
  refine V_getR kc13 (pc2 := 89) 20 (dk D_X13_start 56 rfl) fl_13_107 (by decide) (fun _ => rfl) rfl h1 ?_
  refine V_aload_n (pc2 := 90) (dk D_X13_start 57 rfl) rfl (V_lg 0 rfl) rfl ?_
  refine V_getR kc13 (pc2 := 93) 50 (dk D_X13_start 58 rfl) fl_13_164 (by decide) (fun _ => rfl) rfl h1 ?_
  refine V_iload_n (pc2 := 94) (dk D_X13_start 59 rfl) rfl (V_lg 1 rfl) rfl ?_
  obtain ⟨h4, h⟩ := h
  refine V_iald (pc2 := 95) (dk D_X13_start 60 rfl) rfl h2 h4 ?_
  obtain ⟨h5, h⟩ := h
  obtain ⟨h6, h⟩ := h
  refine V_iald (pc2 := 96) (dk D_X13_start 61 rfl) rfl h5 h6 ?_
  obtain ⟨e7, he8, hc9⟩ := h
  refine V_callV (as := [_, _, _]) (st := []) (M' := MX13_enter) (ci := 13) (pc2 := 99) (dk D_X13_start 62 rfl) ml_13_501 mv_X13_enter rfl rfl (by decide) rfl (Nat.le_of_ble_eq_true rfl) rfl he8 h1 hc9 (RV.k fun  S10 h => ?_)
  exact V_return (dk D_X13_start 63 rfl) rfl h
def L_X13_over : List (Nat × Instr × Nat) := [(0, .aload_n 0, 1), (1, .getfield 161, 3), (4, .iload_n 1, 1), (5, .iload_n 2, 1), (6, .iastore, 1), (7, .aload_n 0, 1), (8, .dup, 1), (9, .getfield 464, 3), (12, .iconst 1, 1), (13, .isub, 1), (14, .putfield 464, 3), (17, .aload_n 0, 1), (18, .getfield 189, 3), (21, .iload_n 1, 1), (22, .iaload, 1), (23, .ifCond .lt 23, 3), (26, .aload_n 0, 1), (27, .getfield 192, 3), (30, .aload_n 0, 1), (31, .getfield 189, 3), (34, .iload_n 1, 1), (35, .iaload, 1), (36, .iconst 0, 1), (37, .bastore, 1), (38, .aload_n 0, 1), (39, .getfield 189, 3), (42, .iload_n 1, 1), (43, .bipush (-9), 2), (45, .iastore, 1), (46, .return_, 1)]
theorem D_X13_over : dOk cX13_over L_X13_over = true := by decide +kernel
theorem w_X13_over_0 {X : Cx} {d : Nat} {S : Mem} {Q : Res → Mem → Prop} (r0 : Nat) (x1 : Int32) (x2 : Int32) (h : (isK S r0 13) ∧ (isK S (gR S r0 49) 21) ∧ (vp_in x1 (gN S (gR S r0 49))) ∧ ∀ S4 : Mem, S4 = uI S (gR S r0 49) ((x1 : Int32).toNatClampNeg) x2 → ∀ S5 : Mem, S5 = uI S4 r0 48 ((gI S4 r0 48) - 1) → (isK S (gR S r0 58) 21) ∧ (vp_in x1 (gN S (gR S r0 58))) ∧ (((gI S5 (gR S r0 58) (x1 : Int32).toNatClampNeg) < 0 → V X d MX13_over 46 [(0, vR r0), (1, vI x1), (2, vI x2)] [] S5 Q) ∧ (¬ (gI S5 (gR S r0 58) (x1 : Int32).toNatClampNeg) < 0 → (vp_in x1 (gN S (gR S r0 58))) ∧ (isK S (gR S r0 59) 23) ∧ (vp_in (gI S5 (gR S r0 58) (x1 : Int32).toNatClampNeg) (gN S (gR S r0 59))) ∧ ∀ S12 : Mem, S12 = uI S5 (gR S r0 59) (((gI S5 (gR S r0 58) (x1 : Int32).toNatClampNeg) : Int32).toNatClampNeg) 0 → (vp_in x1 (gN S (gR S r0 58))) ∧ ∀ S14 : Mem, S14 = uI S12 (gR S r0 58) ((x1 : Int32).toNatClampNeg) (-9) → V X d MX13_over 46 [(0, vR r0), (1, vI x1), (2, vI x2)] [] S14 Q))) : V X d MX13_over 0 [(0, vR r0), (1, vI x1), (2, vI x2)] [] S Q := by
  refine V_aload_n (pc2 := 1) (dk D_X13_over 0 rfl) rfl (V_lg 0 rfl) rfl ?_
  obtain ⟨h1, h⟩ := h
  refine V_getR kc13 (pc2 := 4) 49 (dk D_X13_over 1 rfl) fl_13_161 (by decide) (fun _ => rfl) rfl h1 ?_
  refine V_iload_n (pc2 := 5) (dk D_X13_over 2 rfl) rfl (V_lg 1 rfl) rfl ?_
  refine V_iload_n (pc2 := 6) (dk D_X13_over 3 rfl) rfl (V_lg 2 rfl) rfl ?_
  obtain ⟨h2, h⟩ := h
  obtain ⟨h3, h⟩ := h
  refine V_iast (pc2 := 7) (dk D_X13_over 4 rfl) rfl h2 h3 ?_
  have h := h _ rfl
  refine V_aload_n (pc2 := 8) (dk D_X13_over 5 rfl) rfl (V_lg 0 rfl) rfl ?_
  refine V_dup (pc2 := 9) (dk D_X13_over 6 rfl) rfl rfl ?_
  refine V_getI kc13 (pc2 := 12) 48 (dk D_X13_over 7 rfl) fl_13_464 (by decide) (fun _ => rfl) rfl h1 ?_
  refine V_iconst (x := 1) (pc2 := 13) (dk D_X13_over 8 rfl) (by decide) rfl ?_
  refine V_isub (pc2 := 14) (dk D_X13_over 9 rfl) rfl ?_
  refine V_putI kc13 (pc2 := 17) 48 (dk D_X13_over 10 rfl) fl_13_464 (by decide) (Or.inl rfl) rfl rfl h1 ?_
  have h := h _ rfl
  refine V_aload_n (pc2 := 18) (dk D_X13_over 11 rfl) rfl (V_lg 0 rfl) rfl ?_
  refine V_getR kc13 (pc2 := 21) 58 (dk D_X13_over 12 rfl) fl_13_189 (by decide) (fun _ => rfl) rfl h1 ?_
  refine V_iload_n (pc2 := 22) (dk D_X13_over 13 rfl) rfl (V_lg 1 rfl) rfl ?_
  obtain ⟨h6, h⟩ := h
  obtain ⟨h7, h⟩ := h
  refine V_iald (pc2 := 23) (dk D_X13_over 14 rfl) rfl h6 h7 ?_
  refine V_iflt (tgt := 46) (pc2 := 26) (dk D_X13_over 15 rfl) (by decide) rfl (fun q8 => ?_) (fun q8 => ?_)
  · have h := h.1 q8
    exact h
  · have h := h.2 q8
    refine V_aload_n (pc2 := 27) (dk D_X13_over 16 rfl) rfl (V_lg 0 rfl) rfl ?_
    refine V_getR kc13 (pc2 := 30) 59 (dk D_X13_over 17 rfl) fl_13_192 (by decide) (fun _ => rfl) rfl h1 ?_
    refine V_aload_n (pc2 := 31) (dk D_X13_over 18 rfl) rfl (V_lg 0 rfl) rfl ?_
    refine V_getR kc13 (pc2 := 34) 58 (dk D_X13_over 19 rfl) fl_13_189 (by decide) (fun _ => rfl) rfl h1 ?_
    refine V_iload_n (pc2 := 35) (dk D_X13_over 20 rfl) rfl (V_lg 1 rfl) rfl ?_
    obtain ⟨h9, h⟩ := h
    refine V_iald (pc2 := 36) (dk D_X13_over 21 rfl) rfl h6 h9 ?_
    refine V_iconst (x := 0) (pc2 := 37) (dk D_X13_over 22 rfl) (by decide) rfl ?_
    obtain ⟨h10, h⟩ := h
    obtain ⟨h11, h⟩ := h
    refine V_zast (pc2 := 38) (dk D_X13_over 23 rfl) rfl h10 h11 (Or.inl rfl) ?_
    have h := h _ rfl
    refine V_aload_n (pc2 := 39) (dk D_X13_over 24 rfl) rfl (V_lg 0 rfl) rfl ?_
    refine V_getR kc13 (pc2 := 42) 58 (dk D_X13_over 25 rfl) fl_13_189 (by decide) (fun _ => rfl) rfl h1 ?_
    refine V_iload_n (pc2 := 43) (dk D_X13_over 26 rfl) rfl (V_lg 1 rfl) rfl ?_
    refine V_bipush (x := (-9)) (pc2 := 45) (dk D_X13_over 27 rfl) (by decide) rfl ?_
    obtain ⟨h13, h⟩ := h
    refine V_iast (pc2 := 46) (dk D_X13_over 28 rfl) rfl h6 h13 ?_
    have h := h _ rfl
    exact h
theorem w_X13_over_46 {X : Cx} {d : Nat} {S : Mem} {Q : Res → Mem → Prop} (r0 : Nat) (x1 : Int32) (x2 : Int32) (h : Q (.inl none) S) : V X d MX13_over 46 [(0, vR r0), (1, vI x1), (2, vI x2)] [] S Q := by
  exact V_return (dk D_X13_over 29 rfl) rfl h
def L_X13_placeOf : List (Nat × Instr × Nat) := [(0, .iload_n 1, 1), (1, .ifCond .ne 8, 3), (4, .bipush (-9), 2), (6, .goto 13, 3), (9, .aload_n 0, 1), (10, .getfield 204, 3), (13, .aload_n 0, 1), (14, .iload_n 1, 1), (15, .invokevirtual 504, 3), (18, .iaload, 1), (19, .ireturn, 1)]
theorem D_X13_placeOf : dOk cX13_placeOf L_X13_placeOf = true := by decide +kernel
theorem w_X13_placeOf_0 {X : Cx} {d : Nat} {S : Mem} {Q : Res → Mem → Prop} (r0 : Nat) (x1 : Int32) (h : ((¬ x1 = 0 → (isK S r0 13) ∧ ∃ e3 : Nat, e3 + 1 ≤ d ∧ C X e3 MX13_call [vR r0, vI x1] S (RI fun y6 S7 => (isK S7 (gR S r0 63) 21) ∧ (vp_in y6 (gN S7 (gR S r0 63))) ∧ V X d MX13_placeOf 19 [(0, vR r0), (1, vI x1)] [vI (gI S7 (gR S r0 63) (y6 : Int32).toNatClampNeg)] S7 Q)) ∧ (x1 = 0 → V X d MX13_placeOf 19 [(0, vR r0), (1, vI x1)] [vI (-9)] S Q))) : V X d MX13_placeOf 0 [(0, vR r0), (1, vI x1)] [] S Q := by
  refine V_iload_n (pc2 := 1) (dk D_X13_placeOf 0 rfl) rfl (V_lg 1 rfl) rfl ?_
  refine V_ifne (tgt := 9) (pc2 := 4) (dk D_X13_placeOf 1 rfl) (by decide) rfl (fun q1 => ?_) (fun q1 => ?_)
  · have h := h.1 q1
    refine V_aload_n (pc2 := 10) (dk D_X13_placeOf 4 rfl) rfl (V_lg 0 rfl) rfl ?_
    obtain ⟨h2, h⟩ := h
    refine V_getR kc13 (pc2 := 13) 63 (dk D_X13_placeOf 5 rfl) fl_13_204 (by decide) (fun _ => rfl) rfl h2 ?_
    refine V_aload_n (pc2 := 14) (dk D_X13_placeOf 6 rfl) rfl (V_lg 0 rfl) rfl ?_
    refine V_iload_n (pc2 := 15) (dk D_X13_placeOf 7 rfl) rfl (V_lg 1 rfl) rfl ?_
    obtain ⟨e3, he4, hc5⟩ := h
    refine V_callV (as := [_]) (st := [_]) (M' := MX13_call) (ci := 13) (pc2 := 18) (dk D_X13_placeOf 8 rfl) ml_13_504 mv_X13_call rfl rfl (by decide) rfl (Nat.le_of_ble_eq_true rfl) rfl he4 h2 hc5 (RI.k fun y6 S7 h => ?_)
    obtain ⟨h8, h⟩ := h
    obtain ⟨h9, h⟩ := h
    refine V_iald (pc2 := 19) (dk D_X13_placeOf 9 rfl) rfl h8 h9 ?_
    exact h
  · have h := h.2 q1
    refine V_bipush (x := (-9)) (pc2 := 6) (dk D_X13_placeOf 2 rfl) (by decide) rfl ?_
    refine V_goto (tgt := 19) (dk D_X13_placeOf 3 rfl) (by decide) ?_
    exact h
theorem w_X13_placeOf_19 {X : Cx} {d : Nat} {S : Mem} {Q : Res → Mem → Prop} (r0 : Nat) (x1 : Int32) (t0 : Int32) (h : Q (.inl (some (vI t0))) S) : V X d MX13_placeOf 19 [(0, vR r0), (1, vI x1)] [vI t0] S Q := by
  exact V_ireturn (dk D_X13_placeOf 10 rfl) rfl h
def L_X13_step : List (Nat × Instr × Nat) := [(0, .aload_n 0, 1), (1, .getfield 467, 3), (4, .sipush 6000, 3), (7, .if_icmp .ne 10, 3), (10, .aload_n 0, 1), (11, .iload_n 1, 1), (12, .invokevirtual 507, 3), (15, .iconst 0, 1), (16, .ireturn, 1), (17, .aload_n 0, 1), (18, .dup, 1), (19, .getfield 467, 3), (22, .iconst 1, 1), (23, .iadd, 1), (24, .putfield 467, 3), (27, .aload_n 0, 1), (28, .getfield 170, 3), (31, .iload_n 1, 1), (32, .dup2, 1), (33, .iaload, 1), (34, .iconst 1, 1), (35, .iadd, 1), (36, .iastore, 1), (37, .iconst 1, 1), (38, .ireturn, 1)]
theorem D_X13_step : dOk cX13_step L_X13_step = true := by decide +kernel
theorem w_X13_step_0 {X : Cx} {d : Nat} {S : Mem} {Q : Res → Mem → Prop} (r0 : Nat) (x1 : Int32) (h : (isK S r0 13) ∧ ((¬ (gI S r0 75) = 6000 → ∀ S3 : Mem, S3 = uI S r0 75 ((gI S r0 75) + 1) → (isK S (gR S r0 52) 21) ∧ (vp_in x1 (gN S (gR S r0 52))) ∧ (vp_in x1 (gN S (gR S r0 52))) ∧ ∀ S7 : Mem, S7 = uI S3 (gR S r0 52) ((x1 : Int32).toNatClampNeg) ((gI S3 (gR S r0 52) (x1 : Int32).toNatClampNeg) + 1) → Q (.inl (some (vI 1))) S7) ∧ ((gI S r0 75) = 6000 → ∃ e8 : Nat, e8 + 1 ≤ d ∧ C X e8 MX13_spend [vR r0, vI x1] S (RV fun  S11 => Q (.inl (some (vI 0))) S11)))) : V X d MX13_step 0 [(0, vR r0), (1, vI x1)] [] S Q := by
  refine V_aload_n (pc2 := 1) (dk D_X13_step 0 rfl) rfl (V_lg 0 rfl) rfl ?_
  obtain ⟨h1, h⟩ := h
  refine V_getI kc13 (pc2 := 4) 75 (dk D_X13_step 1 rfl) fl_13_467 (by decide) (fun _ => rfl) rfl h1 ?_
  refine V_sipush (x := 6000) (pc2 := 7) (dk D_X13_step 2 rfl) (by decide) rfl ?_
  refine V_cmpne (tgt := 17) (pc2 := 10) (dk D_X13_step 3 rfl) (by decide) rfl (fun q2 => ?_) (fun q2 => ?_)
  · have h := h.1 q2
    refine V_aload_n (pc2 := 18) (dk D_X13_step 9 rfl) rfl (V_lg 0 rfl) rfl ?_
    refine V_dup (pc2 := 19) (dk D_X13_step 10 rfl) rfl rfl ?_
    refine V_getI kc13 (pc2 := 22) 75 (dk D_X13_step 11 rfl) fl_13_467 (by decide) (fun _ => rfl) rfl h1 ?_
    refine V_iconst (x := 1) (pc2 := 23) (dk D_X13_step 12 rfl) (by decide) rfl ?_
    refine V_iadd (pc2 := 24) (dk D_X13_step 13 rfl) rfl ?_
    refine V_putI kc13 (pc2 := 27) 75 (dk D_X13_step 14 rfl) fl_13_467 (by decide) (Or.inl rfl) rfl rfl h1 ?_
    have h := h _ rfl
    refine V_aload_n (pc2 := 28) (dk D_X13_step 15 rfl) rfl (V_lg 0 rfl) rfl ?_
    refine V_getR kc13 (pc2 := 31) 52 (dk D_X13_step 16 rfl) fl_13_170 (by decide) (fun _ => rfl) rfl h1 ?_
    refine V_iload_n (pc2 := 32) (dk D_X13_step 17 rfl) rfl (V_lg 1 rfl) rfl ?_
    refine V_dup2 (pc2 := 33) (dk D_X13_step 18 rfl) rfl rfl rfl ?_
    obtain ⟨h4, h⟩ := h
    obtain ⟨h5, h⟩ := h
    refine V_iald (pc2 := 34) (dk D_X13_step 19 rfl) rfl h4 h5 ?_
    refine V_iconst (x := 1) (pc2 := 35) (dk D_X13_step 20 rfl) (by decide) rfl ?_
    refine V_iadd (pc2 := 36) (dk D_X13_step 21 rfl) rfl ?_
    obtain ⟨h6, h⟩ := h
    refine V_iast (pc2 := 37) (dk D_X13_step 22 rfl) rfl h4 h6 ?_
    have h := h _ rfl
    refine V_iconst (x := 1) (pc2 := 38) (dk D_X13_step 23 rfl) (by decide) rfl ?_
    exact V_zreturn (dk D_X13_step 24 rfl) rfl (Or.inr rfl) h
  · have h := h.2 q2
    refine V_aload_n (pc2 := 11) (dk D_X13_step 4 rfl) rfl (V_lg 0 rfl) rfl ?_
    refine V_iload_n (pc2 := 12) (dk D_X13_step 5 rfl) rfl (V_lg 1 rfl) rfl ?_
    obtain ⟨e8, he9, hc10⟩ := h
    refine V_callV (as := [_]) (st := []) (M' := MX13_spend) (ci := 13) (pc2 := 15) (dk D_X13_step 6 rfl) ml_13_507 mv_X13_spend rfl rfl (by decide) rfl (Nat.le_of_ble_eq_true rfl) rfl he9 h1 hc10 (RV.k fun  S11 h => ?_)
    refine V_iconst (x := 0) (pc2 := 16) (dk D_X13_step 7 rfl) (by decide) rfl ?_
    exact V_zreturn (dk D_X13_step 8 rfl) rfl (Or.inl rfl) h
def L_X13_spend : List (Nat × Instr × Nat) := [(0, .aload_n 0, 1), (1, .iconst 1, 1), (2, .putfield 470, 3), (5, .iconst 1, 1), (6, .istore_n 2, 1), (7, .iload_n 2, 1), (8, .aload_n 0, 1), (9, .getfield 461, 3), (12, .if_icmp .gt 23, 3), (15, .aload_n 0, 1), (16, .iload_n 2, 1), (17, .invokevirtual 510, 3), (20, .ifCond .ne 9, 3), (23, .aload_n 0, 1), (24, .iload_n 2, 1), (25, .iconst 5, 1), (26, .invokevirtual 513, 3), (29, .iinc 2 1, 3), (32, .goto (-25), 3), (35, .aload_n 0, 1), (36, .iload_n 1, 1), (37, .iconst 0, 1), (38, .invokevirtual 516, 3), (41, .aload_n 0, 1), (42, .iconst 0, 1), (43, .putfield 473, 3), (46, .aload_n 0, 1), (47, .iconst 4, 1), (48, .putfield 519, 3), (51, .return_, 1)]
theorem D_X13_spend : dOk cX13_spend L_X13_spend = true := by decide +kernel
theorem w_X13_spend_0 {X : Cx} {d : Nat} {S : Mem} {Q : Res → Mem → Prop} (r0 : Nat) (x1 : Int32) (h : (isK S r0 13) ∧ ∀ S2 : Mem, S2 = uI S r0 76 1 → V X d MX13_spend 7 [(0, vR r0), (1, vI x1), (2, vI 1)] [] S2 Q) : V X d MX13_spend 0 [(0, vR r0), (1, vI x1)] [] S Q := by
  refine V_aload_n (pc2 := 1) (dk D_X13_spend 0 rfl) rfl (V_lg 0 rfl) rfl ?_
  refine V_iconst (x := 1) (pc2 := 2) (dk D_X13_spend 1 rfl) (by decide) rfl ?_
  obtain ⟨h1, h⟩ := h
  refine V_putZ kc13 (pc2 := 5) 76 (dk D_X13_spend 2 rfl) fl_13_470 (by decide) (Or.inl rfl) rfl rfl h1 (Or.inr rfl) ?_
  have h := h _ rfl
  refine V_iconst (x := 1) (pc2 := 6) (dk D_X13_spend 3 rfl) (by decide) rfl ?_
  refine V_istore_n (pc2 := 7) (lv2 := [(0, _), (1, _), (2, _)]) (dk D_X13_spend 4 rfl) rfl (by decide) rfl rfl ?_
  exact h
theorem w_X13_spend_7 {X : Cx} {d : Nat} {S : Mem} {Q : Res → Mem → Prop} (r0 : Nat) (x1 : Int32) (x2 : Int32) (h : (isK S r0 13) ∧ (((gI S r0 47) < x2 → ∃ e3 : Nat, e3 + 1 ≤ d ∧ C X e3 MX13_hands [vR r0, vI x1, vI 0] S (RV fun  S6 => (isK S6 r0 13) ∧ ∀ S8 : Mem, S8 = uI S6 r0 77 0 → ∀ S9 : Mem, S9 = uI S8 r0 78 4 → Q (.inl none) S9)) ∧ (¬ (gI S r0 47) < x2 → ∃ e10 : Nat, e10 + 1 ≤ d ∧ C X e10 MX13_isOver [vR r0, vI x2] S (RI fun y13 S14 => ((¬ y13 = 0 → V X d MX13_spend 29 [(0, vR r0), (1, vI x1), (2, vI x2)] [] S14 Q) ∧ (y13 = 0 → (isK S14 r0 13) ∧ ∃ e16 : Nat, e16 + 1 ≤ d ∧ C X e16 MX13_over [vR r0, vI x2, vI 5] S14 (RV fun  S19 => V X d MX13_spend 29 [(0, vR r0), (1, vI x1), (2, vI x2)] [] S19 Q))))))) : V X d MX13_spend 7 [(0, vR r0), (1, vI x1), (2, vI x2)] [] S Q := by
  refine V_iload_n (pc2 := 8) (dk D_X13_spend 5 rfl) rfl (V_lg 2 rfl) rfl ?_
  refine V_aload_n (pc2 := 9) (dk D_X13_spend 6 rfl) rfl (V_lg 0 rfl) rfl ?_
  obtain ⟨h1, h⟩ := h
  refine V_getI kc13 (pc2 := 12) 47 (dk D_X13_spend 7 rfl) fl_13_461 (by decide) (fun _ => rfl) rfl h1 ?_
  refine V_cmpgt (tgt := 35) (pc2 := 15) (dk D_X13_spend 8 rfl) (by decide) rfl (fun q2 => ?_) (fun q2 => ?_)
  · have h := h.1 q2
    refine V_aload_n (pc2 := 36) (dk D_X13_spend 19 rfl) rfl (V_lg 0 rfl) rfl ?_
    refine V_iload_n (pc2 := 37) (dk D_X13_spend 20 rfl) rfl (V_lg 1 rfl) rfl ?_
    refine V_iconst (x := 0) (pc2 := 38) (dk D_X13_spend 21 rfl) (by decide) rfl ?_
    obtain ⟨e3, he4, hc5⟩ := h
    refine V_callV (as := [_, _]) (st := []) (M' := MX13_hands) (ci := 13) (pc2 := 41) (dk D_X13_spend 22 rfl) ml_13_516 mv_X13_hands rfl rfl (by decide) rfl (Nat.le_of_ble_eq_true rfl) rfl he4 h1 hc5 (RV.k fun  S6 h => ?_)
    refine V_aload_n (pc2 := 42) (dk D_X13_spend 23 rfl) rfl (V_lg 0 rfl) rfl ?_
    refine V_iconst (x := 0) (pc2 := 43) (dk D_X13_spend 24 rfl) (by decide) rfl ?_
    obtain ⟨h7, h⟩ := h
    refine V_putI kc13 (pc2 := 46) 77 (dk D_X13_spend 25 rfl) fl_13_473 (by decide) (Or.inl rfl) rfl rfl h7 ?_
    have h := h _ rfl
    refine V_aload_n (pc2 := 47) (dk D_X13_spend 26 rfl) rfl (V_lg 0 rfl) rfl ?_
    refine V_iconst (x := 4) (pc2 := 48) (dk D_X13_spend 27 rfl) (by decide) rfl ?_
    refine V_putI kc13 (pc2 := 51) 78 (dk D_X13_spend 28 rfl) fl_13_519 (by decide) (Or.inl rfl) rfl rfl h7 ?_
    have h := h _ rfl
    exact V_return (dk D_X13_spend 29 rfl) rfl h
  · have h := h.2 q2
    refine V_aload_n (pc2 := 16) (dk D_X13_spend 9 rfl) rfl (V_lg 0 rfl) rfl ?_
    refine V_iload_n (pc2 := 17) (dk D_X13_spend 10 rfl) rfl (V_lg 2 rfl) rfl ?_
    obtain ⟨e10, he11, hc12⟩ := h
    refine V_callV (as := [_]) (st := []) (M' := MX13_isOver) (ci := 13) (pc2 := 20) (dk D_X13_spend 11 rfl) ml_13_510 mv_X13_isOver rfl rfl (by decide) rfl (Nat.le_of_ble_eq_true rfl) rfl he11 h1 hc12 (RI.k fun y13 S14 h => ?_)
    refine V_ifne (tgt := 29) (pc2 := 23) (dk D_X13_spend 12 rfl) (by decide) rfl (fun q15 => ?_) (fun q15 => ?_)
    · have h := h.1 q15
      exact h
    · have h := h.2 q15
      refine V_aload_n (pc2 := 24) (dk D_X13_spend 13 rfl) rfl (V_lg 0 rfl) rfl ?_
      refine V_iload_n (pc2 := 25) (dk D_X13_spend 14 rfl) rfl (V_lg 2 rfl) rfl ?_
      refine V_iconst (x := 5) (pc2 := 26) (dk D_X13_spend 15 rfl) (by decide) rfl ?_
      obtain ⟨h20, h⟩ := h
      obtain ⟨e16, he17, hc18⟩ := h
      refine V_callV (as := [_, _]) (st := []) (M' := MX13_over) (ci := 13) (pc2 := 29) (dk D_X13_spend 16 rfl) ml_13_513 mv_X13_over rfl rfl (by decide) rfl (Nat.le_of_ble_eq_true rfl) rfl he17 h20 hc18 (RV.k fun  S19 h => ?_)
      exact h
theorem w_X13_spend_29 {X : Cx} {d : Nat} {S : Mem} {Q : Res → Mem → Prop} (r0 : Nat) (x1 : Int32) (x2 : Int32) (h : V X d MX13_spend 7 [(0, vR r0), (1, vI x1), (2, vI (x2 + 1))] [] S Q) : V X d MX13_spend 29 [(0, vR r0), (1, vI x1), (2, vI x2)] [] S Q := by
  refine V_iinc (y := _ + 1) (pc2 := 32) (lv2 := [(0, _), (1, _), (2, _)]) (dk D_X13_spend 17 rfl) (V_lg 2 rfl) rfl (by decide) rfl rfl ?_
  refine V_goto (tgt := 7) (dk D_X13_spend 18 rfl) (by decide) ?_
  exact h
def L_X13_arises : List (Nat × Instr × Nat) := [(0, .aload_n 0, 1), (1, .iload_n 1, 1), (2, .aload_n 0, 1), (3, .iload_n 2, 1), (4, .iconst 0, 1), (5, .iload_n 1, 1), (6, .aload_n 0, 1), (7, .iload_n 1, 1), (8, .invokevirtual 522, 3), (11, .bipush (-9), 2), (13, .invokevirtual 525, 3), (16, .invokevirtual 529, 3), (19, .return_, 1)]
theorem D_X13_arises : dOk cX13_arises L_X13_arises = true := by decide +kernel
theorem w_X13_arises_0 {X : Cx} {d : Nat} {S : Mem} {Q : Res → Mem → Prop} (r0 : Nat) (x1 : Int32) (x2 : Int32) (h : (isK S r0 13) ∧ ∃ e1 : Nat, e1 + 1 ≤ d ∧ C X e1 MX13_placeOf [vR r0, vI x1] S (RI fun y4 S5 => (isK S5 r0 13) ∧ ∃ e7 : Nat, e7 + 1 ≤ d ∧ C X e7 MX13_failure [vR r0, vI x2, vI 0, vI x1, vI y4, vI (-9)] S5 (RI fun y10 S11 => (isK S11 r0 13) ∧ ∃ e13 : Nat, e13 + 1 ≤ d ∧ C X e13 MX13_raise [vR r0, vI x1, vI y10] S11 (RV fun  S16 => Q (.inl none) S16)))) : V X d MX13_arises 0 [(0, vR r0), (1, vI x1), (2, vI x2)] [] S Q := by
  refine V_aload_n (pc2 := 1) (dk D_X13_arises 0 rfl) rfl (V_lg 0 rfl) rfl ?_
  refine V_iload_n (pc2 := 2) (dk D_X13_arises 1 rfl) rfl (V_lg 1 rfl) rfl ?_
  refine V_aload_n (pc2 := 3) (dk D_X13_arises 2 rfl) rfl (V_lg 0 rfl) rfl ?_
  refine V_iload_n (pc2 := 4) (dk D_X13_arises 3 rfl) rfl (V_lg 2 rfl) rfl ?_
  refine V_iconst (x := 0) (pc2 := 5) (dk D_X13_arises 4 rfl) (by decide) rfl ?_
  refine V_iload_n (pc2 := 6) (dk D_X13_arises 5 rfl) rfl (V_lg 1 rfl) rfl ?_
  refine V_aload_n (pc2 := 7) (dk D_X13_arises 6 rfl) rfl (V_lg 0 rfl) rfl ?_
  refine V_iload_n (pc2 := 8) (dk D_X13_arises 7 rfl) rfl (V_lg 1 rfl) rfl ?_
  obtain ⟨h6, h⟩ := h
  obtain ⟨e1, he2, hc3⟩ := h
  refine V_callV (as := [_]) (st := [_, _, _, _, _, _]) (M' := MX13_placeOf) (ci := 13) (pc2 := 11) (dk D_X13_arises 8 rfl) ml_13_522 mv_X13_placeOf rfl rfl (by decide) rfl (Nat.le_of_ble_eq_true rfl) rfl he2 h6 hc3 (RI.k fun y4 S5 h => ?_)
  refine V_bipush (x := (-9)) (pc2 := 13) (dk D_X13_arises 9 rfl) (by decide) rfl ?_
  obtain ⟨h12, h⟩ := h
  obtain ⟨e7, he8, hc9⟩ := h
  refine V_callV (as := [_, _, _, _, _]) (st := [_, _]) (M' := MX13_failure) (ci := 13) (pc2 := 16) (dk D_X13_arises 10 rfl) ml_13_525 mv_X13_failure rfl rfl (by decide) rfl (Nat.le_of_ble_eq_true rfl) rfl he8 h12 hc9 (RI.k fun y10 S11 h => ?_)
  obtain ⟨h17, h⟩ := h
  obtain ⟨e13, he14, hc15⟩ := h
  refine V_callV (as := [_, _]) (st := []) (M' := MX13_raise) (ci := 13) (pc2 := 19) (dk D_X13_arises 11 rfl) ml_13_529 mv_X13_raise rfl rfl (by decide) rfl (Nat.le_of_ble_eq_true rfl) rfl he14 h17 hc15 (RV.k fun  S16 h => ?_)
  exact V_return (dk D_X13_arises 12 rfl) rfl h
def L_X13_raiseIn : List (Nat × Instr × Nat) := [(0, .aload_n 0, 1), (1, .getfield 189, 3), (4, .iload_n 1, 1), (5, .iaload, 1), (6, .istore_n 3, 1), (7, .aload_n 0, 1), (8, .iload_n 1, 1), (9, .invokevirtual 504, 3), (12, .istore 4, 2), (14, .aload_n 0, 1), (15, .getfield 219, 3), (18, .iload_n 3, 1), (19, .iaload, 1), (20, .aload_n 0, 1), (21, .getfield 207, 3), (24, .iload 4, 2), (26, .iaload, 1), (27, .if_icmp .ne 29, 3), (30, .aload_n 0, 1), (31, .getfield 195, 3), (34, .iload_n 3, 1), (35, .dup2, 1), (36, .iaload, 1), (37, .iconst 1, 1), (38, .isub, 1), (39, .iastore, 1), (40, .aload_n 0, 1), (41, .getfield 195, 3), (44, .iload_n 3, 1), (45, .iaload, 1), (46, .ifCond .ne (-39), 3), (49, .aload_n 0, 1), (50, .iload_n 1, 1), (51, .iload_n 2, 1), (52, .invokevirtual 532, 3), (55, .return_, 1), (56, .sipush 1500, 3), (59, .iload_n 3, 1), (60, .imul, 1), (61, .aload_n 0, 1), (62, .getfield 219, 3), (65, .iload_n 3, 1), (66, .iaload, 1), (67, .iadd, 1), (68, .iconst 1, 1), (69, .isub, 1), (70, .istore 5, 2), (72, .aload_n 0, 1), (73, .getfield 222, 3), (76, .iload 5, 2), (78, .iaload, 1), (79, .istore 6, 2), (81, .aload_n 0, 1), (82, .getfield 225, 3), (85, .iload 5, 2), (87, .iaload, 1), (88, .ifCond .ne 17, 3), (91, .aload_n 0, 1), (92, .iload_n 1, 1), (93, .iload 4, 2), (95, .iload 5, 2), (97, .iload_n 2, 1), (98, .invokevirtual 535, 3), (101, .ifCond .eq 4, 3), (104, .return_, 1), (105, .aload_n 0, 1), (106, .getfield 225, 3), (109, .iload 5, 2), (111, .iaload, 1), (112, .iconst 2, 1), (113, .if_icmp .ge 23, 3), (116, .aload_n 0, 1), (117, .getfield 125, 3), (120, .iload 6, 2), (122, .iaload, 1), (123, .ifCond .lt 13, 3), (126, .aload_n 0, 1), (127, .iload_n 1, 1), (128, .iload 5, 2), (130, .iconst 1, 1), (131, .iload_n 2, 1), (132, .invokevirtual 539, 3), (135, .return_, 1), (136, .aload_n 0, 1), (137, .getfield 225, 3), (140, .iload 5, 2), (142, .iaload, 1), (143, .iconst 2, 1), (144, .if_icmp .ne 26, 3), (147, .aload_n 0, 1), (148, .getfield 228, 3), (151, .iload 5, 2), (153, .iaload, 1), (154, .iconst 1, 1), (155, .if_icmp .ne 15, 3), (158, .aload_n 0, 1), (159, .aload_n 0, 1), (160, .getfield 231, 3), (163, .iload 5, 2), (165, .iaload, 1), (166, .iload_n 2, 1), (167, .invokevirtual 543, 3), (170, .aload_n 0, 1), (171, .getfield 219, 3), (174, .iload_n 3, 1), (175, .dup2, 1), (176, .iaload, 1), (177, .iconst 1, 1), (178, .isub, 1), (179, .iastore, 1), (180, .goto (-173), 3)]
theorem D_X13_raiseIn : dOk cX13_raiseIn L_X13_raiseIn = true := by decide +kernel
theorem w_X13_raiseIn_0 {X : Cx} {d : Nat} {S : Mem} {Q : Res → Mem → Prop} (r0 : Nat) (x1 : Int32) (x2 : Int32) (h : (isK S r0 13) ∧ (isK S (gR S r0 58) 21) ∧ (vp_in x1 (gN S (gR S r0 58))) ∧ V X d MX13_raiseIn 7 [(0, vR r0), (1, vI x1), (2, vI x2), (3, vI (gI S (gR S r0 58) (x1 : Int32).toNatClampNeg))] [] S Q) : V X d MX13_raiseIn 0 [(0, vR r0), (1, vI x1), (2, vI x2)] [] S Q := by
  refine V_aload_n (pc2 := 1) (dk D_X13_raiseIn 0 rfl) rfl (V_lg 0 rfl) rfl ?_
  obtain ⟨h1, h⟩ := h
  refine V_getR kc13 (pc2 := 4) 58 (dk D_X13_raiseIn 1 rfl) fl_13_189 (by decide) (fun _ => rfl) rfl h1 ?_
  refine V_iload_n (pc2 := 5) (dk D_X13_raiseIn 2 rfl) rfl (V_lg 1 rfl) rfl ?_
  obtain ⟨h2, h⟩ := h
  obtain ⟨h3, h⟩ := h
  refine V_iald (pc2 := 6) (dk D_X13_raiseIn 3 rfl) rfl h2 h3 ?_
  refine V_istore_n (pc2 := 7) (lv2 := [(0, _), (1, _), (2, _), (3, _)]) (dk D_X13_raiseIn 4 rfl) rfl (by decide) rfl rfl ?_
  exact h
theorem w_X13_raiseIn_7 {X : Cx} {d : Nat} {S : Mem} {Q : Res → Mem → Prop} (r0 : Nat) (x1 : Int32) (x2 : Int32) (x3 : Int32) (h : (isK S r0 13) ∧ ∃ e1 : Nat, e1 + 1 ≤ d ∧ C X e1 MX13_call [vR r0, vI x1] S (RI fun y4 S5 => (isK S5 r0 13) ∧ (isK S5 (gR S5 r0 68) 21) ∧ (vp_in x3 (gN S5 (gR S5 r0 68))) ∧ (isK S5 (gR S5 r0 64) 21) ∧ (vp_in y4 (gN S5 (gR S5 r0 64))) ∧ ((¬ (gI S5 (gR S5 r0 68) (x3 : Int32).toNatClampNeg) = (gI S5 (gR S5 r0 64) (y4 : Int32).toNatClampNeg) → (vp_in x3 (gN S5 (gR S5 r0 68))) ∧ (isK S5 (gR S5 r0 69) 21) ∧ (vp_in (((1500 * x3) + (gI S5 (gR S5 r0 68) (x3 : Int32).toNatClampNeg)) - 1) (gN S5 (gR S5 r0 69))) ∧ (isK S5 (gR S5 r0 70) 21) ∧ (vp_in (((1500 * x3) + (gI S5 (gR S5 r0 68) (x3 : Int32).toNatClampNeg)) - 1) (gN S5 (gR S5 r0 70))) ∧ ((¬ (gI S5 (gR S5 r0 70) ((((1500 * x3) + (gI S5 (gR S5 r0 68) (x3 : Int32).toNatClampNeg)) - 1) : Int32).toNatClampNeg) = 0 → V X d MX13_raiseIn 105 [(0, vR r0), (1, vI x1), (2, vI x2), (3, vI x3), (4, vI y4), (5, vI (((1500 * x3) + (gI S5 (gR S5 r0 68) (x3 : Int32).toNatClampNeg)) - 1)), (6, vI (gI S5 (gR S5 r0 69) ((((1500 * x3) + (gI S5 (gR S5 r0 68) (x3 : Int32).toNatClampNeg)) - 1) : Int32).toNatClampNeg))] [] S5 Q) ∧ ((gI S5 (gR S5 r0 70) ((((1500 * x3) + (gI S5 (gR S5 r0 68) (x3 : Int32).toNatClampNeg)) - 1) : Int32).toNatClampNeg) = 0 → ∃ e19 : Nat, e19 + 1 ≤ d ∧ C X e19 MX13_isCaught [vR r0, vI x1, vI y4, vI (((1500 * x3) + (gI S5 (gR S5 r0 68) (x3 : Int32).toNatClampNeg)) - 1), vI x2] S5 (RI fun y22 S23 => ((y22 = 0 → V X d MX13_raiseIn 105 [(0, vR r0), (1, vI x1), (2, vI x2), (3, vI x3), (4, vI y4), (5, vI (((1500 * x3) + (gI S5 (gR S5 r0 68) (x3 : Int32).toNatClampNeg)) - 1)), (6, vI (gI S5 (gR S5 r0 69) ((((1500 * x3) + (gI S5 (gR S5 r0 68) (x3 : Int32).toNatClampNeg)) - 1) : Int32).toNatClampNeg))] [] S23 Q) ∧ (¬ y22 = 0 → Q (.inl none) S23)))))) ∧ ((gI S5 (gR S5 r0 68) (x3 : Int32).toNatClampNeg) = (gI S5 (gR S5 r0 64) (y4 : Int32).toNatClampNeg) → (isK S5 (gR S5 r0 60) 21) ∧ (vp_in x3 (gN S5 (gR S5 r0 60))) ∧ (vp_in x3 (gN S5 (gR S5 r0 60))) ∧ ∀ S28 : Mem, S28 = uI S5 (gR S5 r0 60) ((x3 : Int32).toNatClampNeg) ((gI S5 (gR S5 r0 60) (x3 : Int32).toNatClampNeg) - 1) → (vp_in x3 (gN S5 (gR S5 r0 60))) ∧ ((¬ (gI S28 (gR S5 r0 60) (x3 : Int32).toNatClampNeg) = 0 → V X d MX13_raiseIn 7 [(0, vR r0), (1, vI x1), (2, vI x2), (3, vI x3)] [] S28 Q) ∧ ((gI S28 (gR S5 r0 60) (x3 : Int32).toNatClampNeg) = 0 → ∃ e31 : Nat, e31 + 1 ≤ d ∧ C X e31 MX13_leaves [vR r0, vI x1, vI x2] S28 (RV fun  S34 => Q (.inl none) S34))))))) : V X d MX13_raiseIn 7 [(0, vR r0), (1, vI x1), (2, vI x2), (3, vI x3)] [] S Q := by
  refine V_aload_n (pc2 := 8) (dk D_X13_raiseIn 5 rfl) rfl (V_lg 0 rfl) rfl ?_
  refine V_iload_n (pc2 := 9) (dk D_X13_raiseIn 6 rfl) rfl (V_lg 1 rfl) rfl ?_
  obtain ⟨h6, h⟩ := h
  obtain ⟨e1, he2, hc3⟩ := h
  refine V_callV (as := [_]) (st := []) (M' := MX13_call) (ci := 13) (pc2 := 12) (dk D_X13_raiseIn 7 rfl) ml_13_504 mv_X13_call rfl rfl (by decide) rfl (Nat.le_of_ble_eq_true rfl) rfl he2 h6 hc3 (RI.k fun y4 S5 h => ?_)
  refine V_istore (pc2 := 14) (lv2 := [(0, _), (1, _), (2, _), (3, _), (4, _)]) (dk D_X13_raiseIn 8 rfl) (by decide) rfl rfl ?_
  refine V_aload_n (pc2 := 15) (dk D_X13_raiseIn 9 rfl) rfl (V_lg 0 rfl) rfl ?_
  obtain ⟨h7, h⟩ := h
  refine V_getR kc13 (pc2 := 18) 68 (dk D_X13_raiseIn 10 rfl) fl_13_219 (by decide) (fun _ => rfl) rfl h7 ?_
  refine V_iload_n (pc2 := 19) (dk D_X13_raiseIn 11 rfl) rfl (V_lg 3 rfl) rfl ?_
  obtain ⟨h8, h⟩ := h
  obtain ⟨h9, h⟩ := h
  refine V_iald (pc2 := 20) (dk D_X13_raiseIn 12 rfl) rfl h8 h9 ?_
  refine V_aload_n (pc2 := 21) (dk D_X13_raiseIn 13 rfl) rfl (V_lg 0 rfl) rfl ?_
  refine V_getR kc13 (pc2 := 24) 64 (dk D_X13_raiseIn 14 rfl) fl_13_207 (by decide) (fun _ => rfl) rfl h7 ?_
  refine V_iload (pc2 := 26) (dk D_X13_raiseIn 15 rfl) (V_lg 4 rfl) rfl ?_
  obtain ⟨h10, h⟩ := h
  obtain ⟨h11, h⟩ := h
  refine V_iald (pc2 := 27) (dk D_X13_raiseIn 16 rfl) rfl h10 h11 ?_
  refine V_cmpne (tgt := 56) (pc2 := 30) (dk D_X13_raiseIn 17 rfl) (by decide) rfl (fun q12 => ?_) (fun q12 => ?_)
  · have h := h.1 q12
    refine V_sipush (x := 1500) (pc2 := 59) (dk D_X13_raiseIn 36 rfl) (by decide) rfl ?_
    refine V_iload_n (pc2 := 60) (dk D_X13_raiseIn 37 rfl) rfl (V_lg 3 rfl) rfl ?_
    refine V_imul (pc2 := 61) (dk D_X13_raiseIn 38 rfl) rfl ?_
    refine V_aload_n (pc2 := 62) (dk D_X13_raiseIn 39 rfl) rfl (V_lg 0 rfl) rfl ?_
    refine V_getR kc13 (pc2 := 65) 68 (dk D_X13_raiseIn 40 rfl) fl_13_219 (by decide) (fun _ => rfl) rfl h7 ?_
    refine V_iload_n (pc2 := 66) (dk D_X13_raiseIn 41 rfl) rfl (V_lg 3 rfl) rfl ?_
    obtain ⟨h13, h⟩ := h
    refine V_iald (pc2 := 67) (dk D_X13_raiseIn 42 rfl) rfl h8 h13 ?_
    refine V_iadd (pc2 := 68) (dk D_X13_raiseIn 43 rfl) rfl ?_
    refine V_iconst (x := 1) (pc2 := 69) (dk D_X13_raiseIn 44 rfl) (by decide) rfl ?_
    refine V_isub (pc2 := 70) (dk D_X13_raiseIn 45 rfl) rfl ?_
    refine V_istore (pc2 := 72) (lv2 := [(0, _), (1, _), (2, _), (3, _), (4, _), (5, _)]) (dk D_X13_raiseIn 46 rfl) (by decide) rfl rfl ?_
    refine V_aload_n (pc2 := 73) (dk D_X13_raiseIn 47 rfl) rfl (V_lg 0 rfl) rfl ?_
    refine V_getR kc13 (pc2 := 76) 69 (dk D_X13_raiseIn 48 rfl) fl_13_222 (by decide) (fun _ => rfl) rfl h7 ?_
    refine V_iload (pc2 := 78) (dk D_X13_raiseIn 49 rfl) (V_lg 5 rfl) rfl ?_
    obtain ⟨h14, h⟩ := h
    obtain ⟨h15, h⟩ := h
    refine V_iald (pc2 := 79) (dk D_X13_raiseIn 50 rfl) rfl h14 h15 ?_
    refine V_istore (pc2 := 81) (lv2 := [(0, _), (1, _), (2, _), (3, _), (4, _), (5, _), (6, _)]) (dk D_X13_raiseIn 51 rfl) (by decide) rfl rfl ?_
    refine V_aload_n (pc2 := 82) (dk D_X13_raiseIn 52 rfl) rfl (V_lg 0 rfl) rfl ?_
    refine V_getR kc13 (pc2 := 85) 70 (dk D_X13_raiseIn 53 rfl) fl_13_225 (by decide) (fun _ => rfl) rfl h7 ?_
    refine V_iload (pc2 := 87) (dk D_X13_raiseIn 54 rfl) (V_lg 5 rfl) rfl ?_
    obtain ⟨h16, h⟩ := h
    obtain ⟨h17, h⟩ := h
    refine V_iald (pc2 := 88) (dk D_X13_raiseIn 55 rfl) rfl h16 h17 ?_
    refine V_ifne (tgt := 105) (pc2 := 91) (dk D_X13_raiseIn 56 rfl) (by decide) rfl (fun q18 => ?_) (fun q18 => ?_)
    · have h := h.1 q18
      exact h
    · have h := h.2 q18
      refine V_aload_n (pc2 := 92) (dk D_X13_raiseIn 57 rfl) rfl (V_lg 0 rfl) rfl ?_
      refine V_iload_n (pc2 := 93) (dk D_X13_raiseIn 58 rfl) rfl (V_lg 1 rfl) rfl ?_
      refine V_iload (pc2 := 95) (dk D_X13_raiseIn 59 rfl) (V_lg 4 rfl) rfl ?_
      refine V_iload (pc2 := 97) (dk D_X13_raiseIn 60 rfl) (V_lg 5 rfl) rfl ?_
      refine V_iload_n (pc2 := 98) (dk D_X13_raiseIn 61 rfl) rfl (V_lg 2 rfl) rfl ?_
      obtain ⟨e19, he20, hc21⟩ := h
      refine V_callV (as := [_, _, _, _]) (st := []) (M' := MX13_isCaught) (ci := 13) (pc2 := 101) (dk D_X13_raiseIn 62 rfl) ml_13_535 mv_X13_isCaught rfl rfl (by decide) rfl (Nat.le_of_ble_eq_true rfl) rfl he20 h7 hc21 (RI.k fun y22 S23 h => ?_)
      refine V_ifeq (tgt := 105) (pc2 := 104) (dk D_X13_raiseIn 63 rfl) (by decide) rfl (fun q24 => ?_) (fun q24 => ?_)
      · have h := h.1 q24
        exact h
      · have h := h.2 q24
        exact V_return (dk D_X13_raiseIn 64 rfl) rfl h
  · have h := h.2 q12
    refine V_aload_n (pc2 := 31) (dk D_X13_raiseIn 18 rfl) rfl (V_lg 0 rfl) rfl ?_
    refine V_getR kc13 (pc2 := 34) 60 (dk D_X13_raiseIn 19 rfl) fl_13_195 (by decide) (fun _ => rfl) rfl h7 ?_
    refine V_iload_n (pc2 := 35) (dk D_X13_raiseIn 20 rfl) rfl (V_lg 3 rfl) rfl ?_
    refine V_dup2 (pc2 := 36) (dk D_X13_raiseIn 21 rfl) rfl rfl rfl ?_
    obtain ⟨h25, h⟩ := h
    obtain ⟨h26, h⟩ := h
    refine V_iald (pc2 := 37) (dk D_X13_raiseIn 22 rfl) rfl h25 h26 ?_
    refine V_iconst (x := 1) (pc2 := 38) (dk D_X13_raiseIn 23 rfl) (by decide) rfl ?_
    refine V_isub (pc2 := 39) (dk D_X13_raiseIn 24 rfl) rfl ?_
    obtain ⟨h27, h⟩ := h
    refine V_iast (pc2 := 40) (dk D_X13_raiseIn 25 rfl) rfl h25 h27 ?_
    have h := h _ rfl
    refine V_aload_n (pc2 := 41) (dk D_X13_raiseIn 26 rfl) rfl (V_lg 0 rfl) rfl ?_
    refine V_getR kc13 (pc2 := 44) 60 (dk D_X13_raiseIn 27 rfl) fl_13_195 (by decide) (fun _ => rfl) rfl h7 ?_
    refine V_iload_n (pc2 := 45) (dk D_X13_raiseIn 28 rfl) rfl (V_lg 3 rfl) rfl ?_
    obtain ⟨h29, h⟩ := h
    refine V_iald (pc2 := 46) (dk D_X13_raiseIn 29 rfl) rfl h25 h29 ?_
    refine V_ifne (tgt := 7) (pc2 := 49) (dk D_X13_raiseIn 30 rfl) (by decide) rfl (fun q30 => ?_) (fun q30 => ?_)
    · have h := h.1 q30
      refine V_pick [0, 1, 2, 3] (lv2 := [(0, _), (1, _), (2, _), (3, _)]) rfl ?_
      exact h
    · have h := h.2 q30
      refine V_aload_n (pc2 := 50) (dk D_X13_raiseIn 31 rfl) rfl (V_lg 0 rfl) rfl ?_
      refine V_iload_n (pc2 := 51) (dk D_X13_raiseIn 32 rfl) rfl (V_lg 1 rfl) rfl ?_
      refine V_iload_n (pc2 := 52) (dk D_X13_raiseIn 33 rfl) rfl (V_lg 2 rfl) rfl ?_
      obtain ⟨e31, he32, hc33⟩ := h
      refine V_callV (as := [_, _]) (st := []) (M' := MX13_leaves) (ci := 13) (pc2 := 55) (dk D_X13_raiseIn 34 rfl) ml_13_532 mv_X13_leaves rfl rfl (by decide) rfl (Nat.le_of_ble_eq_true rfl) rfl he32 h7 hc33 (RV.k fun  S34 h => ?_)
      exact V_return (dk D_X13_raiseIn 35 rfl) rfl h
theorem w_X13_raiseIn_105 {X : Cx} {d : Nat} {S : Mem} {Q : Res → Mem → Prop} (r0 : Nat) (x1 : Int32) (x2 : Int32) (x3 : Int32) (x4 : Int32) (x5 : Int32) (x6 : Int32) (h : (isK S r0 13) ∧ (isK S (gR S r0 70) 21) ∧ (vp_in x5 (gN S (gR S r0 70))) ∧ ((2 ≤ (gI S (gR S r0 70) (x5 : Int32).toNatClampNeg) → V X d MX13_raiseIn 136 [(0, vR r0), (1, vI x1), (2, vI x2), (3, vI x3), (4, vI x4), (5, vI x5), (6, vI x6)] [] S Q) ∧ (¬ 2 ≤ (gI S (gR S r0 70) (x5 : Int32).toNatClampNeg) → (isK S (gR S r0 27) 21) ∧ (vp_in x6 (gN S (gR S r0 27))) ∧ (((gI S (gR S r0 27) (x6 : Int32).toNatClampNeg) < 0 → V X d MX13_raiseIn 136 [(0, vR r0), (1, vI x1), (2, vI x2), (3, vI x3), (4, vI x4), (5, vI x5), (6, vI x6)] [] S Q) ∧ (¬ (gI S (gR S r0 27) (x6 : Int32).toNatClampNeg) < 0 → ∃ e8 : Nat, e8 + 1 ≤ d ∧ C X e8 MX13_finishes [vR r0, vI x1, vI x5, vI 1, vI x2] S (RV fun  S11 => Q (.inl none) S11)))))) : V X d MX13_raiseIn 105 [(0, vR r0), (1, vI x1), (2, vI x2), (3, vI x3), (4, vI x4), (5, vI x5), (6, vI x6)] [] S Q := by
  refine V_aload_n (pc2 := 106) (dk D_X13_raiseIn 65 rfl) rfl (V_lg 0 rfl) rfl ?_
  obtain ⟨h1, h⟩ := h
  refine V_getR kc13 (pc2 := 109) 70 (dk D_X13_raiseIn 66 rfl) fl_13_225 (by decide) (fun _ => rfl) rfl h1 ?_
  refine V_iload (pc2 := 111) (dk D_X13_raiseIn 67 rfl) (V_lg 5 rfl) rfl ?_
  obtain ⟨h2, h⟩ := h
  obtain ⟨h3, h⟩ := h
  refine V_iald (pc2 := 112) (dk D_X13_raiseIn 68 rfl) rfl h2 h3 ?_
  refine V_iconst (x := 2) (pc2 := 113) (dk D_X13_raiseIn 69 rfl) (by decide) rfl ?_
  refine V_cmpge (tgt := 136) (pc2 := 116) (dk D_X13_raiseIn 70 rfl) (by decide) rfl (fun q4 => ?_) (fun q4 => ?_)
  · have h := h.1 q4
    exact h
  · have h := h.2 q4
    refine V_aload_n (pc2 := 117) (dk D_X13_raiseIn 71 rfl) rfl (V_lg 0 rfl) rfl ?_
    refine V_getR kc13 (pc2 := 120) 27 (dk D_X13_raiseIn 72 rfl) fl_13_125 (by decide) (fun _ => rfl) rfl h1 ?_
    refine V_iload (pc2 := 122) (dk D_X13_raiseIn 73 rfl) (V_lg 6 rfl) rfl ?_
    obtain ⟨h5, h⟩ := h
    obtain ⟨h6, h⟩ := h
    refine V_iald (pc2 := 123) (dk D_X13_raiseIn 74 rfl) rfl h5 h6 ?_
    refine V_iflt (tgt := 136) (pc2 := 126) (dk D_X13_raiseIn 75 rfl) (by decide) rfl (fun q7 => ?_) (fun q7 => ?_)
    · have h := h.1 q7
      exact h
    · have h := h.2 q7
      refine V_aload_n (pc2 := 127) (dk D_X13_raiseIn 76 rfl) rfl (V_lg 0 rfl) rfl ?_
      refine V_iload_n (pc2 := 128) (dk D_X13_raiseIn 77 rfl) rfl (V_lg 1 rfl) rfl ?_
      refine V_iload (pc2 := 130) (dk D_X13_raiseIn 78 rfl) (V_lg 5 rfl) rfl ?_
      refine V_iconst (x := 1) (pc2 := 131) (dk D_X13_raiseIn 79 rfl) (by decide) rfl ?_
      refine V_iload_n (pc2 := 132) (dk D_X13_raiseIn 80 rfl) rfl (V_lg 2 rfl) rfl ?_
      obtain ⟨e8, he9, hc10⟩ := h
      refine V_callV (as := [_, _, _, _]) (st := []) (M' := MX13_finishes) (ci := 13) (pc2 := 135) (dk D_X13_raiseIn 81 rfl) ml_13_539 mv_X13_finishes rfl rfl (by decide) rfl (Nat.le_of_ble_eq_true rfl) rfl he9 h1 hc10 (RV.k fun  S11 h => ?_)
      exact V_return (dk D_X13_raiseIn 82 rfl) rfl h
theorem w_X13_raiseIn_136 {X : Cx} {d : Nat} {S : Mem} {Q : Res → Mem → Prop} (r0 : Nat) (x1 : Int32) (x2 : Int32) (x3 : Int32) (x4 : Int32) (x5 : Int32) (x6 : Int32) (h : (isK S r0 13) ∧ (isK S (gR S r0 70) 21) ∧ (vp_in x5 (gN S (gR S r0 70))) ∧ ((¬ (gI S (gR S r0 70) (x5 : Int32).toNatClampNeg) = 2 → V X d MX13_raiseIn 170 [(0, vR r0), (1, vI x1), (2, vI x2), (3, vI x3), (4, vI x4), (5, vI x5), (6, vI x6)] [] S Q) ∧ ((gI S (gR S r0 70) (x5 : Int32).toNatClampNeg) = 2 → (isK S (gR S r0 71) 21) ∧ (vp_in x5 (gN S (gR S r0 71))) ∧ ((¬ (gI S (gR S r0 71) (x5 : Int32).toNatClampNeg) = 1 → V X d MX13_raiseIn 170 [(0, vR r0), (1, vI x1), (2, vI x2), (3, vI x3), (4, vI x4), (5, vI x5), (6, vI x6)] [] S Q) ∧ ((gI S (gR S r0 71) (x5 : Int32).toNatClampNeg) = 1 → (isK S (gR S r0 72) 21) ∧ (vp_in x5 (gN S (gR S r0 72))) ∧ ∃ e10 : Nat, e10 + 1 ≤ d ∧ C X e10 MX13_beneath [vR r0, vI (gI S (gR S r0 72) (x5 : Int32).toNatClampNeg), vI x2] S (RV fun  S13 => V X d MX13_raiseIn 170 [(0, vR r0), (1, vI x1), (2, vI x2), (3, vI x3), (4, vI x4), (5, vI x5), (6, vI x6)] [] S13 Q)))))) : V X d MX13_raiseIn 136 [(0, vR r0), (1, vI x1), (2, vI x2), (3, vI x3), (4, vI x4), (5, vI x5), (6, vI x6)] [] S Q := by
  refine V_aload_n (pc2 := 137) (dk D_X13_raiseIn 83 rfl) rfl (V_lg 0 rfl) rfl ?_
  obtain ⟨h1, h⟩ := h
  refine V_getR kc13 (pc2 := 140) 70 (dk D_X13_raiseIn 84 rfl) fl_13_225 (by decide) (fun _ => rfl) rfl h1 ?_
  refine V_iload (pc2 := 142) (dk D_X13_raiseIn 85 rfl) (V_lg 5 rfl) rfl ?_
  obtain ⟨h2, h⟩ := h
  obtain ⟨h3, h⟩ := h
  refine V_iald (pc2 := 143) (dk D_X13_raiseIn 86 rfl) rfl h2 h3 ?_
  refine V_iconst (x := 2) (pc2 := 144) (dk D_X13_raiseIn 87 rfl) (by decide) rfl ?_
  refine V_cmpne (tgt := 170) (pc2 := 147) (dk D_X13_raiseIn 88 rfl) (by decide) rfl (fun q4 => ?_) (fun q4 => ?_)
  · have h := h.1 q4
    exact h
  · have h := h.2 q4
    refine V_aload_n (pc2 := 148) (dk D_X13_raiseIn 89 rfl) rfl (V_lg 0 rfl) rfl ?_
    refine V_getR kc13 (pc2 := 151) 71 (dk D_X13_raiseIn 90 rfl) fl_13_228 (by decide) (fun _ => rfl) rfl h1 ?_
    refine V_iload (pc2 := 153) (dk D_X13_raiseIn 91 rfl) (V_lg 5 rfl) rfl ?_
    obtain ⟨h5, h⟩ := h
    obtain ⟨h6, h⟩ := h
    refine V_iald (pc2 := 154) (dk D_X13_raiseIn 92 rfl) rfl h5 h6 ?_
    refine V_iconst (x := 1) (pc2 := 155) (dk D_X13_raiseIn 93 rfl) (by decide) rfl ?_
    refine V_cmpne (tgt := 170) (pc2 := 158) (dk D_X13_raiseIn 94 rfl) (by decide) rfl (fun q7 => ?_) (fun q7 => ?_)
    · have h := h.1 q7
      exact h
    · have h := h.2 q7
      refine V_aload_n (pc2 := 159) (dk D_X13_raiseIn 95 rfl) rfl (V_lg 0 rfl) rfl ?_
      refine V_aload_n (pc2 := 160) (dk D_X13_raiseIn 96 rfl) rfl (V_lg 0 rfl) rfl ?_
      refine V_getR kc13 (pc2 := 163) 72 (dk D_X13_raiseIn 97 rfl) fl_13_231 (by decide) (fun _ => rfl) rfl h1 ?_
      refine V_iload (pc2 := 165) (dk D_X13_raiseIn 98 rfl) (V_lg 5 rfl) rfl ?_
      obtain ⟨h8, h⟩ := h
      obtain ⟨h9, h⟩ := h
      refine V_iald (pc2 := 166) (dk D_X13_raiseIn 99 rfl) rfl h8 h9 ?_
      refine V_iload_n (pc2 := 167) (dk D_X13_raiseIn 100 rfl) rfl (V_lg 2 rfl) rfl ?_
      obtain ⟨e10, he11, hc12⟩ := h
      refine V_callV (as := [_, _]) (st := []) (M' := MX13_beneath) (ci := 13) (pc2 := 170) (dk D_X13_raiseIn 101 rfl) ml_13_543 mv_X13_beneath rfl rfl (by decide) rfl (Nat.le_of_ble_eq_true rfl) rfl he11 h1 hc12 (RV.k fun  S13 h => ?_)
      exact h
theorem w_X13_raiseIn_170 {X : Cx} {d : Nat} {S : Mem} {Q : Res → Mem → Prop} (r0 : Nat) (x1 : Int32) (x2 : Int32) (x3 : Int32) (x4 : Int32) (x5 : Int32) (x6 : Int32) (h : (isK S r0 13) ∧ (isK S (gR S r0 68) 21) ∧ (vp_in x3 (gN S (gR S r0 68))) ∧ (vp_in x3 (gN S (gR S r0 68))) ∧ ∀ S5 : Mem, S5 = uI S (gR S r0 68) ((x3 : Int32).toNatClampNeg) ((gI S (gR S r0 68) (x3 : Int32).toNatClampNeg) - 1) → V X d MX13_raiseIn 7 [(0, vR r0), (1, vI x1), (2, vI x2), (3, vI x3)] [] S5 Q) : V X d MX13_raiseIn 170 [(0, vR r0), (1, vI x1), (2, vI x2), (3, vI x3), (4, vI x4), (5, vI x5), (6, vI x6)] [] S Q := by
  refine V_aload_n (pc2 := 171) (dk D_X13_raiseIn 102 rfl) rfl (V_lg 0 rfl) rfl ?_
  obtain ⟨h1, h⟩ := h
  refine V_getR kc13 (pc2 := 174) 68 (dk D_X13_raiseIn 103 rfl) fl_13_219 (by decide) (fun _ => rfl) rfl h1 ?_
  refine V_iload_n (pc2 := 175) (dk D_X13_raiseIn 104 rfl) rfl (V_lg 3 rfl) rfl ?_
  refine V_dup2 (pc2 := 176) (dk D_X13_raiseIn 105 rfl) rfl rfl rfl ?_
  obtain ⟨h2, h⟩ := h
  obtain ⟨h3, h⟩ := h
  refine V_iald (pc2 := 177) (dk D_X13_raiseIn 106 rfl) rfl h2 h3 ?_
  refine V_iconst (x := 1) (pc2 := 178) (dk D_X13_raiseIn 107 rfl) (by decide) rfl ?_
  refine V_isub (pc2 := 179) (dk D_X13_raiseIn 108 rfl) rfl ?_
  obtain ⟨h4, h⟩ := h
  refine V_iast (pc2 := 180) (dk D_X13_raiseIn 109 rfl) rfl h2 h4 ?_
  have h := h _ rfl
  refine V_goto (tgt := 7) (dk D_X13_raiseIn 110 rfl) (by decide) ?_
  refine V_pick [0, 1, 2, 3] (lv2 := [(0, _), (1, _), (2, _), (3, _)]) rfl ?_
  exact h
def L_X13_raise : List (Nat × Instr × Nat) := [(0, .aload_n 0, 1), (1, .iload_n 1, 1), (2, .iload_n 2, 1), (3, .invokestatic 546, 3), (6, .return_, 1)]
theorem D_X13_raise : dOk cX13_raise L_X13_raise = true := by decide +kernel
theorem w_X13_raise_0 {X : Cx} {d : Nat} {S : Mem} {Q : Res → Mem → Prop} (r0 : Nat) (x1 : Int32) (x2 : Int32) (h : ∃ e1 : Nat, e1 + 1 ≤ d ∧ C X e1 MX13_raiseIn [vR r0, vI x1, vI x2] S (RV fun  S4 => Q (.inl none) S4)) : V X d MX13_raise 0 [(0, vR r0), (1, vI x1), (2, vI x2)] [] S Q := by
  refine V_aload_n (pc2 := 1) (dk D_X13_raise 0 rfl) rfl (V_lg 0 rfl) rfl ?_
  refine V_iload_n (pc2 := 2) (dk D_X13_raise 1 rfl) rfl (V_lg 1 rfl) rfl ?_
  refine V_iload_n (pc2 := 3) (dk D_X13_raise 2 rfl) rfl (V_lg 2 rfl) rfl ?_
  obtain ⟨e1, he2, hc3⟩ := h
  refine V_callS (as := [_, _, _]) (st := []) (M' := MX13_raiseIn) (pc2 := 6) (dk D_X13_raise 3 rfl) ml_13_546 mv_X13_raiseIn rfl rfl (Nat.le_of_ble_eq_true rfl) rfl he2 hc3 (RV.k fun  S4 h => ?_)
  exact V_return (dk D_X13_raise 4 rfl) rfl h
def L_X13_beneath : List (Nat × Instr × Nat) := [(0, .aload_n 0, 1), (1, .getfield 271, 3), (4, .iload_n 2, 1), (5, .iaload, 1), (6, .bipush (-9), 2), (8, .if_icmp .ne 13, 3), (11, .aload_n 0, 1), (12, .getfield 271, 3), (15, .iload_n 2, 1), (16, .iload_n 1, 1), (17, .iastore, 1), (18, .goto 15, 3), (21, .aload_n 0, 1), (22, .getfield 277, 3), (25, .aload_n 0, 1), (26, .getfield 274, 3), (29, .iload_n 2, 1), (30, .iaload, 1), (31, .iload_n 1, 1), (32, .iastore, 1), (33, .aload_n 0, 1), (34, .getfield 274, 3), (37, .iload_n 2, 1), (38, .iload_n 1, 1), (39, .iastore, 1), (40, .return_, 1)]
theorem D_X13_beneath : dOk cX13_beneath L_X13_beneath = true := by decide +kernel
theorem w_X13_beneath_0 {X : Cx} {d : Nat} {S : Mem} {Q : Res → Mem → Prop} (r0 : Nat) (x1 : Int32) (x2 : Int32) (h : (isK S r0 13) ∧ (isK S (gR S r0 94) 21) ∧ (vp_in x2 (gN S (gR S r0 94))) ∧ ((¬ (gI S (gR S r0 94) (x2 : Int32).toNatClampNeg) = (-9) → (isK S (gR S r0 95) 21) ∧ (vp_in x2 (gN S (gR S r0 95))) ∧ (isK S (gR S r0 96) 21) ∧ (vp_in (gI S (gR S r0 95) (x2 : Int32).toNatClampNeg) (gN S (gR S r0 96))) ∧ ∀ S9 : Mem, S9 = uI S (gR S r0 96) (((gI S (gR S r0 95) (x2 : Int32).toNatClampNeg) : Int32).toNatClampNeg) x1 → V X d MX13_beneath 33 [(0, vR r0), (1, vI x1), (2, vI x2)] [] S9 Q) ∧ ((gI S (gR S r0 94) (x2 : Int32).toNatClampNeg) = (-9) → (vp_in x2 (gN S (gR S r0 94))) ∧ ∀ S11 : Mem, S11 = uI S (gR S r0 94) ((x2 : Int32).toNatClampNeg) x1 → V X d MX13_beneath 33 [(0, vR r0), (1, vI x1), (2, vI x2)] [] S11 Q))) : V X d MX13_beneath 0 [(0, vR r0), (1, vI x1), (2, vI x2)] [] S Q := by
  refine V_aload_n (pc2 := 1) (dk D_X13_beneath 0 rfl) rfl (V_lg 0 rfl) rfl ?_
  obtain ⟨h1, h⟩ := h
  refine V_getR kc13 (pc2 := 4) 94 (dk D_X13_beneath 1 rfl) fl_13_271 (by decide) (fun _ => rfl) rfl h1 ?_
  refine V_iload_n (pc2 := 5) (dk D_X13_beneath 2 rfl) rfl (V_lg 2 rfl) rfl ?_
  obtain ⟨h2, h⟩ := h
  obtain ⟨h3, h⟩ := h
  refine V_iald (pc2 := 6) (dk D_X13_beneath 3 rfl) rfl h2 h3 ?_
  refine V_bipush (x := (-9)) (pc2 := 8) (dk D_X13_beneath 4 rfl) (by decide) rfl ?_
  refine V_cmpne (tgt := 21) (pc2 := 11) (dk D_X13_beneath 5 rfl) (by decide) rfl (fun q4 => ?_) (fun q4 => ?_)
  · have h := h.1 q4
    refine V_aload_n (pc2 := 22) (dk D_X13_beneath 12 rfl) rfl (V_lg 0 rfl) rfl ?_
    refine V_getR kc13 (pc2 := 25) 96 (dk D_X13_beneath 13 rfl) fl_13_277 (by decide) (fun _ => rfl) rfl h1 ?_
    refine V_aload_n (pc2 := 26) (dk D_X13_beneath 14 rfl) rfl (V_lg 0 rfl) rfl ?_
    refine V_getR kc13 (pc2 := 29) 95 (dk D_X13_beneath 15 rfl) fl_13_274 (by decide) (fun _ => rfl) rfl h1 ?_
    refine V_iload_n (pc2 := 30) (dk D_X13_beneath 16 rfl) rfl (V_lg 2 rfl) rfl ?_
    obtain ⟨h5, h⟩ := h
    obtain ⟨h6, h⟩ := h
    refine V_iald (pc2 := 31) (dk D_X13_beneath 17 rfl) rfl h5 h6 ?_
    refine V_iload_n (pc2 := 32) (dk D_X13_beneath 18 rfl) rfl (V_lg 1 rfl) rfl ?_
    obtain ⟨h7, h⟩ := h
    obtain ⟨h8, h⟩ := h
    refine V_iast (pc2 := 33) (dk D_X13_beneath 19 rfl) rfl h7 h8 ?_
    have h := h _ rfl
    exact h
  · have h := h.2 q4
    refine V_aload_n (pc2 := 12) (dk D_X13_beneath 6 rfl) rfl (V_lg 0 rfl) rfl ?_
    refine V_getR kc13 (pc2 := 15) 94 (dk D_X13_beneath 7 rfl) fl_13_271 (by decide) (fun _ => rfl) rfl h1 ?_
    refine V_iload_n (pc2 := 16) (dk D_X13_beneath 8 rfl) rfl (V_lg 2 rfl) rfl ?_
    refine V_iload_n (pc2 := 17) (dk D_X13_beneath 9 rfl) rfl (V_lg 1 rfl) rfl ?_
    obtain ⟨h10, h⟩ := h
    refine V_iast (pc2 := 18) (dk D_X13_beneath 10 rfl) rfl h2 h10 ?_
    have h := h _ rfl
    refine V_goto (tgt := 33) (dk D_X13_beneath 11 rfl) (by decide) ?_
    exact h
theorem w_X13_beneath_33 {X : Cx} {d : Nat} {S : Mem} {Q : Res → Mem → Prop} (r0 : Nat) (x1 : Int32) (x2 : Int32) (h : (isK S r0 13) ∧ (isK S (gR S r0 95) 21) ∧ (vp_in x2 (gN S (gR S r0 95))) ∧ ∀ S4 : Mem, S4 = uI S (gR S r0 95) ((x2 : Int32).toNatClampNeg) x1 → Q (.inl none) S4) : V X d MX13_beneath 33 [(0, vR r0), (1, vI x1), (2, vI x2)] [] S Q := by
  refine V_aload_n (pc2 := 34) (dk D_X13_beneath 20 rfl) rfl (V_lg 0 rfl) rfl ?_
  obtain ⟨h1, h⟩ := h
  refine V_getR kc13 (pc2 := 37) 95 (dk D_X13_beneath 21 rfl) fl_13_274 (by decide) (fun _ => rfl) rfl h1 ?_
  refine V_iload_n (pc2 := 38) (dk D_X13_beneath 22 rfl) rfl (V_lg 2 rfl) rfl ?_
  refine V_iload_n (pc2 := 39) (dk D_X13_beneath 23 rfl) rfl (V_lg 1 rfl) rfl ?_
  obtain ⟨h2, h⟩ := h
  obtain ⟨h3, h⟩ := h
  refine V_iast (pc2 := 40) (dk D_X13_beneath 24 rfl) rfl h2 h3 ?_
  have h := h _ rfl
  exact V_return (dk D_X13_beneath 25 rfl) rfl h
def L_X13_isCaught : List (Nat × Instr × Nat) := [(0, .iconst 0, 1), (1, .istore 5, 2), (3, .iload 5, 2), (5, .aload_n 0, 1), (6, .getfield 416, 3), (9, .if_icmp .ge 160, 3), (12, .aload_n 0, 1), (13, .getfield 158, 3), (16, .iload 5, 2), (18, .iaload, 1), (19, .aload_n 0, 1), (20, .getfield 222, 3), (23, .iload_n 3, 1), (24, .iaload, 1), (25, .if_icmp .ne 48, 3), (28, .aload_n 0, 1), (29, .getfield 256, 3), (32, .iload 4, 2), (34, .iaload, 1), (35, .bipush 14, 2), (37, .if_icmp .eq 36, 3), (40, .aload_n 0, 1), (41, .getfield 131, 3), (44, .iload 5, 2), (46, .iaload, 1), (47, .bipush (-9), 2), (49, .if_icmp .eq 20, 3), (52, .aload_n 0, 1), (53, .getfield 131, 3), (56, .iload 5, 2), (58, .iaload, 1), (59, .aload_n 0, 1), (60, .getfield 256, 3), (63, .iload 4, 2), (65, .iaload, 1), (66, .if_icmp .ne 7, 3), (69, .iconst 1, 1), (70, .goto 4, 3), (73, .iconst 0, 1), (74, .istore 6, 2), (76, .iload 6, 2), (78, .ifCond .eq 85, 3), (81, .aload_n 0, 1), (82, .getfield 225, 3), (85, .iload_n 3, 1), (86, .iconst 1, 1), (87, .iastore, 1), (88, .aload_n 0, 1), (89, .getfield 213, 3), (92, .bipush 40, 2), (94, .iload_n 2, 1), (95, .imul, 1), (96, .aload_n 0, 1), (97, .getfield 134, 3), (100, .iload 5, 2), (102, .iaload, 1), (103, .iadd, 1), (104, .aload_n 0, 1), (105, .getfield 259, 3), (108, .iload 4, 2), (110, .iaload, 1), (111, .iastore, 1), (112, .aload_n 0, 1), (113, .getfield 216, 3), (116, .bipush 25, 2), (118, .iload_n 2, 1), (119, .imul, 1), (120, .aload_n 0, 1), (121, .getfield 140, 3), (124, .iload 5, 2), (126, .iaload, 1), (127, .iadd, 1), (128, .iload 4, 2), (130, .iastore, 1), (131, .aload_n 0, 1), (132, .getfield 201, 3), (135, .iload_n 2, 1), (136, .aload_n 0, 1), (137, .getfield 137, 3), (140, .iload 5, 2), (142, .iaload, 1), (143, .iastore, 1), (144, .aload_n 0, 1), (145, .getfield 234, 3), (148, .aload_n 0, 1), (149, .getfield 189, 3), (152, .iload_n 1, 1), (153, .iaload, 1), (154, .aload_n 0, 1), (155, .getfield 210, 3), (158, .iload_n 2, 1), (159, .iaload, 1), (160, .iastore, 1), (161, .iconst 1, 1), (162, .ireturn, 1), (163, .iinc 5 1, 3), (166, .goto (-163), 3), (169, .iconst 0, 1), (170, .ireturn, 1)]
theorem D_X13_isCaught : dOk cX13_isCaught L_X13_isCaught = true := by decide +kernel
theorem w_X13_isCaught_0 {X : Cx} {d : Nat} {S : Mem} {Q : Res → Mem → Prop} (r0 : Nat) (x1 : Int32) (x2 : Int32) (x3 : Int32) (x4 : Int32) (h : V X d MX13_isCaught 3 [(0, vR r0), (1, vI x1), (2, vI x2), (3, vI x3), (4, vI x4), (5, vI 0)] [] S Q) : V X d MX13_isCaught 0 [(0, vR r0), (1, vI x1), (2, vI x2), (3, vI x3), (4, vI x4)] [] S Q := by
  refine V_iconst (x := 0) (pc2 := 1) (dk D_X13_isCaught 0 rfl) (by decide) rfl ?_
  refine V_istore (pc2 := 3) (lv2 := [(0, _), (1, _), (2, _), (3, _), (4, _), (5, _)]) (dk D_X13_isCaught 1 rfl) (by decide) rfl rfl ?_
  exact h
theorem w_X13_isCaught_3 {X : Cx} {d : Nat} {S : Mem} {Q : Res → Mem → Prop} (r0 : Nat) (x1 : Int32) (x2 : Int32) (x3 : Int32) (x4 : Int32) (x5 : Int32) (h : (isK S r0 13) ∧ (((gI S r0 34) ≤ x5 → Q (.inl (some (vI 0))) S) ∧ (¬ (gI S r0 34) ≤ x5 → (isK S (gR S r0 45) 21) ∧ (vp_in x5 (gN S (gR S r0 45))) ∧ (isK S (gR S r0 69) 21) ∧ (vp_in x3 (gN S (gR S r0 69))) ∧ ((¬ (gI S (gR S r0 45) (x5 : Int32).toNatClampNeg) = (gI S (gR S r0 69) (x3 : Int32).toNatClampNeg) → V X d MX13_isCaught 73 [(0, vR r0), (1, vI x1), (2, vI x2), (3, vI x3), (4, vI x4), (5, vI x5)] [] S Q) ∧ ((gI S (gR S r0 45) (x5 : Int32).toNatClampNeg) = (gI S (gR S r0 69) (x3 : Int32).toNatClampNeg) → (isK S (gR S r0 89) 21) ∧ (vp_in x4 (gN S (gR S r0 89))) ∧ (((gI S (gR S r0 89) (x4 : Int32).toNatClampNeg) = 14 → V X d MX13_isCaught 73 [(0, vR r0), (1, vI x1), (2, vI x2), (3, vI x3), (4, vI x4), (5, vI x5)] [] S Q) ∧ (¬ (gI S (gR S r0 89) (x4 : Int32).toNatClampNeg) = 14 → (isK S (gR S r0 30) 21) ∧ (vp_in x5 (gN S (gR S r0 30))) ∧ (((gI S (gR S r0 30) (x5 : Int32).toNatClampNeg) = (-9) → V X d MX13_isCaught 69 [(0, vR r0), (1, vI x1), (2, vI x2), (3, vI x3), (4, vI x4), (5, vI x5)] [] S Q) ∧ (¬ (gI S (gR S r0 30) (x5 : Int32).toNatClampNeg) = (-9) → (vp_in x5 (gN S (gR S r0 30))) ∧ (vp_in x4 (gN S (gR S r0 89))) ∧ ((¬ (gI S (gR S r0 30) (x5 : Int32).toNatClampNeg) = (gI S (gR S r0 89) (x4 : Int32).toNatClampNeg) → V X d MX13_isCaught 73 [(0, vR r0), (1, vI x1), (2, vI x2), (3, vI x3), (4, vI x4), (5, vI x5)] [] S Q) ∧ ((gI S (gR S r0 30) (x5 : Int32).toNatClampNeg) = (gI S (gR S r0 89) (x4 : Int32).toNatClampNeg) → V X d MX13_isCaught 69 [(0, vR r0), (1, vI x1), (2, vI x2), (3, vI x3), (4, vI x4), (5, vI x5)] [] S Q))))))))))) : V X d MX13_isCaught 3 [(0, vR r0), (1, vI x1), (2, vI x2), (3, vI x3), (4, vI x4), (5, vI x5)] [] S Q := by
  refine V_iload (pc2 := 5) (dk D_X13_isCaught 2 rfl) (V_lg 5 rfl) rfl ?_
  refine V_aload_n (pc2 := 6) (dk D_X13_isCaught 3 rfl) rfl (V_lg 0 rfl) rfl ?_
  obtain ⟨h1, h⟩ := h
  refine V_getI kc13 (pc2 := 9) 34 (dk D_X13_isCaught 4 rfl) fl_13_416 (by decide) (fun _ => rfl) rfl h1 ?_
  refine V_cmpge (tgt := 169) (pc2 := 12) (dk D_X13_isCaught 5 rfl) (by decide) rfl (fun q2 => ?_) (fun q2 => ?_)
  · have h := h.1 q2
    refine V_iconst (x := 0) (pc2 := 170) (dk D_X13_isCaught 97 rfl) (by decide) rfl ?_
    exact V_zreturn (dk D_X13_isCaught 98 rfl) rfl (Or.inl rfl) h
  · have h := h.2 q2
    refine V_aload_n (pc2 := 13) (dk D_X13_isCaught 6 rfl) rfl (V_lg 0 rfl) rfl ?_
    refine V_getR kc13 (pc2 := 16) 45 (dk D_X13_isCaught 7 rfl) fl_13_158 (by decide) (fun _ => rfl) rfl h1 ?_
    refine V_iload (pc2 := 18) (dk D_X13_isCaught 8 rfl) (V_lg 5 rfl) rfl ?_
    obtain ⟨h3, h⟩ := h
    obtain ⟨h4, h⟩ := h
    refine V_iald (pc2 := 19) (dk D_X13_isCaught 9 rfl) rfl h3 h4 ?_
    refine V_aload_n (pc2 := 20) (dk D_X13_isCaught 10 rfl) rfl (V_lg 0 rfl) rfl ?_
    refine V_getR kc13 (pc2 := 23) 69 (dk D_X13_isCaught 11 rfl) fl_13_222 (by decide) (fun _ => rfl) rfl h1 ?_
    refine V_iload_n (pc2 := 24) (dk D_X13_isCaught 12 rfl) rfl (V_lg 3 rfl) rfl ?_
    obtain ⟨h5, h⟩ := h
    obtain ⟨h6, h⟩ := h
    refine V_iald (pc2 := 25) (dk D_X13_isCaught 13 rfl) rfl h5 h6 ?_
    refine V_cmpne (tgt := 73) (pc2 := 28) (dk D_X13_isCaught 14 rfl) (by decide) rfl (fun q7 => ?_) (fun q7 => ?_)
    · have h := h.1 q7
      exact h
    · have h := h.2 q7
      refine V_aload_n (pc2 := 29) (dk D_X13_isCaught 15 rfl) rfl (V_lg 0 rfl) rfl ?_
      refine V_getR kc13 (pc2 := 32) 89 (dk D_X13_isCaught 16 rfl) fl_13_256 (by decide) (fun _ => rfl) rfl h1 ?_
      refine V_iload (pc2 := 34) (dk D_X13_isCaught 17 rfl) (V_lg 4 rfl) rfl ?_
      obtain ⟨h8, h⟩ := h
      obtain ⟨h9, h⟩ := h
      refine V_iald (pc2 := 35) (dk D_X13_isCaught 18 rfl) rfl h8 h9 ?_
      refine V_bipush (x := 14) (pc2 := 37) (dk D_X13_isCaught 19 rfl) (by decide) rfl ?_
      refine V_cmpeq (tgt := 73) (pc2 := 40) (dk D_X13_isCaught 20 rfl) (by decide) rfl (fun q10 => ?_) (fun q10 => ?_)
      · have h := h.1 q10
        exact h
      · have h := h.2 q10
        refine V_aload_n (pc2 := 41) (dk D_X13_isCaught 21 rfl) rfl (V_lg 0 rfl) rfl ?_
        refine V_getR kc13 (pc2 := 44) 30 (dk D_X13_isCaught 22 rfl) fl_13_131 (by decide) (fun _ => rfl) rfl h1 ?_
        refine V_iload (pc2 := 46) (dk D_X13_isCaught 23 rfl) (V_lg 5 rfl) rfl ?_
        obtain ⟨h11, h⟩ := h
        obtain ⟨h12, h⟩ := h
        refine V_iald (pc2 := 47) (dk D_X13_isCaught 24 rfl) rfl h11 h12 ?_
        refine V_bipush (x := (-9)) (pc2 := 49) (dk D_X13_isCaught 25 rfl) (by decide) rfl ?_
        refine V_cmpeq (tgt := 69) (pc2 := 52) (dk D_X13_isCaught 26 rfl) (by decide) rfl (fun q13 => ?_) (fun q13 => ?_)
        · have h := h.1 q13
          exact h
        · have h := h.2 q13
          refine V_aload_n (pc2 := 53) (dk D_X13_isCaught 27 rfl) rfl (V_lg 0 rfl) rfl ?_
          refine V_getR kc13 (pc2 := 56) 30 (dk D_X13_isCaught 28 rfl) fl_13_131 (by decide) (fun _ => rfl) rfl h1 ?_
          refine V_iload (pc2 := 58) (dk D_X13_isCaught 29 rfl) (V_lg 5 rfl) rfl ?_
          obtain ⟨h14, h⟩ := h
          refine V_iald (pc2 := 59) (dk D_X13_isCaught 30 rfl) rfl h11 h14 ?_
          refine V_aload_n (pc2 := 60) (dk D_X13_isCaught 31 rfl) rfl (V_lg 0 rfl) rfl ?_
          refine V_getR kc13 (pc2 := 63) 89 (dk D_X13_isCaught 32 rfl) fl_13_256 (by decide) (fun _ => rfl) rfl h1 ?_
          refine V_iload (pc2 := 65) (dk D_X13_isCaught 33 rfl) (V_lg 4 rfl) rfl ?_
          obtain ⟨h15, h⟩ := h
          refine V_iald (pc2 := 66) (dk D_X13_isCaught 34 rfl) rfl h8 h15 ?_
          refine V_cmpne (tgt := 73) (pc2 := 69) (dk D_X13_isCaught 35 rfl) (by decide) rfl (fun q16 => ?_) (fun q16 => ?_)
          · have h := h.1 q16
            exact h
          · have h := h.2 q16
            exact h
theorem w_X13_isCaught_69 {X : Cx} {d : Nat} {S : Mem} {Q : Res → Mem → Prop} (r0 : Nat) (x1 : Int32) (x2 : Int32) (x3 : Int32) (x4 : Int32) (x5 : Int32) (h : V X d MX13_isCaught 74 [(0, vR r0), (1, vI x1), (2, vI x2), (3, vI x3), (4, vI x4), (5, vI x5)] [vI 1] S Q) : V X d MX13_isCaught 69 [(0, vR r0), (1, vI x1), (2, vI x2), (3, vI x3), (4, vI x4), (5, vI x5)] [] S Q := by
  refine V_iconst (x := 1) (pc2 := 70) (dk D_X13_isCaught 36 rfl) (by decide) rfl ?_
  refine V_goto (tgt := 74) (dk D_X13_isCaught 37 rfl) (by decide) ?_
  exact h
theorem w_X13_isCaught_73 {X : Cx} {d : Nat} {S : Mem} {Q : Res → Mem → Prop} (r0 : Nat) (x1 : Int32) (x2 : Int32) (x3 : Int32) (x4 : Int32) (x5 : Int32) (h : V X d MX13_isCaught 74 [(0, vR r0), (1, vI x1), (2, vI x2), (3, vI x3), (4, vI x4), (5, vI x5)] [vI 0] S Q) : V X d MX13_isCaught 73 [(0, vR r0), (1, vI x1), (2, vI x2), (3, vI x3), (4, vI x4), (5, vI x5)] [] S Q := by
  refine V_iconst (x := 0) (pc2 := 74) (dk D_X13_isCaught 38 rfl) (by decide) rfl ?_
  exact h
theorem w_X13_isCaught_74 {X : Cx} {d : Nat} {S : Mem} {Q : Res → Mem → Prop} (r0 : Nat) (x1 : Int32) (x2 : Int32) (x3 : Int32) (x4 : Int32) (x5 : Int32) (t0 : Int32) (h : ((t0 = 0 → V X d MX13_isCaught 3 [(0, vR r0), (1, vI x1), (2, vI x2), (3, vI x3), (4, vI x4), (5, vI (x5 + 1))] [] S Q) ∧ (¬ t0 = 0 → (isK S r0 13) ∧ (isK S (gR S r0 70) 21) ∧ (vp_in x3 (gN S (gR S r0 70))) ∧ ∀ S5 : Mem, S5 = uI S (gR S r0 70) ((x3 : Int32).toNatClampNeg) 1 → (isK S (gR S r0 31) 21) ∧ (vp_in x5 (gN S (gR S r0 31))) ∧ (isK S (gR S r0 90) 21) ∧ (vp_in x4 (gN S (gR S r0 90))) ∧ (isK S (gR S r0 66) 21) ∧ (vp_in ((40 * x2) + (gI S5 (gR S r0 31) (x5 : Int32).toNatClampNeg)) (gN S (gR S r0 66))) ∧ ∀ S12 : Mem, S12 = uI S5 (gR S r0 66) ((((40 * x2) + (gI S5 (gR S r0 31) (x5 : Int32).toNatClampNeg)) : Int32).toNatClampNeg) (gI S5 (gR S r0 90) (x4 : Int32).toNatClampNeg) → (isK S (gR S r0 33) 21) ∧ (vp_in x5 (gN S (gR S r0 33))) ∧ (isK S (gR S r0 67) 21) ∧ (vp_in ((25 * x2) + (gI S12 (gR S r0 33) (x5 : Int32).toNatClampNeg)) (gN S (gR S r0 67))) ∧ ∀ S17 : Mem, S17 = uI S12 (gR S r0 67) ((((25 * x2) + (gI S12 (gR S r0 33) (x5 : Int32).toNatClampNeg)) : Int32).toNatClampNeg) x4 → (isK S (gR S r0 32) 21) ∧ (vp_in x5 (gN S (gR S r0 32))) ∧ (isK S (gR S r0 62) 21) ∧ (vp_in x2 (gN S (gR S r0 62))) ∧ ∀ S22 : Mem, S22 = uI S17 (gR S r0 62) ((x2 : Int32).toNatClampNeg) (gI S17 (gR S r0 32) (x5 : Int32).toNatClampNeg) → (isK S (gR S r0 58) 21) ∧ (vp_in x1 (gN S (gR S r0 58))) ∧ (isK S (gR S r0 65) 21) ∧ (vp_in x2 (gN S (gR S r0 65))) ∧ (isK S (gR S r0 73) 21) ∧ (vp_in (gI S22 (gR S r0 58) (x1 : Int32).toNatClampNeg) (gN S (gR S r0 73))) ∧ ∀ S29 : Mem, S29 = uI S22 (gR S r0 73) (((gI S22 (gR S r0 58) (x1 : Int32).toNatClampNeg) : Int32).toNatClampNeg) (gI S22 (gR S r0 65) (x2 : Int32).toNatClampNeg) → Q (.inl (some (vI 1))) S29))) : V X d MX13_isCaught 74 [(0, vR r0), (1, vI x1), (2, vI x2), (3, vI x3), (4, vI x4), (5, vI x5)] [vI t0] S Q := by
  refine V_istore (pc2 := 76) (lv2 := [(0, _), (1, _), (2, _), (3, _), (4, _), (5, _), (6, _)]) (dk D_X13_isCaught 39 rfl) (by decide) rfl rfl ?_
  refine V_iload (pc2 := 78) (dk D_X13_isCaught 40 rfl) (V_lg 6 rfl) rfl ?_
  refine V_ifeq (tgt := 163) (pc2 := 81) (dk D_X13_isCaught 41 rfl) (by decide) rfl (fun q1 => ?_) (fun q1 => ?_)
  · have h := h.1 q1
    refine V_iinc (y := _ + 1) (pc2 := 166) (lv2 := [(0, _), (1, _), (2, _), (3, _), (4, _), (5, _), (6, _)]) (dk D_X13_isCaught 95 rfl) (V_lg 5 rfl) rfl (by decide) rfl rfl ?_
    refine V_goto (tgt := 3) (dk D_X13_isCaught 96 rfl) (by decide) ?_
    refine V_pick [0, 1, 2, 3, 4, 5] (lv2 := [(0, _), (1, _), (2, _), (3, _), (4, _), (5, _)]) rfl ?_
    exact h
  · have h := h.2 q1
    refine V_aload_n (pc2 := 82) (dk D_X13_isCaught 42 rfl) rfl (V_lg 0 rfl) rfl ?_
    obtain ⟨h2, h⟩ := h
    refine V_getR kc13 (pc2 := 85) 70 (dk D_X13_isCaught 43 rfl) fl_13_225 (by decide) (fun _ => rfl) rfl h2 ?_
    refine V_iload_n (pc2 := 86) (dk D_X13_isCaught 44 rfl) rfl (V_lg 3 rfl) rfl ?_
    refine V_iconst (x := 1) (pc2 := 87) (dk D_X13_isCaught 45 rfl) (by decide) rfl ?_
    obtain ⟨h3, h⟩ := h
    obtain ⟨h4, h⟩ := h
    refine V_iast (pc2 := 88) (dk D_X13_isCaught 46 rfl) rfl h3 h4 ?_
    have h := h _ rfl
    refine V_aload_n (pc2 := 89) (dk D_X13_isCaught 47 rfl) rfl (V_lg 0 rfl) rfl ?_
    refine V_getR kc13 (pc2 := 92) 66 (dk D_X13_isCaught 48 rfl) fl_13_213 (by decide) (fun _ => rfl) rfl h2 ?_
    refine V_bipush (x := 40) (pc2 := 94) (dk D_X13_isCaught 49 rfl) (by decide) rfl ?_
    refine V_iload_n (pc2 := 95) (dk D_X13_isCaught 50 rfl) rfl (V_lg 2 rfl) rfl ?_
    refine V_imul (pc2 := 96) (dk D_X13_isCaught 51 rfl) rfl ?_
    refine V_aload_n (pc2 := 97) (dk D_X13_isCaught 52 rfl) rfl (V_lg 0 rfl) rfl ?_
    refine V_getR kc13 (pc2 := 100) 31 (dk D_X13_isCaught 53 rfl) fl_13_134 (by decide) (fun _ => rfl) rfl h2 ?_
    refine V_iload (pc2 := 102) (dk D_X13_isCaught 54 rfl) (V_lg 5 rfl) rfl ?_
    obtain ⟨h6, h⟩ := h
    obtain ⟨h7, h⟩ := h
    refine V_iald (pc2 := 103) (dk D_X13_isCaught 55 rfl) rfl h6 h7 ?_
    refine V_iadd (pc2 := 104) (dk D_X13_isCaught 56 rfl) rfl ?_
    refine V_aload_n (pc2 := 105) (dk D_X13_isCaught 57 rfl) rfl (V_lg 0 rfl) rfl ?_
    refine V_getR kc13 (pc2 := 108) 90 (dk D_X13_isCaught 58 rfl) fl_13_259 (by decide) (fun _ => rfl) rfl h2 ?_
    refine V_iload (pc2 := 110) (dk D_X13_isCaught 59 rfl) (V_lg 4 rfl) rfl ?_
    obtain ⟨h8, h⟩ := h
    obtain ⟨h9, h⟩ := h
    refine V_iald (pc2 := 111) (dk D_X13_isCaught 60 rfl) rfl h8 h9 ?_
    obtain ⟨h10, h⟩ := h
    obtain ⟨h11, h⟩ := h
    refine V_iast (pc2 := 112) (dk D_X13_isCaught 61 rfl) rfl h10 h11 ?_
    have h := h _ rfl
    refine V_aload_n (pc2 := 113) (dk D_X13_isCaught 62 rfl) rfl (V_lg 0 rfl) rfl ?_
    refine V_getR kc13 (pc2 := 116) 67 (dk D_X13_isCaught 63 rfl) fl_13_216 (by decide) (fun _ => rfl) rfl h2 ?_
    refine V_bipush (x := 25) (pc2 := 118) (dk D_X13_isCaught 64 rfl) (by decide) rfl ?_
    refine V_iload_n (pc2 := 119) (dk D_X13_isCaught 65 rfl) rfl (V_lg 2 rfl) rfl ?_
    refine V_imul (pc2 := 120) (dk D_X13_isCaught 66 rfl) rfl ?_
    refine V_aload_n (pc2 := 121) (dk D_X13_isCaught 67 rfl) rfl (V_lg 0 rfl) rfl ?_
    refine V_getR kc13 (pc2 := 124) 33 (dk D_X13_isCaught 68 rfl) fl_13_140 (by decide) (fun _ => rfl) rfl h2 ?_
    refine V_iload (pc2 := 126) (dk D_X13_isCaught 69 rfl) (V_lg 5 rfl) rfl ?_
    obtain ⟨h13, h⟩ := h
    obtain ⟨h14, h⟩ := h
    refine V_iald (pc2 := 127) (dk D_X13_isCaught 70 rfl) rfl h13 h14 ?_
    refine V_iadd (pc2 := 128) (dk D_X13_isCaught 71 rfl) rfl ?_
    refine V_iload (pc2 := 130) (dk D_X13_isCaught 72 rfl) (V_lg 4 rfl) rfl ?_
    obtain ⟨h15, h⟩ := h
    obtain ⟨h16, h⟩ := h
    refine V_iast (pc2 := 131) (dk D_X13_isCaught 73 rfl) rfl h15 h16 ?_
    have h := h _ rfl
    refine V_aload_n (pc2 := 132) (dk D_X13_isCaught 74 rfl) rfl (V_lg 0 rfl) rfl ?_
    refine V_getR kc13 (pc2 := 135) 62 (dk D_X13_isCaught 75 rfl) fl_13_201 (by decide) (fun _ => rfl) rfl h2 ?_
    refine V_iload_n (pc2 := 136) (dk D_X13_isCaught 76 rfl) rfl (V_lg 2 rfl) rfl ?_
    refine V_aload_n (pc2 := 137) (dk D_X13_isCaught 77 rfl) rfl (V_lg 0 rfl) rfl ?_
    refine V_getR kc13 (pc2 := 140) 32 (dk D_X13_isCaught 78 rfl) fl_13_137 (by decide) (fun _ => rfl) rfl h2 ?_
    refine V_iload (pc2 := 142) (dk D_X13_isCaught 79 rfl) (V_lg 5 rfl) rfl ?_
    obtain ⟨h18, h⟩ := h
    obtain ⟨h19, h⟩ := h
    refine V_iald (pc2 := 143) (dk D_X13_isCaught 80 rfl) rfl h18 h19 ?_
    obtain ⟨h20, h⟩ := h
    obtain ⟨h21, h⟩ := h
    refine V_iast (pc2 := 144) (dk D_X13_isCaught 81 rfl) rfl h20 h21 ?_
    have h := h _ rfl
    refine V_aload_n (pc2 := 145) (dk D_X13_isCaught 82 rfl) rfl (V_lg 0 rfl) rfl ?_
    refine V_getR kc13 (pc2 := 148) 73 (dk D_X13_isCaught 83 rfl) fl_13_234 (by decide) (fun _ => rfl) rfl h2 ?_
    refine V_aload_n (pc2 := 149) (dk D_X13_isCaught 84 rfl) rfl (V_lg 0 rfl) rfl ?_
    refine V_getR kc13 (pc2 := 152) 58 (dk D_X13_isCaught 85 rfl) fl_13_189 (by decide) (fun _ => rfl) rfl h2 ?_
    refine V_iload_n (pc2 := 153) (dk D_X13_isCaught 86 rfl) rfl (V_lg 1 rfl) rfl ?_
    obtain ⟨h23, h⟩ := h
    obtain ⟨h24, h⟩ := h
    refine V_iald (pc2 := 154) (dk D_X13_isCaught 87 rfl) rfl h23 h24 ?_
    refine V_aload_n (pc2 := 155) (dk D_X13_isCaught 88 rfl) rfl (V_lg 0 rfl) rfl ?_
    refine V_getR kc13 (pc2 := 158) 65 (dk D_X13_isCaught 89 rfl) fl_13_210 (by decide) (fun _ => rfl) rfl h2 ?_
    refine V_iload_n (pc2 := 159) (dk D_X13_isCaught 90 rfl) rfl (V_lg 2 rfl) rfl ?_
    obtain ⟨h25, h⟩ := h
    obtain ⟨h26, h⟩ := h
    refine V_iald (pc2 := 160) (dk D_X13_isCaught 91 rfl) rfl h25 h26 ?_
    obtain ⟨h27, h⟩ := h
    obtain ⟨h28, h⟩ := h
    refine V_iast (pc2 := 161) (dk D_X13_isCaught 92 rfl) rfl h27 h28 ?_
    have h := h _ rfl
    refine V_iconst (x := 1) (pc2 := 162) (dk D_X13_isCaught 93 rfl) (by decide) rfl ?_
    exact V_zreturn (dk D_X13_isCaught 94 rfl) rfl (Or.inr rfl) h
def L_X13_finishes : List (Nat × Instr × Nat) := [(0, .aload_n 0, 1), (1, .iload_n 1, 1), (2, .invokevirtual 504, 3), (5, .istore 5, 2), (7, .aload_n 0, 1), (8, .getfield 225, 3), (11, .iload_n 2, 1), (12, .iconst 2, 1), (13, .iastore, 1), (14, .aload_n 0, 1), (15, .getfield 228, 3), (18, .iload_n 2, 1), (19, .iload_n 3, 1), (20, .iastore, 1), (21, .aload_n 0, 1), (22, .getfield 231, 3), (25, .iload_n 2, 1), (26, .iload 4, 2), (28, .iastore, 1), (29, .aload_n 0, 1), (30, .getfield 173, 3), (33, .iload_n 1, 1), (34, .dup2, 1), (35, .iaload, 1), (36, .iconst 1, 1), (37, .iadd, 1), (38, .iastore, 1), (39, .aload_n 0, 1), (40, .getfield 201, 3), (43, .iload 5, 2), (45, .aload_n 0, 1), (46, .getfield 125, 3), (49, .aload_n 0, 1), (50, .getfield 222, 3), (53, .iload_n 2, 1), (54, .iaload, 1), (55, .iaload, 1), (56, .iastore, 1), (57, .aload_n 0, 1), (58, .getfield 234, 3), (61, .aload_n 0, 1), (62, .getfield 189, 3), (65, .iload_n 1, 1), (66, .iaload, 1), (67, .aload_n 0, 1), (68, .getfield 210, 3), (71, .iload 5, 2), (73, .iaload, 1), (74, .iastore, 1), (75, .return_, 1)]
theorem D_X13_finishes : dOk cX13_finishes L_X13_finishes = true := by decide +kernel
theorem w_X13_finishes_0 {X : Cx} {d : Nat} {S : Mem} {Q : Res → Mem → Prop} (r0 : Nat) (x1 : Int32) (x2 : Int32) (x3 : Int32) (x4 : Int32) (h : (isK S r0 13) ∧ ∃ e1 : Nat, e1 + 1 ≤ d ∧ C X e1 MX13_call [vR r0, vI x1] S (RI fun y4 S5 => (isK S5 r0 13) ∧ (isK S5 (gR S5 r0 70) 21) ∧ (vp_in x2 (gN S5 (gR S5 r0 70))) ∧ ∀ S10 : Mem, S10 = uI S5 (gR S5 r0 70) ((x2 : Int32).toNatClampNeg) 2 → (isK S5 (gR S5 r0 71) 21) ∧ (vp_in x2 (gN S5 (gR S5 r0 71))) ∧ ∀ S13 : Mem, S13 = uI S10 (gR S5 r0 71) ((x2 : Int32).toNatClampNeg) x3 → (isK S5 (gR S5 r0 72) 21) ∧ (vp_in x2 (gN S5 (gR S5 r0 72))) ∧ ∀ S16 : Mem, S16 = uI S13 (gR S5 r0 72) ((x2 : Int32).toNatClampNeg) x4 → (isK S5 (gR S5 r0 53) 21) ∧ (vp_in x1 (gN S5 (gR S5 r0 53))) ∧ (vp_in x1 (gN S5 (gR S5 r0 53))) ∧ ∀ S20 : Mem, S20 = uI S16 (gR S5 r0 53) ((x1 : Int32).toNatClampNeg) ((gI S16 (gR S5 r0 53) (x1 : Int32).toNatClampNeg) + 1) → (isK S5 (gR S5 r0 69) 21) ∧ (vp_in x2 (gN S5 (gR S5 r0 69))) ∧ (isK S5 (gR S5 r0 27) 21) ∧ (vp_in (gI S20 (gR S5 r0 69) (x2 : Int32).toNatClampNeg) (gN S5 (gR S5 r0 27))) ∧ (isK S5 (gR S5 r0 62) 21) ∧ (vp_in y4 (gN S5 (gR S5 r0 62))) ∧ ∀ S27 : Mem, S27 = uI S20 (gR S5 r0 62) ((y4 : Int32).toNatClampNeg) (gI S20 (gR S5 r0 27) ((gI S20 (gR S5 r0 69) (x2 : Int32).toNatClampNeg) : Int32).toNatClampNeg) → (isK S5 (gR S5 r0 58) 21) ∧ (vp_in x1 (gN S5 (gR S5 r0 58))) ∧ (isK S5 (gR S5 r0 65) 21) ∧ (vp_in y4 (gN S5 (gR S5 r0 65))) ∧ (isK S5 (gR S5 r0 73) 21) ∧ (vp_in (gI S27 (gR S5 r0 58) (x1 : Int32).toNatClampNeg) (gN S5 (gR S5 r0 73))) ∧ ∀ S34 : Mem, S34 = uI S27 (gR S5 r0 73) (((gI S27 (gR S5 r0 58) (x1 : Int32).toNatClampNeg) : Int32).toNatClampNeg) (gI S27 (gR S5 r0 65) (y4 : Int32).toNatClampNeg) → Q (.inl none) S34)) : V X d MX13_finishes 0 [(0, vR r0), (1, vI x1), (2, vI x2), (3, vI x3), (4, vI x4)] [] S Q := by
  refine V_aload_n (pc2 := 1) (dk D_X13_finishes 0 rfl) rfl (V_lg 0 rfl) rfl ?_
  refine V_iload_n (pc2 := 2) (dk D_X13_finishes 1 rfl) rfl (V_lg 1 rfl) rfl ?_
  obtain ⟨h6, h⟩ := h
  obtain ⟨e1, he2, hc3⟩ := h
  refine V_callV (as := [_]) (st := []) (M' := MX13_call) (ci := 13) (pc2 := 5) (dk D_X13_finishes 2 rfl) ml_13_504 mv_X13_call rfl rfl (by decide) rfl (Nat.le_of_ble_eq_true rfl) rfl he2 h6 hc3 (RI.k fun y4 S5 h => ?_)
  refine V_istore (pc2 := 7) (lv2 := [(0, _), (1, _), (2, _), (3, _), (4, _), (5, _)]) (dk D_X13_finishes 3 rfl) (by decide) rfl rfl ?_
  refine V_aload_n (pc2 := 8) (dk D_X13_finishes 4 rfl) rfl (V_lg 0 rfl) rfl ?_
  obtain ⟨h7, h⟩ := h
  refine V_getR kc13 (pc2 := 11) 70 (dk D_X13_finishes 5 rfl) fl_13_225 (by decide) (fun _ => rfl) rfl h7 ?_
  refine V_iload_n (pc2 := 12) (dk D_X13_finishes 6 rfl) rfl (V_lg 2 rfl) rfl ?_
  refine V_iconst (x := 2) (pc2 := 13) (dk D_X13_finishes 7 rfl) (by decide) rfl ?_
  obtain ⟨h8, h⟩ := h
  obtain ⟨h9, h⟩ := h
  refine V_iast (pc2 := 14) (dk D_X13_finishes 8 rfl) rfl h8 h9 ?_
  have h := h _ rfl
  refine V_aload_n (pc2 := 15) (dk D_X13_finishes 9 rfl) rfl (V_lg 0 rfl) rfl ?_
  refine V_getR kc13 (pc2 := 18) 71 (dk D_X13_finishes 10 rfl) fl_13_228 (by decide) (fun _ => rfl) rfl h7 ?_
  refine V_iload_n (pc2 := 19) (dk D_X13_finishes 11 rfl) rfl (V_lg 2 rfl) rfl ?_
  refine V_iload_n (pc2 := 20) (dk D_X13_finishes 12 rfl) rfl (V_lg 3 rfl) rfl ?_
  obtain ⟨h11, h⟩ := h
  obtain ⟨h12, h⟩ := h
  refine V_iast (pc2 := 21) (dk D_X13_finishes 13 rfl) rfl h11 h12 ?_
  have h := h _ rfl
  refine V_aload_n (pc2 := 22) (dk D_X13_finishes 14 rfl) rfl (V_lg 0 rfl) rfl ?_
  refine V_getR kc13 (pc2 := 25) 72 (dk D_X13_finishes 15 rfl) fl_13_231 (by decide) (fun _ => rfl) rfl h7 ?_
  refine V_iload_n (pc2 := 26) (dk D_X13_finishes 16 rfl) rfl (V_lg 2 rfl) rfl ?_
  refine V_iload (pc2 := 28) (dk D_X13_finishes 17 rfl) (V_lg 4 rfl) rfl ?_
  obtain ⟨h14, h⟩ := h
  obtain ⟨h15, h⟩ := h
  refine V_iast (pc2 := 29) (dk D_X13_finishes 18 rfl) rfl h14 h15 ?_
  have h := h _ rfl
  refine V_aload_n (pc2 := 30) (dk D_X13_finishes 19 rfl) rfl (V_lg 0 rfl) rfl ?_
  refine V_getR kc13 (pc2 := 33) 53 (dk D_X13_finishes 20 rfl) fl_13_173 (by decide) (fun _ => rfl) rfl h7 ?_
  refine V_iload_n (pc2 := 34) (dk D_X13_finishes 21 rfl) rfl (V_lg 1 rfl) rfl ?_
  refine V_dup2 (pc2 := 35) (dk D_X13_finishes 22 rfl) rfl rfl rfl ?_
  obtain ⟨h17, h⟩ := h
  obtain ⟨h18, h⟩ := h
  refine V_iald (pc2 := 36) (dk D_X13_finishes 23 rfl) rfl h17 h18 ?_
  refine V_iconst (x := 1) (pc2 := 37) (dk D_X13_finishes 24 rfl) (by decide) rfl ?_
  refine V_iadd (pc2 := 38) (dk D_X13_finishes 25 rfl) rfl ?_
  obtain ⟨h19, h⟩ := h
  refine V_iast (pc2 := 39) (dk D_X13_finishes 26 rfl) rfl h17 h19 ?_
  have h := h _ rfl
  refine V_aload_n (pc2 := 40) (dk D_X13_finishes 27 rfl) rfl (V_lg 0 rfl) rfl ?_
  refine V_getR kc13 (pc2 := 43) 62 (dk D_X13_finishes 28 rfl) fl_13_201 (by decide) (fun _ => rfl) rfl h7 ?_
  refine V_iload (pc2 := 45) (dk D_X13_finishes 29 rfl) (V_lg 5 rfl) rfl ?_
  refine V_aload_n (pc2 := 46) (dk D_X13_finishes 30 rfl) rfl (V_lg 0 rfl) rfl ?_
  refine V_getR kc13 (pc2 := 49) 27 (dk D_X13_finishes 31 rfl) fl_13_125 (by decide) (fun _ => rfl) rfl h7 ?_
  refine V_aload_n (pc2 := 50) (dk D_X13_finishes 32 rfl) rfl (V_lg 0 rfl) rfl ?_
  refine V_getR kc13 (pc2 := 53) 69 (dk D_X13_finishes 33 rfl) fl_13_222 (by decide) (fun _ => rfl) rfl h7 ?_
  refine V_iload_n (pc2 := 54) (dk D_X13_finishes 34 rfl) rfl (V_lg 2 rfl) rfl ?_
  obtain ⟨h21, h⟩ := h
  obtain ⟨h22, h⟩ := h
  refine V_iald (pc2 := 55) (dk D_X13_finishes 35 rfl) rfl h21 h22 ?_
  obtain ⟨h23, h⟩ := h
  obtain ⟨h24, h⟩ := h
  refine V_iald (pc2 := 56) (dk D_X13_finishes 36 rfl) rfl h23 h24 ?_
  obtain ⟨h25, h⟩ := h
  obtain ⟨h26, h⟩ := h
  refine V_iast (pc2 := 57) (dk D_X13_finishes 37 rfl) rfl h25 h26 ?_
  have h := h _ rfl
  refine V_aload_n (pc2 := 58) (dk D_X13_finishes 38 rfl) rfl (V_lg 0 rfl) rfl ?_
  refine V_getR kc13 (pc2 := 61) 73 (dk D_X13_finishes 39 rfl) fl_13_234 (by decide) (fun _ => rfl) rfl h7 ?_
  refine V_aload_n (pc2 := 62) (dk D_X13_finishes 40 rfl) rfl (V_lg 0 rfl) rfl ?_
  refine V_getR kc13 (pc2 := 65) 58 (dk D_X13_finishes 41 rfl) fl_13_189 (by decide) (fun _ => rfl) rfl h7 ?_
  refine V_iload_n (pc2 := 66) (dk D_X13_finishes 42 rfl) rfl (V_lg 1 rfl) rfl ?_
  obtain ⟨h28, h⟩ := h
  obtain ⟨h29, h⟩ := h
  refine V_iald (pc2 := 67) (dk D_X13_finishes 43 rfl) rfl h28 h29 ?_
  refine V_aload_n (pc2 := 68) (dk D_X13_finishes 44 rfl) rfl (V_lg 0 rfl) rfl ?_
  refine V_getR kc13 (pc2 := 71) 65 (dk D_X13_finishes 45 rfl) fl_13_210 (by decide) (fun _ => rfl) rfl h7 ?_
  refine V_iload (pc2 := 73) (dk D_X13_finishes 46 rfl) (V_lg 5 rfl) rfl ?_
  obtain ⟨h30, h⟩ := h
  obtain ⟨h31, h⟩ := h
  refine V_iald (pc2 := 74) (dk D_X13_finishes 47 rfl) rfl h30 h31 ?_
  obtain ⟨h32, h⟩ := h
  obtain ⟨h33, h⟩ := h
  refine V_iast (pc2 := 75) (dk D_X13_finishes 48 rfl) rfl h32 h33 ?_
  have h := h _ rfl
  exact V_return (dk D_X13_finishes 49 rfl) rfl h
