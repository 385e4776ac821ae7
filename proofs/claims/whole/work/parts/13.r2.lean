def L_X13_leaves : List (Nat × Instr × Nat) := [(0, .aload_n 0, 1), (1, .getfield 185, 3), (4, .iload_n 1, 1), (5, .baload, 1), (6, .ifCond .eq 18, 3), (9, .aload_n 0, 1), (10, .getfield 256, 3), (13, .iload_n 2, 1), (14, .iaload, 1), (15, .bipush 14, 2), (17, .if_icmp .ne 7, 3), (20, .iconst 1, 1), (21, .goto 4, 3), (24, .iconst 0, 1), (25, .istore_n 3, 1), (26, .aload_n 0, 1), (27, .iload_n 1, 1), (28, .iload_n 3, 1), (29, .ifCond .eq 8, 3), (32, .bipush 6, 2), (34, .goto 4, 3), (37, .iconst 5, 1), (38, .invokevirtual 513, 3), (41, .aload_n 0, 1), (42, .getfield 176, 3), (45, .iload_n 1, 1), (46, .iaload, 1), (47, .istore 4, 2), (49, .aload_n 0, 1), (50, .iload_n 1, 1), (51, .iload 4, 2), (53, .invokevirtual 516, 3), (56, .aload_n 0, 1), (57, .iload 4, 2), (59, .putfield 473, 3), (62, .iload 4, 2), (64, .ifCond .ne 33, 3), (67, .aload_n 0, 1), (68, .iload_n 3, 1), (69, .ifCond .eq 7, 3), (72, .iconst 1, 1), (73, .goto 4, 3), (76, .iconst 2, 1), (77, .putfield 519, 3), (80, .aload_n 0, 1), (81, .iload_n 3, 1), (82, .ifCond .eq 10, 3), (85, .aload_n 0, 1), (86, .getfield 491, 3), (89, .goto 4, 3), (92, .iload_n 2, 1), (93, .putfield 491, 3), (96, .return_, 1), (97, .aload_n 0, 1), (98, .getfield 161, 3), (101, .iload 4, 2), (103, .iconst 2, 1), (104, .iastore, 1), (105, .iload_n 3, 1), (106, .ifCond .ne 10, 3), (109, .aload_n 0, 1), (110, .iload 4, 2), (112, .iload_n 2, 1), (113, .invokevirtual 529, 3), (116, .return_, 1)]
theorem D_X13_leaves : dOk cX13_leaves L_X13_leaves = true := by decide +kernel
theorem w_X13_leaves_0 {X : Cx} {d : Nat} {S : Mem} {Q : Res → Mem → Prop} (r0 : Nat) (x1 : Int32) (x2 : Int32) (h : (isK S r0 13) ∧ (isK S (gR S r0 57) 23) ∧ (vp_in x1 (gN S (gR S r0 57))) ∧ (((gI S (gR S r0 57) (x1 : Int32).toNatClampNeg) = 0 → V X d MX13_leaves 24 [(0, vR r0), (1, vI x1), (2, vI x2)] [] S Q) ∧ (¬ (gI S (gR S r0 57) (x1 : Int32).toNatClampNeg) = 0 → (isK S (gR S r0 89) 21) ∧ (vp_in x2 (gN S (gR S r0 89))) ∧ ((¬ (gI S (gR S r0 89) (x2 : Int32).toNatClampNeg) = 14 → V X d MX13_leaves 24 [(0, vR r0), (1, vI x1), (2, vI x2)] [] S Q) ∧ ((gI S (gR S r0 89) (x2 : Int32).toNatClampNeg) = 14 → V X d MX13_leaves 25 [(0, vR r0), (1, vI x1), (2, vI x2)] [vI 1] S Q))))) : V X d MX13_leaves 0 [(0, vR r0), (1, vI x1), (2, vI x2)] [] S Q := by
  refine V_aload_n (pc2 := 1) (dk D_X13_leaves 0 rfl) rfl (V_lg 0 rfl) rfl ?_
  obtain ⟨h1, h⟩ := h
  refine V_getR kc13 (pc2 := 4) 57 (dk D_X13_leaves 1 rfl) fl_13_185 (by decide) (fun _ => rfl) rfl h1 ?_
  refine V_iload_n (pc2 := 5) (dk D_X13_leaves 2 rfl) rfl (V_lg 1 rfl) rfl ?_
  obtain ⟨h2, h⟩ := h
  obtain ⟨h3, h⟩ := h
  refine V_zald (pc2 := 6) (dk D_X13_leaves 3 rfl) rfl h2 h3 ?_
  refine V_ifeq (tgt := 24) (pc2 := 9) (dk D_X13_leaves 4 rfl) (by decide) rfl (fun q4 => ?_) (fun q4 => ?_)
  · have h := h.1 q4
    exact h
  · have h := h.2 q4
    refine V_aload_n (pc2 := 10) (dk D_X13_leaves 5 rfl) rfl (V_lg 0 rfl) rfl ?_
    refine V_getR kc13 (pc2 := 13) 89 (dk D_X13_leaves 6 rfl) fl_13_256 (by decide) (fun _ => rfl) rfl h1 ?_
    refine V_iload_n (pc2 := 14) (dk D_X13_leaves 7 rfl) rfl (V_lg 2 rfl) rfl ?_
    obtain ⟨h5, h⟩ := h
    obtain ⟨h6, h⟩ := h
    refine V_iald (pc2 := 15) (dk D_X13_leaves 8 rfl) rfl h5 h6 ?_
    refine V_bipush (x := 14) (pc2 := 17) (dk D_X13_leaves 9 rfl) (by decide) rfl ?_
    refine V_cmpne (tgt := 24) (pc2 := 20) (dk D_X13_leaves 10 rfl) (by decide) rfl (fun q7 => ?_) (fun q7 => ?_)
    · have h := h.1 q7
      exact h
    · have h := h.2 q7
      refine V_iconst (x := 1) (pc2 := 21) (dk D_X13_leaves 11 rfl) (by decide) rfl ?_
      refine V_goto (tgt := 25) (dk D_X13_leaves 12 rfl) (by decide) ?_
      exact h
theorem w_X13_leaves_24 {X : Cx} {d : Nat} {S : Mem} {Q : Res → Mem → Prop} (r0 : Nat) (x1 : Int32) (x2 : Int32) (h : V X d MX13_leaves 25 [(0, vR r0), (1, vI x1), (2, vI x2)] [vI 0] S Q) : V X d MX13_leaves 24 [(0, vR r0), (1, vI x1), (2, vI x2)] [] S Q := by
  refine V_iconst (x := 0) (pc2 := 25) (dk D_X13_leaves 13 rfl) (by decide) rfl ?_
  exact h
theorem w_X13_leaves_25 {X : Cx} {d : Nat} {S : Mem} {Q : Res → Mem → Prop} (r0 : Nat) (x1 : Int32) (x2 : Int32) (t0 : Int32) (h : ((t0 = 0 → V X d MX13_leaves 38 [(0, vR r0), (1, vI x1), (2, vI x2), (3, vI t0)] [vI 5, vI x1, vR r0] S Q) ∧ (¬ t0 = 0 → V X d MX13_leaves 38 [(0, vR r0), (1, vI x1), (2, vI x2), (3, vI t0)] [vI 6, vI x1, vR r0] S Q))) : V X d MX13_leaves 25 [(0, vR r0), (1, vI x1), (2, vI x2)] [vI t0] S Q := by
  refine V_istore_n (pc2 := 26) (lv2 := [(0, _), (1, _), (2, _), (3, _)]) (dk D_X13_leaves 14 rfl) rfl (by decide) rfl rfl ?_
  refine V_aload_n (pc2 := 27) (dk D_X13_leaves 15 rfl) rfl (V_lg 0 rfl) rfl ?_
  refine V_iload_n (pc2 := 28) (dk D_X13_leaves 16 rfl) rfl (V_lg 1 rfl) rfl ?_
  refine V_iload_n (pc2 := 29) (dk D_X13_leaves 17 rfl) rfl (V_lg 3 rfl) rfl ?_
  refine V_ifeq (tgt := 37) (pc2 := 32) (dk D_X13_leaves 18 rfl) (by decide) rfl (fun q1 => ?_) (fun q1 => ?_)
  · have h := h.1 q1
    refine V_iconst (x := 5) (pc2 := 38) (dk D_X13_leaves 21 rfl) (by decide) rfl ?_
    exact h
  · have h := h.2 q1
    refine V_bipush (x := 6) (pc2 := 34) (dk D_X13_leaves 19 rfl) (by decide) rfl ?_
    refine V_goto (tgt := 38) (dk D_X13_leaves 20 rfl) (by decide) ?_
    exact h
theorem w_X13_leaves_38 {X : Cx} {d : Nat} {S : Mem} {Q : Res → Mem → Prop} (r0 : Nat) (x1 : Int32) (x2 : Int32) (x3 : Int32) (t0 : Nat) (t1 : Int32) (t2 : Int32) (h : (isK S t0 13) ∧ ∃ e1 : Nat, e1 + 1 ≤ d ∧ C X e1 MX13_over [vR t0, vI t1, vI t2] S (RV fun  S4 => (isK S4 r0 13) ∧ (isK S4 (gR S4 r0 54) 21) ∧ (vp_in x1 (gN S4 (gR S4 r0 54))) ∧ ∃ e9 : Nat, e9 + 1 ≤ d ∧ C X e9 MX13_hands [vR r0, vI x1, vI (gI S4 (gR S4 r0 54) (x1 : Int32).toNatClampNeg)] S4 (RV fun  S12 => (isK S12 r0 13) ∧ ∀ S14 : Mem, S14 = uI S12 r0 77 (gI S4 (gR S4 r0 54) (x1 : Int32).toNatClampNeg) → ((¬ (gI S4 (gR S4 r0 54) (x1 : Int32).toNatClampNeg) = 0 → (isK S12 (gR S12 r0 49) 21) ∧ (vp_in (gI S4 (gR S4 r0 54) (x1 : Int32).toNatClampNeg) (gN S12 (gR S12 r0 49))) ∧ ∀ S18 : Mem, S18 = uI S14 (gR S12 r0 49) (((gI S4 (gR S4 r0 54) (x1 : Int32).toNatClampNeg) : Int32).toNatClampNeg) 2 → ((¬ x3 = 0 → V X d MX13_leaves 116 [(0, vR r0), (1, vI x1), (2, vI x2), (3, vI x3), (4, vI (gI S4 (gR S4 r0 54) (x1 : Int32).toNatClampNeg))] [] S18 Q) ∧ (x3 = 0 → ∃ e20 : Nat, e20 + 1 ≤ d ∧ C X e20 MX13_raise [vR r0, vI (gI S4 (gR S4 r0 54) (x1 : Int32).toNatClampNeg), vI x2] S18 (RV fun  S23 => V X d MX13_leaves 116 [(0, vR r0), (1, vI x1), (2, vI x2), (3, vI x3), (4, vI (gI S4 (gR S4 r0 54) (x1 : Int32).toNatClampNeg))] [] S23 Q)))) ∧ ((gI S4 (gR S4 r0 54) (x1 : Int32).toNatClampNeg) = 0 → ((x3 = 0 → V X d MX13_leaves 77 [(0, vR r0), (1, vI x1), (2, vI x2), (3, vI x3), (4, vI (gI S4 (gR S4 r0 54) (x1 : Int32).toNatClampNeg))] [vI 2, vR r0] S14 Q) ∧ (¬ x3 = 0 → V X d MX13_leaves 77 [(0, vR r0), (1, vI x1), (2, vI x2), (3, vI x3), (4, vI (gI S4 (gR S4 r0 54) (x1 : Int32).toNatClampNeg))] [vI 1, vR r0] S14 Q))))))) : V X d MX13_leaves 38 [(0, vR r0), (1, vI x1), (2, vI x2), (3, vI x3)] [vI t2, vI t1, vR t0] S Q := by
  obtain ⟨h5, h⟩ := h
  obtain ⟨e1, he2, hc3⟩ := h
  refine V_callV (as := [_, _]) (st := []) (M' := MX13_over) (ci := 13) (pc2 := 41) (dk D_X13_leaves 22 rfl) ml_13_513 mv_X13_over rfl rfl (by decide) rfl (Nat.le_of_ble_eq_true rfl) rfl he2 h5 hc3 (RV.k fun  S4 h => ?_)
  refine V_aload_n (pc2 := 42) (dk D_X13_leaves 23 rfl) rfl (V_lg 0 rfl) rfl ?_
  obtain ⟨h6, h⟩ := h
  refine V_getR kc13 (pc2 := 45) 54 (dk D_X13_leaves 24 rfl) fl_13_176 (by decide) (fun _ => rfl) rfl h6 ?_
  refine V_iload_n (pc2 := 46) (dk D_X13_leaves 25 rfl) rfl (V_lg 1 rfl) rfl ?_
  obtain ⟨h7, h⟩ := h
  obtain ⟨h8, h⟩ := h
  refine V_iald (pc2 := 47) (dk D_X13_leaves 26 rfl) rfl h7 h8 ?_
  refine V_istore (pc2 := 49) (lv2 := [(0, _), (1, _), (2, _), (3, _), (4, _)]) (dk D_X13_leaves 27 rfl) (by decide) rfl rfl ?_
  refine V_aload_n (pc2 := 50) (dk D_X13_leaves 28 rfl) rfl (V_lg 0 rfl) rfl ?_
  refine V_iload_n (pc2 := 51) (dk D_X13_leaves 29 rfl) rfl (V_lg 1 rfl) rfl ?_
  refine V_iload (pc2 := 53) (dk D_X13_leaves 30 rfl) (V_lg 4 rfl) rfl ?_
  obtain ⟨e9, he10, hc11⟩ := h
  refine V_callV (as := [_, _]) (st := []) (M' := MX13_hands) (ci := 13) (pc2 := 56) (dk D_X13_leaves 31 rfl) ml_13_516 mv_X13_hands rfl rfl (by decide) rfl (Nat.le_of_ble_eq_true rfl) rfl he10 h6 hc11 (RV.k fun  S12 h => ?_)
  refine V_aload_n (pc2 := 57) (dk D_X13_leaves 32 rfl) rfl (V_lg 0 rfl) rfl ?_
  refine V_iload (pc2 := 59) (dk D_X13_leaves 33 rfl) (V_lg 4 rfl) rfl ?_
  obtain ⟨h13, h⟩ := h
  refine V_putI kc13 (pc2 := 62) 77 (dk D_X13_leaves 34 rfl) fl_13_473 (by decide) (Or.inl rfl) rfl rfl h13 ?_
  have h := h _ rfl
  refine V_iload (pc2 := 64) (dk D_X13_leaves 35 rfl) (V_lg 4 rfl) rfl ?_
  refine V_ifne (tgt := 97) (pc2 := 67) (dk D_X13_leaves 36 rfl) (by decide) rfl (fun q15 => ?_) (fun q15 => ?_)
  · have h := h.1 q15
    refine V_aload_n (pc2 := 98) (dk D_X13_leaves 53 rfl) rfl (V_lg 0 rfl) rfl ?_
    refine V_getR kc13 (pc2 := 101) 49 (dk D_X13_leaves 54 rfl) fl_13_161 (by decide) (fun _ => rfl) rfl h13 ?_
    refine V_iload (pc2 := 103) (dk D_X13_leaves 55 rfl) (V_lg 4 rfl) rfl ?_
    refine V_iconst (x := 2) (pc2 := 104) (dk D_X13_leaves 56 rfl) (by decide) rfl ?_
    obtain ⟨h16, h⟩ := h
    obtain ⟨h17, h⟩ := h
    refine V_iast (pc2 := 105) (dk D_X13_leaves 57 rfl) rfl h16 h17 ?_
    have h := h _ rfl
    refine V_iload_n (pc2 := 106) (dk D_X13_leaves 58 rfl) rfl (V_lg 3 rfl) rfl ?_
    refine V_ifne (tgt := 116) (pc2 := 109) (dk D_X13_leaves 59 rfl) (by decide) rfl (fun q19 => ?_) (fun q19 => ?_)
    · have h := h.1 q19
      exact h
    · have h := h.2 q19
      refine V_aload_n (pc2 := 110) (dk D_X13_leaves 60 rfl) rfl (V_lg 0 rfl) rfl ?_
      refine V_iload (pc2 := 112) (dk D_X13_leaves 61 rfl) (V_lg 4 rfl) rfl ?_
      refine V_iload_n (pc2 := 113) (dk D_X13_leaves 62 rfl) rfl (V_lg 2 rfl) rfl ?_
      obtain ⟨e20, he21, hc22⟩ := h
      refine V_callV (as := [_, _]) (st := []) (M' := MX13_raise) (ci := 13) (pc2 := 116) (dk D_X13_leaves 63 rfl) ml_13_529 mv_X13_raise rfl rfl (by decide) rfl (Nat.le_of_ble_eq_true rfl) rfl he21 h13 hc22 (RV.k fun  S23 h => ?_)
      exact h
  · have h := h.2 q15
    refine V_aload_n (pc2 := 68) (dk D_X13_leaves 37 rfl) rfl (V_lg 0 rfl) rfl ?_
    refine V_iload_n (pc2 := 69) (dk D_X13_leaves 38 rfl) rfl (V_lg 3 rfl) rfl ?_
    refine V_ifeq (tgt := 76) (pc2 := 72) (dk D_X13_leaves 39 rfl) (by decide) rfl (fun q24 => ?_) (fun q24 => ?_)
    · have h := h.1 q24
      refine V_iconst (x := 2) (pc2 := 77) (dk D_X13_leaves 42 rfl) (by decide) rfl ?_
      exact h
    · have h := h.2 q24
      refine V_iconst (x := 1) (pc2 := 73) (dk D_X13_leaves 40 rfl) (by decide) rfl ?_
      refine V_goto (tgt := 77) (dk D_X13_leaves 41 rfl) (by decide) ?_
      exact h
theorem w_X13_leaves_77 {X : Cx} {d : Nat} {S : Mem} {Q : Res → Mem → Prop} (r0 : Nat) (x1 : Int32) (x2 : Int32) (x3 : Int32) (x4 : Int32) (t0 : Nat) (t1 : Int32) (h : (isK S t0 13) ∧ ∀ S2 : Mem, S2 = uI S t0 78 t1 → ((x3 = 0 → V X d MX13_leaves 93 [(0, vR r0), (1, vI x1), (2, vI x2), (3, vI x3), (4, vI x4)] [vI x2, vR r0] S2 Q) ∧ (¬ x3 = 0 → (isK S r0 13) ∧ V X d MX13_leaves 93 [(0, vR r0), (1, vI x1), (2, vI x2), (3, vI x3), (4, vI x4)] [vI (gI S2 r0 97), vR r0] S2 Q))) : V X d MX13_leaves 77 [(0, vR r0), (1, vI x1), (2, vI x2), (3, vI x3), (4, vI x4)] [vI t1, vR t0] S Q := by
  obtain ⟨h1, h⟩ := h
  refine V_putI kc13 (pc2 := 80) 78 (dk D_X13_leaves 43 rfl) fl_13_519 (by decide) (Or.inl rfl) rfl rfl h1 ?_
  have h := h _ rfl
  refine V_aload_n (pc2 := 81) (dk D_X13_leaves 44 rfl) rfl (V_lg 0 rfl) rfl ?_
  refine V_iload_n (pc2 := 82) (dk D_X13_leaves 45 rfl) rfl (V_lg 3 rfl) rfl ?_
  refine V_ifeq (tgt := 92) (pc2 := 85) (dk D_X13_leaves 46 rfl) (by decide) rfl (fun q3 => ?_) (fun q3 => ?_)
  · have h := h.1 q3
    refine V_iload_n (pc2 := 93) (dk D_X13_leaves 50 rfl) rfl (V_lg 2 rfl) rfl ?_
    exact h
  · have h := h.2 q3
    refine V_aload_n (pc2 := 86) (dk D_X13_leaves 47 rfl) rfl (V_lg 0 rfl) rfl ?_
    obtain ⟨h4, h⟩ := h
    refine V_getI kc13 (pc2 := 89) 97 (dk D_X13_leaves 48 rfl) fl_13_491 (by decide) (fun _ => rfl) rfl h4 ?_
    refine V_goto (tgt := 93) (dk D_X13_leaves 49 rfl) (by decide) ?_
    exact h
theorem w_X13_leaves_93 {X : Cx} {d : Nat} {S : Mem} {Q : Res → Mem → Prop} (r0 : Nat) (x1 : Int32) (x2 : Int32) (x3 : Int32) (x4 : Int32) (t0 : Nat) (t1 : Int32) (h : (isK S t0 13) ∧ ∀ S2 : Mem, S2 = uI S t0 97 t1 → Q (.inl none) S2) : V X d MX13_leaves 93 [(0, vR r0), (1, vI x1), (2, vI x2), (3, vI x3), (4, vI x4)] [vI t1, vR t0] S Q := by
  obtain ⟨h1, h⟩ := h
  refine V_putI kc13 (pc2 := 96) 97 (dk D_X13_leaves 51 rfl) fl_13_491 (by decide) (Or.inl rfl) rfl rfl h1 ?_
  have h := h _ rfl
  exact V_return (dk D_X13_leaves 52 rfl) rfl h
theorem w_X13_leaves_116 {X : Cx} {d : Nat} {S : Mem} {Q : Res → Mem → Prop} (r0 : Nat) (x1 : Int32) (x2 : Int32) (x3 : Int32) (x4 : Int32) (h : Q (.inl none) S) : V X d MX13_leaves 116 [(0, vR r0), (1, vI x1), (2, vI x2), (3, vI x3), (4, vI x4)] [] S Q := by
  exact V_return (dk D_X13_leaves 64 rfl) rfl h
def L_X13_gives : List (Nat × Instr × Nat) := [(0, .aload_n 0, 1), (1, .getfield 189, 3), (4, .iload_n 1, 1), (5, .iaload, 1), (6, .istore_n 3, 1), (7, .aload_n 0, 1), (8, .iload_n 1, 1), (9, .invokevirtual 504, 3), (12, .istore 4, 2), (14, .aload_n 0, 1), (15, .getfield 219, 3), (18, .iload_n 3, 1), (19, .iaload, 1), (20, .aload_n 0, 1), (21, .getfield 207, 3), (24, .iload 4, 2), (26, .iaload, 1), (27, .if_icmp .le 68, 3), (30, .sipush 1500, 3), (33, .iload_n 3, 1), (34, .imul, 1), (35, .aload_n 0, 1), (36, .getfield 219, 3), (39, .iload_n 3, 1), (40, .iaload, 1), (41, .iadd, 1), (42, .iconst 1, 1), (43, .isub, 1), (44, .istore 5, 2), (46, .aload_n 0, 1), (47, .getfield 225, 3), (50, .iload 5, 2), (52, .iaload, 1), (53, .iconst 2, 1), (54, .if_icmp .ge 28, 3), (57, .aload_n 0, 1), (58, .getfield 125, 3), (61, .aload_n 0, 1), (62, .getfield 222, 3), (65, .iload 5, 2), (67, .iaload, 1), (68, .iaload, 1), (69, .ifCond .lt 13, 3), (72, .aload_n 0, 1), (73, .iload_n 1, 1), (74, .iload 5, 2), (76, .iconst 2, 1), (77, .iload_n 2, 1), (78, .invokevirtual 539, 3), (81, .return_, 1), (82, .aload_n 0, 1), (83, .getfield 219, 3), (86, .iload_n 3, 1), (87, .dup2, 1), (88, .iaload, 1), (89, .iconst 1, 1), (90, .isub, 1), (91, .iastore, 1), (92, .goto (-78), 3), (95, .aload_n 0, 1), (96, .getfield 234, 3), (99, .iload_n 3, 1), (100, .aload_n 0, 1), (101, .getfield 210, 3), (104, .iload 4, 2), (106, .iaload, 1), (107, .iastore, 1), (108, .aload_n 0, 1), (109, .getfield 195, 3), (112, .iload_n 3, 1), (113, .dup2, 1), (114, .iaload, 1), (115, .iconst 1, 1), (116, .isub, 1), (117, .iastore, 1), (118, .aload_n 0, 1), (119, .getfield 195, 3), (122, .iload_n 3, 1), (123, .iaload, 1), (124, .ifCond .le 10, 3), (127, .aload_n 0, 1), (128, .iload_n 1, 1), (129, .iload_n 2, 1), (130, .invokevirtual 497, 3), (133, .return_, 1), (134, .aload_n 0, 1), (135, .getfield 185, 3), (138, .iload_n 1, 1), (139, .baload, 1), (140, .istore 5, 2), (142, .aload_n 0, 1), (143, .iload_n 1, 1), (144, .iload 5, 2), (146, .ifCond .eq 8, 3), (149, .bipush 6, 2), (151, .goto 4, 3), (154, .iconst 4, 1), (155, .invokevirtual 513, 3), (158, .aload_n 0, 1), (159, .iload_n 1, 1), (160, .aload_n 0, 1), (161, .getfield 176, 3), (164, .iload_n 1, 1), (165, .iaload, 1), (166, .invokevirtual 516, 3), (169, .aload_n 0, 1), (170, .aload_n 0, 1), (171, .getfield 176, 3), (174, .iload_n 1, 1), (175, .iaload, 1), (176, .iload_n 2, 1), (177, .iconst 1, 1), (178, .iload 5, 2), (180, .invokevirtual 550, 3), (183, .return_, 1)]
theorem D_X13_gives : dOk cX13_gives L_X13_gives = true := by decide +kernel
theorem w_X13_gives_0 {X : Cx} {d : Nat} {S : Mem} {Q : Res → Mem → Prop} (r0 : Nat) (x1 : Int32) (x2 : Int32) (h : (isK S r0 13) ∧ (isK S (gR S r0 58) 21) ∧ (vp_in x1 (gN S (gR S r0 58))) ∧ ∃ e4 : Nat, e4 + 1 ≤ d ∧ C X e4 MX13_call [vR r0, vI x1] S (RI fun y7 S8 => V X d MX13_gives 14 [(0, vR r0), (1, vI x1), (2, vI x2), (3, vI (gI S (gR S r0 58) (x1 : Int32).toNatClampNeg)), (4, vI y7)] [] S8 Q)) : V X d MX13_gives 0 [(0, vR r0), (1, vI x1), (2, vI x2)] [] S Q := by
  refine V_aload_n (pc2 := 1) (dk D_X13_gives 0 rfl) rfl (V_lg 0 rfl) rfl ?_
  obtain ⟨h1, h⟩ := h
  refine V_getR kc13 (pc2 := 4) 58 (dk D_X13_gives 1 rfl) fl_13_189 (by decide) (fun _ => rfl) rfl h1 ?_
  refine V_iload_n (pc2 := 5) (dk D_X13_gives 2 rfl) rfl (V_lg 1 rfl) rfl ?_
  obtain ⟨h2, h⟩ := h
  obtain ⟨h3, h⟩ := h
  refine V_iald (pc2 := 6) (dk D_X13_gives 3 rfl) rfl h2 h3 ?_
  refine V_istore_n (pc2 := 7) (lv2 := [(0, _), (1, _), (2, _), (3, _)]) (dk D_X13_gives 4 rfl) rfl (by decide) rfl rfl ?_
  refine V_aload_n (pc2 := 8) (dk D_X13_gives 5 rfl) rfl (V_lg 0 rfl) rfl ?_
  refine V_iload_n (pc2 := 9) (dk D_X13_gives 6 rfl) rfl (V_lg 1 rfl) rfl ?_
  obtain ⟨e4, he5, hc6⟩ := h
  refine V_callV (as := [_]) (st := []) (M' := MX13_call) (ci := 13) (pc2 := 12) (dk D_X13_gives 7 rfl) ml_13_504 mv_X13_call rfl rfl (by decide) rfl (Nat.le_of_ble_eq_true rfl) rfl he5 h1 hc6 (RI.k fun y7 S8 h => ?_)
  refine V_istore (pc2 := 14) (lv2 := [(0, _), (1, _), (2, _), (3, _), (4, _)]) (dk D_X13_gives 8 rfl) (by decide) rfl rfl ?_
  exact h
set_option maxRecDepth 100000 in
theorem w_X13_gives_14 {X : Cx} {d : Nat} {S : Mem} {Q : Res → Mem → Prop} (r0 : Nat) (x1 : Int32) (x2 : Int32) (x3 : Int32) (x4 : Int32) (h : (isK S r0 13) ∧ (isK S (gR S r0 68) 21) ∧ (vp_in x3 (gN S (gR S r0 68))) ∧ (isK S (gR S r0 64) 21) ∧ (vp_in x4 (gN S (gR S r0 64))) ∧ (((gI S (gR S r0 68) (x3 : Int32).toNatClampNeg) ≤ (gI S (gR S r0 64) (x4 : Int32).toNatClampNeg) → (isK S (gR S r0 65) 21) ∧ (vp_in x4 (gN S (gR S r0 65))) ∧ (isK S (gR S r0 73) 21) ∧ (vp_in x3 (gN S (gR S r0 73))) ∧ ∀ S11 : Mem, S11 = uI S (gR S r0 73) ((x3 : Int32).toNatClampNeg) (gI S (gR S r0 65) (x4 : Int32).toNatClampNeg) → (isK S (gR S r0 60) 21) ∧ (vp_in x3 (gN S (gR S r0 60))) ∧ (vp_in x3 (gN S (gR S r0 60))) ∧ ∀ S15 : Mem, S15 = uI S11 (gR S r0 60) ((x3 : Int32).toNatClampNeg) ((gI S11 (gR S r0 60) (x3 : Int32).toNatClampNeg) - 1) → (vp_in x3 (gN S (gR S r0 60))) ∧ (((gI S15 (gR S r0 60) (x3 : Int32).toNatClampNeg) ≤ 0 → (isK S (gR S r0 57) 23) ∧ (vp_in x1 (gN S (gR S r0 57))) ∧ (((gI S15 (gR S r0 57) (x1 : Int32).toNatClampNeg) = 0 → V X d MX13_gives 155 [(0, vR r0), (1, vI x1), (2, vI x2), (3, vI x3), (4, vI x4), (5, vI (gI S15 (gR S r0 57) (x1 : Int32).toNatClampNeg))] [vI 4, vI x1, vR r0] S15 Q) ∧ (¬ (gI S15 (gR S r0 57) (x1 : Int32).toNatClampNeg) = 0 → V X d MX13_gives 155 [(0, vR r0), (1, vI x1), (2, vI x2), (3, vI x3), (4, vI x4), (5, vI (gI S15 (gR S r0 57) (x1 : Int32).toNatClampNeg))] [vI 6, vI x1, vR r0] S15 Q))) ∧ (¬ (gI S15 (gR S r0 60) (x3 : Int32).toNatClampNeg) ≤ 0 → ∃ e21 : Nat, e21 + 1 ≤ d ∧ C X e21 MX13_push [vR r0, vI x1, vI x2] S15 (RV fun  S24 => Q (.inl none) S24)))) ∧ (¬ (gI S (gR S r0 68) (x3 : Int32).toNatClampNeg) ≤ (gI S (gR S r0 64) (x4 : Int32).toNatClampNeg) → (vp_in x3 (gN S (gR S r0 68))) ∧ (isK S (gR S r0 70) 21) ∧ (vp_in (((1500 * x3) + (gI S (gR S r0 68) (x3 : Int32).toNatClampNeg)) - 1) (gN S (gR S r0 70))) ∧ ((2 ≤ (gI S (gR S r0 70) ((((1500 * x3) + (gI S (gR S r0 68) (x3 : Int32).toNatClampNeg)) - 1) : Int32).toNatClampNeg) → V X d MX13_gives 82 [(0, vR r0), (1, vI x1), (2, vI x2), (3, vI x3), (4, vI x4), (5, vI (((1500 * x3) + (gI S (gR S r0 68) (x3 : Int32).toNatClampNeg)) - 1))] [] S Q) ∧ (¬ 2 ≤ (gI S (gR S r0 70) ((((1500 * x3) + (gI S (gR S r0 68) (x3 : Int32).toNatClampNeg)) - 1) : Int32).toNatClampNeg) → (isK S (gR S r0 69) 21) ∧ (vp_in (((1500 * x3) + (gI S (gR S r0 68) (x3 : Int32).toNatClampNeg)) - 1) (gN S (gR S r0 69))) ∧ (isK S (gR S r0 27) 21) ∧ (vp_in (gI S (gR S r0 69) ((((1500 * x3) + (gI S (gR S r0 68) (x3 : Int32).toNatClampNeg)) - 1) : Int32).toNatClampNeg) (gN S (gR S r0 27))) ∧ (((gI S (gR S r0 27) ((gI S (gR S r0 69) ((((1500 * x3) + (gI S (gR S r0 68) (x3 : Int32).toNatClampNeg)) - 1) : Int32).toNatClampNeg) : Int32).toNatClampNeg) < 0 → V X d MX13_gives 82 [(0, vR r0), (1, vI x1), (2, vI x2), (3, vI x3), (4, vI x4), (5, vI (((1500 * x3) + (gI S (gR S r0 68) (x3 : Int32).toNatClampNeg)) - 1))] [] S Q) ∧ (¬ (gI S (gR S r0 27) ((gI S (gR S r0 69) ((((1500 * x3) + (gI S (gR S r0 68) (x3 : Int32).toNatClampNeg)) - 1) : Int32).toNatClampNeg) : Int32).toNatClampNeg) < 0 → ∃ e34 : Nat, e34 + 1 ≤ d ∧ C X e34 MX13_finishes [vR r0, vI x1, vI (((1500 * x3) + (gI S (gR S r0 68) (x3 : Int32).toNatClampNeg)) - 1), vI 2, vI x2] S (RV fun  S37 => Q (.inl none) S37)))))))) : V X d MX13_gives 14 [(0, vR r0), (1, vI x1), (2, vI x2), (3, vI x3), (4, vI x4)] [] S Q := by
  refine V_aload_n (pc2 := 15) (dk D_X13_gives 9 rfl) rfl (V_lg 0 rfl) rfl ?_
  obtain ⟨h1, h⟩ := h
  refine V_getR kc13 (pc2 := 18) 68 (dk D_X13_gives 10 rfl) fl_13_219 (by decide) (fun _ => rfl) rfl h1 ?_
  refine V_iload_n (pc2 := 19) (dk D_X13_gives 11 rfl) rfl (V_lg 3 rfl) rfl ?_
  obtain ⟨h2, h⟩ := h
  obtain ⟨h3, h⟩ := h
  refine V_iald (pc2 := 20) (dk D_X13_gives 12 rfl) rfl h2 h3 ?_
  refine V_aload_n (pc2 := 21) (dk D_X13_gives 13 rfl) rfl (V_lg 0 rfl) rfl ?_
  refine V_getR kc13 (pc2 := 24) 64 (dk D_X13_gives 14 rfl) fl_13_207 (by decide) (fun _ => rfl) rfl h1 ?_
  refine V_iload (pc2 := 26) (dk D_X13_gives 15 rfl) (V_lg 4 rfl) rfl ?_
  obtain ⟨h4, h⟩ := h
  obtain ⟨h5, h⟩ := h
  refine V_iald (pc2 := 27) (dk D_X13_gives 16 rfl) rfl h4 h5 ?_
  refine V_cmple (tgt := 95) (pc2 := 30) (dk D_X13_gives 17 rfl) (by decide) rfl (fun q6 => ?_) (fun q6 => ?_)
  · have h := h.1 q6
    refine V_aload_n (pc2 := 96) (dk D_X13_gives 59 rfl) rfl (V_lg 0 rfl) rfl ?_
    refine V_getR kc13 (pc2 := 99) 73 (dk D_X13_gives 60 rfl) fl_13_234 (by decide) (fun _ => rfl) rfl h1 ?_
    refine V_iload_n (pc2 := 100) (dk D_X13_gives 61 rfl) rfl (V_lg 3 rfl) rfl ?_
    refine V_aload_n (pc2 := 101) (dk D_X13_gives 62 rfl) rfl (V_lg 0 rfl) rfl ?_
    refine V_getR kc13 (pc2 := 104) 65 (dk D_X13_gives 63 rfl) fl_13_210 (by decide) (fun _ => rfl) rfl h1 ?_
    refine V_iload (pc2 := 106) (dk D_X13_gives 64 rfl) (V_lg 4 rfl) rfl ?_
    obtain ⟨h7, h⟩ := h
    obtain ⟨h8, h⟩ := h
    refine V_iald (pc2 := 107) (dk D_X13_gives 65 rfl) rfl h7 h8 ?_
    obtain ⟨h9, h⟩ := h
    obtain ⟨h10, h⟩ := h
    refine V_iast (pc2 := 108) (dk D_X13_gives 66 rfl) rfl h9 h10 ?_
    have h := h _ rfl
    refine V_aload_n (pc2 := 109) (dk D_X13_gives 67 rfl) rfl (V_lg 0 rfl) rfl ?_
    refine V_getR kc13 (pc2 := 112) 60 (dk D_X13_gives 68 rfl) fl_13_195 (by decide) (fun _ => rfl) rfl h1 ?_
    refine V_iload_n (pc2 := 113) (dk D_X13_gives 69 rfl) rfl (V_lg 3 rfl) rfl ?_
    refine V_dup2 (pc2 := 114) (dk D_X13_gives 70 rfl) rfl rfl rfl ?_
    obtain ⟨h12, h⟩ := h
    obtain ⟨h13, h⟩ := h
    refine V_iald (pc2 := 115) (dk D_X13_gives 71 rfl) rfl h12 h13 ?_
    refine V_iconst (x := 1) (pc2 := 116) (dk D_X13_gives 72 rfl) (by decide) rfl ?_
    refine V_isub (pc2 := 117) (dk D_X13_gives 73 rfl) rfl ?_
    obtain ⟨h14, h⟩ := h
    refine V_iast (pc2 := 118) (dk D_X13_gives 74 rfl) rfl h12 h14 ?_
    have h := h _ rfl
    refine V_aload_n (pc2 := 119) (dk D_X13_gives 75 rfl) rfl (V_lg 0 rfl) rfl ?_
    refine V_getR kc13 (pc2 := 122) 60 (dk D_X13_gives 76 rfl) fl_13_195 (by decide) (fun _ => rfl) rfl h1 ?_
    refine V_iload_n (pc2 := 123) (dk D_X13_gives 77 rfl) rfl (V_lg 3 rfl) rfl ?_
    obtain ⟨h16, h⟩ := h
    refine V_iald (pc2 := 124) (dk D_X13_gives 78 rfl) rfl h12 h16 ?_
    refine V_ifle (tgt := 134) (pc2 := 127) (dk D_X13_gives 79 rfl) (by decide) rfl (fun q17 => ?_) (fun q17 => ?_)
    · have h := h.1 q17
      refine V_aload_n (pc2 := 135) (dk D_X13_gives 85 rfl) rfl (V_lg 0 rfl) rfl ?_
      refine V_getR kc13 (pc2 := 138) 57 (dk D_X13_gives 86 rfl) fl_13_185 (by decide) (fun _ => rfl) rfl h1 ?_
      refine V_iload_n (pc2 := 139) (dk D_X13_gives 87 rfl) rfl (V_lg 1 rfl) rfl ?_
      obtain ⟨h18, h⟩ := h
      obtain ⟨h19, h⟩ := h
      refine V_zald (pc2 := 140) (dk D_X13_gives 88 rfl) rfl h18 h19 ?_
      refine V_istore (pc2 := 142) (lv2 := [(0, _), (1, _), (2, _), (3, _), (4, _), (5, _)]) (dk D_X13_gives 89 rfl) (by decide) rfl rfl ?_
      refine V_aload_n (pc2 := 143) (dk D_X13_gives 90 rfl) rfl (V_lg 0 rfl) rfl ?_
      refine V_iload_n (pc2 := 144) (dk D_X13_gives 91 rfl) rfl (V_lg 1 rfl) rfl ?_
      refine V_iload (pc2 := 146) (dk D_X13_gives 92 rfl) (V_lg 5 rfl) rfl ?_
      refine V_ifeq (tgt := 154) (pc2 := 149) (dk D_X13_gives 93 rfl) (by decide) rfl (fun q20 => ?_) (fun q20 => ?_)
      · have h := h.1 q20
        refine V_iconst (x := 4) (pc2 := 155) (dk D_X13_gives 96 rfl) (by decide) rfl ?_
        exact h
      · have h := h.2 q20
        refine V_bipush (x := 6) (pc2 := 151) (dk D_X13_gives 94 rfl) (by decide) rfl ?_
        refine V_goto (tgt := 155) (dk D_X13_gives 95 rfl) (by decide) ?_
        exact h
    · have h := h.2 q17
      refine V_aload_n (pc2 := 128) (dk D_X13_gives 80 rfl) rfl (V_lg 0 rfl) rfl ?_
      refine V_iload_n (pc2 := 129) (dk D_X13_gives 81 rfl) rfl (V_lg 1 rfl) rfl ?_
      refine V_iload_n (pc2 := 130) (dk D_X13_gives 82 rfl) rfl (V_lg 2 rfl) rfl ?_
      obtain ⟨e21, he22, hc23⟩ := h
      refine V_callV (as := [_, _]) (st := []) (M' := MX13_push) (ci := 13) (pc2 := 133) (dk D_X13_gives 83 rfl) ml_13_497 mv_X13_push rfl rfl (by decide) rfl (Nat.le_of_ble_eq_true rfl) rfl he22 h1 hc23 (RV.k fun  S24 h => ?_)
      exact V_return (dk D_X13_gives 84 rfl) rfl h
  · have h := h.2 q6
    refine V_sipush (x := 1500) (pc2 := 33) (dk D_X13_gives 18 rfl) (by decide) rfl ?_
    refine V_iload_n (pc2 := 34) (dk D_X13_gives 19 rfl) rfl (V_lg 3 rfl) rfl ?_
    refine V_imul (pc2 := 35) (dk D_X13_gives 20 rfl) rfl ?_
    refine V_aload_n (pc2 := 36) (dk D_X13_gives 21 rfl) rfl (V_lg 0 rfl) rfl ?_
    refine V_getR kc13 (pc2 := 39) 68 (dk D_X13_gives 22 rfl) fl_13_219 (by decide) (fun _ => rfl) rfl h1 ?_
    refine V_iload_n (pc2 := 40) (dk D_X13_gives 23 rfl) rfl (V_lg 3 rfl) rfl ?_
    obtain ⟨h25, h⟩ := h
    refine V_iald (pc2 := 41) (dk D_X13_gives 24 rfl) rfl h2 h25 ?_
    refine V_iadd (pc2 := 42) (dk D_X13_gives 25 rfl) rfl ?_
    refine V_iconst (x := 1) (pc2 := 43) (dk D_X13_gives 26 rfl) (by decide) rfl ?_
    refine V_isub (pc2 := 44) (dk D_X13_gives 27 rfl) rfl ?_
    refine V_istore (pc2 := 46) (lv2 := [(0, _), (1, _), (2, _), (3, _), (4, _), (5, _)]) (dk D_X13_gives 28 rfl) (by decide) rfl rfl ?_
    refine V_aload_n (pc2 := 47) (dk D_X13_gives 29 rfl) rfl (V_lg 0 rfl) rfl ?_
    refine V_getR kc13 (pc2 := 50) 70 (dk D_X13_gives 30 rfl) fl_13_225 (by decide) (fun _ => rfl) rfl h1 ?_
    refine V_iload (pc2 := 52) (dk D_X13_gives 31 rfl) (V_lg 5 rfl) rfl ?_
    obtain ⟨h26, h⟩ := h
    obtain ⟨h27, h⟩ := h
    refine V_iald (pc2 := 53) (dk D_X13_gives 32 rfl) rfl h26 h27 ?_
    refine V_iconst (x := 2) (pc2 := 54) (dk D_X13_gives 33 rfl) (by decide) rfl ?_
    refine V_cmpge (tgt := 82) (pc2 := 57) (dk D_X13_gives 34 rfl) (by decide) rfl (fun q28 => ?_) (fun q28 => ?_)
    · have h := h.1 q28
      exact h
    · have h := h.2 q28
      refine V_aload_n (pc2 := 58) (dk D_X13_gives 35 rfl) rfl (V_lg 0 rfl) rfl ?_
      refine V_getR kc13 (pc2 := 61) 27 (dk D_X13_gives 36 rfl) fl_13_125 (by decide) (fun _ => rfl) rfl h1 ?_
      refine V_aload_n (pc2 := 62) (dk D_X13_gives 37 rfl) rfl (V_lg 0 rfl) rfl ?_
      refine V_getR kc13 (pc2 := 65) 69 (dk D_X13_gives 38 rfl) fl_13_222 (by decide) (fun _ => rfl) rfl h1 ?_
      refine V_iload (pc2 := 67) (dk D_X13_gives 39 rfl) (V_lg 5 rfl) rfl ?_
      obtain ⟨h29, h⟩ := h
      obtain ⟨h30, h⟩ := h
      refine V_iald (pc2 := 68) (dk D_X13_gives 40 rfl) rfl h29 h30 ?_
      obtain ⟨h31, h⟩ := h
      obtain ⟨h32, h⟩ := h
      refine V_iald (pc2 := 69) (dk D_X13_gives 41 rfl) rfl h31 h32 ?_
      refine V_iflt (tgt := 82) (pc2 := 72) (dk D_X13_gives 42 rfl) (by decide) rfl (fun q33 => ?_) (fun q33 => ?_)
      · have h := h.1 q33
        exact h
      · have h := h.2 q33
        refine V_aload_n (pc2 := 73) (dk D_X13_gives 43 rfl) rfl (V_lg 0 rfl) rfl ?_
        refine V_iload_n (pc2 := 74) (dk D_X13_gives 44 rfl) rfl (V_lg 1 rfl) rfl ?_
        refine V_iload (pc2 := 76) (dk D_X13_gives 45 rfl) (V_lg 5 rfl) rfl ?_
        refine V_iconst (x := 2) (pc2 := 77) (dk D_X13_gives 46 rfl) (by decide) rfl ?_
        refine V_iload_n (pc2 := 78) (dk D_X13_gives 47 rfl) rfl (V_lg 2 rfl) rfl ?_
        obtain ⟨e34, he35, hc36⟩ := h
        refine V_callV (as := [_, _, _, _]) (st := []) (M' := MX13_finishes) (ci := 13) (pc2 := 81) (dk D_X13_gives 48 rfl) ml_13_539 mv_X13_finishes rfl rfl (by decide) rfl (Nat.le_of_ble_eq_true rfl) rfl he35 h1 hc36 (RV.k fun  S37 h => ?_)
        exact V_return (dk D_X13_gives 49 rfl) rfl h
theorem w_X13_gives_82 {X : Cx} {d : Nat} {S : Mem} {Q : Res → Mem → Prop} (r0 : Nat) (x1 : Int32) (x2 : Int32) (x3 : Int32) (x4 : Int32) (x5 : Int32) (h : (isK S r0 13) ∧ (isK S (gR S r0 68) 21) ∧ (vp_in x3 (gN S (gR S r0 68))) ∧ (vp_in x3 (gN S (gR S r0 68))) ∧ ∀ S5 : Mem, S5 = uI S (gR S r0 68) ((x3 : Int32).toNatClampNeg) ((gI S (gR S r0 68) (x3 : Int32).toNatClampNeg) - 1) → V X d MX13_gives 14 [(0, vR r0), (1, vI x1), (2, vI x2), (3, vI x3), (4, vI x4)] [] S5 Q) : V X d MX13_gives 82 [(0, vR r0), (1, vI x1), (2, vI x2), (3, vI x3), (4, vI x4), (5, vI x5)] [] S Q := by
  refine V_aload_n (pc2 := 83) (dk D_X13_gives 50 rfl) rfl (V_lg 0 rfl) rfl ?_
  obtain ⟨h1, h⟩ := h
  refine V_getR kc13 (pc2 := 86) 68 (dk D_X13_gives 51 rfl) fl_13_219 (by decide) (fun _ => rfl) rfl h1 ?_
  refine V_iload_n (pc2 := 87) (dk D_X13_gives 52 rfl) rfl (V_lg 3 rfl) rfl ?_
  refine V_dup2 (pc2 := 88) (dk D_X13_gives 53 rfl) rfl rfl rfl ?_
  obtain ⟨h2, h⟩ := h
  obtain ⟨h3, h⟩ := h
  refine V_iald (pc2 := 89) (dk D_X13_gives 54 rfl) rfl h2 h3 ?_
  refine V_iconst (x := 1) (pc2 := 90) (dk D_X13_gives 55 rfl) (by decide) rfl ?_
  refine V_isub (pc2 := 91) (dk D_X13_gives 56 rfl) rfl ?_
  obtain ⟨h4, h⟩ := h
  refine V_iast (pc2 := 92) (dk D_X13_gives 57 rfl) rfl h2 h4 ?_
  have h := h _ rfl
  refine V_goto (tgt := 14) (dk D_X13_gives 58 rfl) (by decide) ?_
  refine V_pick [0, 1, 2, 3, 4] (lv2 := [(0, _), (1, _), (2, _), (3, _), (4, _)]) rfl ?_
  exact h
theorem w_X13_gives_155 {X : Cx} {d : Nat} {S : Mem} {Q : Res → Mem → Prop} (r0 : Nat) (x1 : Int32) (x2 : Int32) (x3 : Int32) (x4 : Int32) (x5 : Int32) (t0 : Nat) (t1 : Int32) (t2 : Int32) (h : (isK S t0 13) ∧ ∃ e1 : Nat, e1 + 1 ≤ d ∧ C X e1 MX13_over [vR t0, vI t1, vI t2] S (RV fun  S4 => (isK S4 r0 13) ∧ (isK S4 (gR S4 r0 54) 21) ∧ (vp_in x1 (gN S4 (gR S4 r0 54))) ∧ ∃ e9 : Nat, e9 + 1 ≤ d ∧ C X e9 MX13_hands [vR r0, vI x1, vI (gI S4 (gR S4 r0 54) (x1 : Int32).toNatClampNeg)] S4 (RV fun  S12 => (isK S12 r0 13) ∧ (isK S12 (gR S12 r0 54) 21) ∧ (vp_in x1 (gN S12 (gR S12 r0 54))) ∧ ∃ e16 : Nat, e16 + 1 ≤ d ∧ C X e16 MX13_comes [vR r0, vI (gI S12 (gR S12 r0 54) (x1 : Int32).toNatClampNeg), vI x2, vI 1, vI x5] S12 (RV fun  S19 => Q (.inl none) S19)))) : V X d MX13_gives 155 [(0, vR r0), (1, vI x1), (2, vI x2), (3, vI x3), (4, vI x4), (5, vI x5)] [vI t2, vI t1, vR t0] S Q := by
  obtain ⟨h5, h⟩ := h
  obtain ⟨e1, he2, hc3⟩ := h
  refine V_callV (as := [_, _]) (st := []) (M' := MX13_over) (ci := 13) (pc2 := 158) (dk D_X13_gives 97 rfl) ml_13_513 mv_X13_over rfl rfl (by decide) rfl (Nat.le_of_ble_eq_true rfl) rfl he2 h5 hc3 (RV.k fun  S4 h => ?_)
  refine V_aload_n (pc2 := 159) (dk D_X13_gives 98 rfl) rfl (V_lg 0 rfl) rfl ?_
  refine V_iload_n (pc2 := 160) (dk D_X13_gives 99 rfl) rfl (V_lg 1 rfl) rfl ?_
  refine V_aload_n (pc2 := 161) (dk D_X13_gives 100 rfl) rfl (V_lg 0 rfl) rfl ?_
  obtain ⟨h6, h⟩ := h
  refine V_getR kc13 (pc2 := 164) 54 (dk D_X13_gives 101 rfl) fl_13_176 (by decide) (fun _ => rfl) rfl h6 ?_
  refine V_iload_n (pc2 := 165) (dk D_X13_gives 102 rfl) rfl (V_lg 1 rfl) rfl ?_
  obtain ⟨h7, h⟩ := h
  obtain ⟨h8, h⟩ := h
  refine V_iald (pc2 := 166) (dk D_X13_gives 103 rfl) rfl h7 h8 ?_
  obtain ⟨e9, he10, hc11⟩ := h
  refine V_callV (as := [_, _]) (st := []) (M' := MX13_hands) (ci := 13) (pc2 := 169) (dk D_X13_gives 104 rfl) ml_13_516 mv_X13_hands rfl rfl (by decide) rfl (Nat.le_of_ble_eq_true rfl) rfl he10 h6 hc11 (RV.k fun  S12 h => ?_)
  refine V_aload_n (pc2 := 170) (dk D_X13_gives 105 rfl) rfl (V_lg 0 rfl) rfl ?_
  refine V_aload_n (pc2 := 171) (dk D_X13_gives 106 rfl) rfl (V_lg 0 rfl) rfl ?_
  obtain ⟨h13, h⟩ := h
  refine V_getR kc13 (pc2 := 174) 54 (dk D_X13_gives 107 rfl) fl_13_176 (by decide) (fun _ => rfl) rfl h13 ?_
  refine V_iload_n (pc2 := 175) (dk D_X13_gives 108 rfl) rfl (V_lg 1 rfl) rfl ?_
  obtain ⟨h14, h⟩ := h
  obtain ⟨h15, h⟩ := h
  refine V_iald (pc2 := 176) (dk D_X13_gives 109 rfl) rfl h14 h15 ?_
  refine V_iload_n (pc2 := 177) (dk D_X13_gives 110 rfl) rfl (V_lg 2 rfl) rfl ?_
  refine V_iconst (x := 1) (pc2 := 178) (dk D_X13_gives 111 rfl) (by decide) rfl ?_
  refine V_iload (pc2 := 180) (dk D_X13_gives 112 rfl) (V_lg 5 rfl) rfl ?_
  obtain ⟨e16, he17, hc18⟩ := h
  refine V_callV (as := [_, _, _, _]) (st := []) (M' := MX13_comes) (ci := 13) (pc2 := 183) (dk D_X13_gives 113 rfl) ml_13_550 mv_X13_comes rfl rfl (by decide) rfl (Nat.le_of_ble_eq_true rfl) rfl he17 h13 hc18 (RV.k fun  S19 h => ?_)
  exact V_return (dk D_X13_gives 114 rfl) rfl h
def L_X13_comes : List (Nat × Instr × Nat) := [(0, .aload_n 0, 1), (1, .iload_n 1, 1), (2, .putfield 473, 3), (5, .iload_n 1, 1), (6, .ifCond .ne 34, 3), (9, .aload_n 0, 1), (10, .iload_n 3, 1), (11, .ifCond .eq 7, 3), (14, .iconst 1, 1), (15, .goto 4, 3), (18, .iconst 0, 1), (19, .putfield 519, 3), (22, .aload_n 0, 1), (23, .iload 4, 2), (25, .ifCond .eq 10, 3), (28, .aload_n 0, 1), (29, .getfield 476, 3), (32, .goto 4, 3), (35, .iload_n 2, 1), (36, .putfield 476, 3), (39, .return_, 1), (40, .aload_n 0, 1), (41, .getfield 161, 3), (44, .iload_n 1, 1), (45, .iconst 2, 1), (46, .iastore, 1), (47, .aload_n 0, 1), (48, .iload_n 1, 1), (49, .invokevirtual 504, 3), (52, .istore 5, 2), (54, .aload_n 0, 1), (55, .getfield 182, 3), (58, .iload_n 1, 1), (59, .iaload, 1), (60, .iconst 1, 1), (61, .if_icmp .ne 12, 3), (64, .aload_n 0, 1), (65, .iload_n 1, 1), (66, .iload_n 2, 1), (67, .invokevirtual 497, 3), (70, .goto 64, 3), (73, .aload_n 0, 1), (74, .getfield 182, 3), (77, .iload_n 1, 1), (78, .iaload, 1), (79, .iconst 2, 1), (80, .if_icmp .ne 54, 3), (83, .aload_n 0, 1), (84, .getfield 201, 3), (87, .iload 5, 2), (89, .iaload, 1), (90, .iconst 1, 1), (91, .isub, 1), (92, .istore 6, 2), (94, .iload_n 3, 1), (95, .ifCond .eq 20, 3), (98, .aload_n 0, 1), (99, .getfield 201, 3), (102, .iload 5, 2), (104, .aload_n 0, 1), (105, .getfield 101, 3), (108, .iload 6, 2), (110, .iaload, 1), (111, .iastore, 1), (112, .goto 22, 3), (115, .aload_n 0, 1), (116, .getfield 213, 3), (119, .bipush 40, 2), (121, .iload 5, 2), (123, .imul, 1), (124, .aload_n 0, 1), (125, .getfield 95, 3), (128, .iload 6, 2), (130, .iaload, 1), (131, .iadd, 1), (132, .iload_n 2, 1), (133, .iastore, 1), (134, .return_, 1)]
theorem D_X13_comes : dOk cX13_comes L_X13_comes = true := by decide +kernel
theorem w_X13_comes_0 {X : Cx} {d : Nat} {S : Mem} {Q : Res → Mem → Prop} (r0 : Nat) (x1 : Int32) (x2 : Int32) (x3 : Int32) (x4 : Int32) (h : (isK S r0 13) ∧ ∀ S2 : Mem, S2 = uI S r0 77 x1 → ((¬ x1 = 0 → (isK S (gR S r0 49) 21) ∧ (vp_in x1 (gN S (gR S r0 49))) ∧ ∀ S6 : Mem, S6 = uI S2 (gR S r0 49) ((x1 : Int32).toNatClampNeg) 2 → ∃ e7 : Nat, e7 + 1 ≤ d ∧ C X e7 MX13_call [vR r0, vI x1] S6 (RI fun y10 S11 => (isK S11 r0 13) ∧ (isK S11 (gR S11 r0 56) 21) ∧ (vp_in x1 (gN S11 (gR S11 r0 56))) ∧ ((¬ (gI S11 (gR S11 r0 56) (x1 : Int32).toNatClampNeg) = 1 → (vp_in x1 (gN S11 (gR S11 r0 56))) ∧ ((¬ (gI S11 (gR S11 r0 56) (x1 : Int32).toNatClampNeg) = 2 → V X d MX13_comes 134 [(0, vR r0), (1, vI x1), (2, vI x2), (3, vI x3), (4, vI x4), (5, vI y10)] [] S11 Q) ∧ ((gI S11 (gR S11 r0 56) (x1 : Int32).toNatClampNeg) = 2 → (isK S11 (gR S11 r0 62) 21) ∧ (vp_in y10 (gN S11 (gR S11 r0 62))) ∧ ((x3 = 0 → (isK S11 (gR S11 r0 14) 21) ∧ (vp_in ((gI S11 (gR S11 r0 62) (y10 : Int32).toNatClampNeg) - 1) (gN S11 (gR S11 r0 14))) ∧ (isK S11 (gR S11 r0 66) 21) ∧ (vp_in ((40 * y10) + (gI S11 (gR S11 r0 14) (((gI S11 (gR S11 r0 62) (y10 : Int32).toNatClampNeg) - 1) : Int32).toNatClampNeg)) (gN S11 (gR S11 r0 66))) ∧ ∀ S25 : Mem, S25 = uI S11 (gR S11 r0 66) ((((40 * y10) + (gI S11 (gR S11 r0 14) (((gI S11 (gR S11 r0 62) (y10 : Int32).toNatClampNeg) - 1) : Int32).toNatClampNeg)) : Int32).toNatClampNeg) x2 → V X d MX13_comes 134 [(0, vR r0), (1, vI x1), (2, vI x2), (3, vI x3), (4, vI x4), (5, vI y10)] [] S25 Q) ∧ (¬ x3 = 0 → (isK S11 (gR S11 r0 16) 21) ∧ (vp_in ((gI S11 (gR S11 r0 62) (y10 : Int32).toNatClampNeg) - 1) (gN S11 (gR S11 r0 16))) ∧ (vp_in y10 (gN S11 (gR S11 r0 62))) ∧ ∀ S29 : Mem, S29 = uI S11 (gR S11 r0 62) ((y10 : Int32).toNatClampNeg) (gI S11 (gR S11 r0 16) (((gI S11 (gR S11 r0 62) (y10 : Int32).toNatClampNeg) - 1) : Int32).toNatClampNeg) → V X d MX13_comes 134 [(0, vR r0), (1, vI x1), (2, vI x2), (3, vI x3), (4, vI x4), (5, vI y10)] [] S29 Q))))) ∧ ((gI S11 (gR S11 r0 56) (x1 : Int32).toNatClampNeg) = 1 → ∃ e30 : Nat, e30 + 1 ≤ d ∧ C X e30 MX13_push [vR r0, vI x1, vI x2] S11 (RV fun  S33 => V X d MX13_comes 134 [(0, vR r0), (1, vI x1), (2, vI x2), (3, vI x3), (4, vI x4), (5, vI y10)] [] S33 Q))))) ∧ (x1 = 0 → ((x3 = 0 → V X d MX13_comes 19 [(0, vR r0), (1, vI x1), (2, vI x2), (3, vI x3), (4, vI x4)] [vI 0, vR r0] S2 Q) ∧ (¬ x3 = 0 → V X d MX13_comes 19 [(0, vR r0), (1, vI x1), (2, vI x2), (3, vI x3), (4, vI x4)] [vI 1, vR r0] S2 Q))))) : V X d MX13_comes 0 [(0, vR r0), (1, vI x1), (2, vI x2), (3, vI x3), (4, vI x4)] [] S Q := by
  refine V_aload_n (pc2 := 1) (dk D_X13_comes 0 rfl) rfl (V_lg 0 rfl) rfl ?_
  refine V_iload_n (pc2 := 2) (dk D_X13_comes 1 rfl) rfl (V_lg 1 rfl) rfl ?_
  obtain ⟨h1, h⟩ := h
  refine V_putI kc13 (pc2 := 5) 77 (dk D_X13_comes 2 rfl) fl_13_473 (by decide) (Or.inl rfl) rfl rfl h1 ?_
  have h := h _ rfl
  refine V_iload_n (pc2 := 6) (dk D_X13_comes 3 rfl) rfl (V_lg 1 rfl) rfl ?_
  refine V_ifne (tgt := 40) (pc2 := 9) (dk D_X13_comes 4 rfl) (by decide) rfl (fun q3 => ?_) (fun q3 => ?_)
  · have h := h.1 q3
    refine V_aload_n (pc2 := 41) (dk D_X13_comes 21 rfl) rfl (V_lg 0 rfl) rfl ?_
    refine V_getR kc13 (pc2 := 44) 49 (dk D_X13_comes 22 rfl) fl_13_161 (by decide) (fun _ => rfl) rfl h1 ?_
    refine V_iload_n (pc2 := 45) (dk D_X13_comes 23 rfl) rfl (V_lg 1 rfl) rfl ?_
    refine V_iconst (x := 2) (pc2 := 46) (dk D_X13_comes 24 rfl) (by decide) rfl ?_
    obtain ⟨h4, h⟩ := h
    obtain ⟨h5, h⟩ := h
    refine V_iast (pc2 := 47) (dk D_X13_comes 25 rfl) rfl h4 h5 ?_
    have h := h _ rfl
    refine V_aload_n (pc2 := 48) (dk D_X13_comes 26 rfl) rfl (V_lg 0 rfl) rfl ?_
    refine V_iload_n (pc2 := 49) (dk D_X13_comes 27 rfl) rfl (V_lg 1 rfl) rfl ?_
    obtain ⟨e7, he8, hc9⟩ := h
    refine V_callV (as := [_]) (st := []) (M' := MX13_call) (ci := 13) (pc2 := 52) (dk D_X13_comes 28 rfl) ml_13_504 mv_X13_call rfl rfl (by decide) rfl (Nat.le_of_ble_eq_true rfl) rfl he8 h1 hc9 (RI.k fun y10 S11 h => ?_)
    refine V_istore (pc2 := 54) (lv2 := [(0, _), (1, _), (2, _), (3, _), (4, _), (5, _)]) (dk D_X13_comes 29 rfl) (by decide) rfl rfl ?_
    refine V_aload_n (pc2 := 55) (dk D_X13_comes 30 rfl) rfl (V_lg 0 rfl) rfl ?_
    obtain ⟨h12, h⟩ := h
    refine V_getR kc13 (pc2 := 58) 56 (dk D_X13_comes 31 rfl) fl_13_182 (by decide) (fun _ => rfl) rfl h12 ?_
    refine V_iload_n (pc2 := 59) (dk D_X13_comes 32 rfl) rfl (V_lg 1 rfl) rfl ?_
    obtain ⟨h13, h⟩ := h
    obtain ⟨h14, h⟩ := h
    refine V_iald (pc2 := 60) (dk D_X13_comes 33 rfl) rfl h13 h14 ?_
    refine V_iconst (x := 1) (pc2 := 61) (dk D_X13_comes 34 rfl) (by decide) rfl ?_
    refine V_cmpne (tgt := 73) (pc2 := 64) (dk D_X13_comes 35 rfl) (by decide) rfl (fun q15 => ?_) (fun q15 => ?_)
    · have h := h.1 q15
      refine V_aload_n (pc2 := 74) (dk D_X13_comes 41 rfl) rfl (V_lg 0 rfl) rfl ?_
      refine V_getR kc13 (pc2 := 77) 56 (dk D_X13_comes 42 rfl) fl_13_182 (by decide) (fun _ => rfl) rfl h12 ?_
      refine V_iload_n (pc2 := 78) (dk D_X13_comes 43 rfl) rfl (V_lg 1 rfl) rfl ?_
      obtain ⟨h16, h⟩ := h
      refine V_iald (pc2 := 79) (dk D_X13_comes 44 rfl) rfl h13 h16 ?_
      refine V_iconst (x := 2) (pc2 := 80) (dk D_X13_comes 45 rfl) (by decide) rfl ?_
      refine V_cmpne (tgt := 134) (pc2 := 83) (dk D_X13_comes 46 rfl) (by decide) rfl (fun q17 => ?_) (fun q17 => ?_)
      · have h := h.1 q17
        exact h
      · have h := h.2 q17
        refine V_aload_n (pc2 := 84) (dk D_X13_comes 47 rfl) rfl (V_lg 0 rfl) rfl ?_
        refine V_getR kc13 (pc2 := 87) 62 (dk D_X13_comes 48 rfl) fl_13_201 (by decide) (fun _ => rfl) rfl h12 ?_
        refine V_iload (pc2 := 89) (dk D_X13_comes 49 rfl) (V_lg 5 rfl) rfl ?_
        obtain ⟨h18, h⟩ := h
        obtain ⟨h19, h⟩ := h
        refine V_iald (pc2 := 90) (dk D_X13_comes 50 rfl) rfl h18 h19 ?_
        refine V_iconst (x := 1) (pc2 := 91) (dk D_X13_comes 51 rfl) (by decide) rfl ?_
        refine V_isub (pc2 := 92) (dk D_X13_comes 52 rfl) rfl ?_
        refine V_istore (pc2 := 94) (lv2 := [(0, _), (1, _), (2, _), (3, _), (4, _), (5, _), (6, _)]) (dk D_X13_comes 53 rfl) (by decide) rfl rfl ?_
        refine V_iload_n (pc2 := 95) (dk D_X13_comes 54 rfl) rfl (V_lg 3 rfl) rfl ?_
        refine V_ifeq (tgt := 115) (pc2 := 98) (dk D_X13_comes 55 rfl) (by decide) rfl (fun q20 => ?_) (fun q20 => ?_)
        · have h := h.1 q20
          refine V_aload_n (pc2 := 116) (dk D_X13_comes 65 rfl) rfl (V_lg 0 rfl) rfl ?_
          refine V_getR kc13 (pc2 := 119) 66 (dk D_X13_comes 66 rfl) fl_13_213 (by decide) (fun _ => rfl) rfl h12 ?_
          refine V_bipush (x := 40) (pc2 := 121) (dk D_X13_comes 67 rfl) (by decide) rfl ?_
          refine V_iload (pc2 := 123) (dk D_X13_comes 68 rfl) (V_lg 5 rfl) rfl ?_
          refine V_imul (pc2 := 124) (dk D_X13_comes 69 rfl) rfl ?_
          refine V_aload_n (pc2 := 125) (dk D_X13_comes 70 rfl) rfl (V_lg 0 rfl) rfl ?_
          refine V_getR kc13 (pc2 := 128) 14 (dk D_X13_comes 71 rfl) fl_13_95 (by decide) (fun _ => rfl) rfl h12 ?_
          refine V_iload (pc2 := 130) (dk D_X13_comes 72 rfl) (V_lg 6 rfl) rfl ?_
          obtain ⟨h21, h⟩ := h
          obtain ⟨h22, h⟩ := h
          refine V_iald (pc2 := 131) (dk D_X13_comes 73 rfl) rfl h21 h22 ?_
          refine V_iadd (pc2 := 132) (dk D_X13_comes 74 rfl) rfl ?_
          refine V_iload_n (pc2 := 133) (dk D_X13_comes 75 rfl) rfl (V_lg 2 rfl) rfl ?_
          obtain ⟨h23, h⟩ := h
          obtain ⟨h24, h⟩ := h
          refine V_iast (pc2 := 134) (dk D_X13_comes 76 rfl) rfl h23 h24 ?_
          have h := h _ rfl
          refine V_pick [0, 1, 2, 3, 4, 5] (lv2 := [(0, _), (1, _), (2, _), (3, _), (4, _), (5, _)]) rfl ?_
          exact h
        · have h := h.2 q20
          refine V_aload_n (pc2 := 99) (dk D_X13_comes 56 rfl) rfl (V_lg 0 rfl) rfl ?_
          refine V_getR kc13 (pc2 := 102) 62 (dk D_X13_comes 57 rfl) fl_13_201 (by decide) (fun _ => rfl) rfl h12 ?_
          refine V_iload (pc2 := 104) (dk D_X13_comes 58 rfl) (V_lg 5 rfl) rfl ?_
          refine V_aload_n (pc2 := 105) (dk D_X13_comes 59 rfl) rfl (V_lg 0 rfl) rfl ?_
          refine V_getR kc13 (pc2 := 108) 16 (dk D_X13_comes 60 rfl) fl_13_101 (by decide) (fun _ => rfl) rfl h12 ?_
          refine V_iload (pc2 := 110) (dk D_X13_comes 61 rfl) (V_lg 6 rfl) rfl ?_
          obtain ⟨h26, h⟩ := h
          obtain ⟨h27, h⟩ := h
          refine V_iald (pc2 := 111) (dk D_X13_comes 62 rfl) rfl h26 h27 ?_
          obtain ⟨h28, h⟩ := h
          refine V_iast (pc2 := 112) (dk D_X13_comes 63 rfl) rfl h18 h28 ?_
          have h := h _ rfl
          refine V_goto (tgt := 134) (dk D_X13_comes 64 rfl) (by decide) ?_
          refine V_pick [0, 1, 2, 3, 4, 5] (lv2 := [(0, _), (1, _), (2, _), (3, _), (4, _), (5, _)]) rfl ?_
          exact h
    · have h := h.2 q15
      refine V_aload_n (pc2 := 65) (dk D_X13_comes 36 rfl) rfl (V_lg 0 rfl) rfl ?_
      refine V_iload_n (pc2 := 66) (dk D_X13_comes 37 rfl) rfl (V_lg 1 rfl) rfl ?_
      refine V_iload_n (pc2 := 67) (dk D_X13_comes 38 rfl) rfl (V_lg 2 rfl) rfl ?_
      obtain ⟨e30, he31, hc32⟩ := h
      refine V_callV (as := [_, _]) (st := []) (M' := MX13_push) (ci := 13) (pc2 := 70) (dk D_X13_comes 39 rfl) ml_13_497 mv_X13_push rfl rfl (by decide) rfl (Nat.le_of_ble_eq_true rfl) rfl he31 h12 hc32 (RV.k fun  S33 h => ?_)
      refine V_goto (tgt := 134) (dk D_X13_comes 40 rfl) (by decide) ?_
      exact h
  · have h := h.2 q3
    refine V_aload_n (pc2 := 10) (dk D_X13_comes 5 rfl) rfl (V_lg 0 rfl) rfl ?_
    refine V_iload_n (pc2 := 11) (dk D_X13_comes 6 rfl) rfl (V_lg 3 rfl) rfl ?_
    refine V_ifeq (tgt := 18) (pc2 := 14) (dk D_X13_comes 7 rfl) (by decide) rfl (fun q34 => ?_) (fun q34 => ?_)
    · have h := h.1 q34
      refine V_iconst (x := 0) (pc2 := 19) (dk D_X13_comes 10 rfl) (by decide) rfl ?_
      exact h
    · have h := h.2 q34
      refine V_iconst (x := 1) (pc2 := 15) (dk D_X13_comes 8 rfl) (by decide) rfl ?_
      refine V_goto (tgt := 19) (dk D_X13_comes 9 rfl) (by decide) ?_
      exact h
theorem w_X13_comes_19 {X : Cx} {d : Nat} {S : Mem} {Q : Res → Mem → Prop} (r0 : Nat) (x1 : Int32) (x2 : Int32) (x3 : Int32) (x4 : Int32) (t0 : Nat) (t1 : Int32) (h : (isK S t0 13) ∧ ∀ S2 : Mem, S2 = uI S t0 78 t1 → ((x4 = 0 → V X d MX13_comes 36 [(0, vR r0), (1, vI x1), (2, vI x2), (3, vI x3), (4, vI x4)] [vI x2, vR r0] S2 Q) ∧ (¬ x4 = 0 → (isK S r0 13) ∧ V X d MX13_comes 36 [(0, vR r0), (1, vI x1), (2, vI x2), (3, vI x3), (4, vI x4)] [vI (gI S2 r0 79), vR r0] S2 Q))) : V X d MX13_comes 19 [(0, vR r0), (1, vI x1), (2, vI x2), (3, vI x3), (4, vI x4)] [vI t1, vR t0] S Q := by
  obtain ⟨h1, h⟩ := h
  refine V_putI kc13 (pc2 := 22) 78 (dk D_X13_comes 11 rfl) fl_13_519 (by decide) (Or.inl rfl) rfl rfl h1 ?_
  have h := h _ rfl
  refine V_aload_n (pc2 := 23) (dk D_X13_comes 12 rfl) rfl (V_lg 0 rfl) rfl ?_
  refine V_iload (pc2 := 25) (dk D_X13_comes 13 rfl) (V_lg 4 rfl) rfl ?_
  refine V_ifeq (tgt := 35) (pc2 := 28) (dk D_X13_comes 14 rfl) (by decide) rfl (fun q3 => ?_) (fun q3 => ?_)
  · have h := h.1 q3
    refine V_iload_n (pc2 := 36) (dk D_X13_comes 18 rfl) rfl (V_lg 2 rfl) rfl ?_
    exact h
  · have h := h.2 q3
    refine V_aload_n (pc2 := 29) (dk D_X13_comes 15 rfl) rfl (V_lg 0 rfl) rfl ?_
    obtain ⟨h4, h⟩ := h
    refine V_getI kc13 (pc2 := 32) 79 (dk D_X13_comes 16 rfl) fl_13_476 (by decide) (fun _ => rfl) rfl h4 ?_
    refine V_goto (tgt := 36) (dk D_X13_comes 17 rfl) (by decide) ?_
    exact h
theorem w_X13_comes_36 {X : Cx} {d : Nat} {S : Mem} {Q : Res → Mem → Prop} (r0 : Nat) (x1 : Int32) (x2 : Int32) (x3 : Int32) (x4 : Int32) (t0 : Nat) (t1 : Int32) (h : (isK S t0 13) ∧ ∀ S2 : Mem, S2 = uI S t0 79 t1 → Q (.inl none) S2) : V X d MX13_comes 36 [(0, vR r0), (1, vI x1), (2, vI x2), (3, vI x3), (4, vI x4)] [vI t1, vR t0] S Q := by
  obtain ⟨h1, h⟩ := h
  refine V_putI kc13 (pc2 := 39) 79 (dk D_X13_comes 19 rfl) fl_13_476 (by decide) (Or.inl rfl) rfl rfl h1 ?_
  have h := h _ rfl
  exact V_return (dk D_X13_comes 20 rfl) rfl h
theorem w_X13_comes_134 {X : Cx} {d : Nat} {S : Mem} {Q : Res → Mem → Prop} (r0 : Nat) (x1 : Int32) (x2 : Int32) (x3 : Int32) (x4 : Int32) (x5 : Int32) (h : Q (.inl none) S) : V X d MX13_comes 134 [(0, vR r0), (1, vI x1), (2, vI x2), (3, vI x3), (4, vI x4), (5, vI x5)] [] S Q := by
  exact V_return (dk D_X13_comes 77 rfl) rfl h
def L_X13_isMisuse : List (Nat × Instr × Nat) := [(0, .aload_n 0, 1), (1, .iload_n 2, 1), (2, .invokevirtual 554, 3), (5, .ifCond .eq 15, 3), (8, .aload_n 0, 1), (9, .getfield 161, 3), (12, .iload_n 2, 1), (13, .iaload, 1), (14, .iconst 1, 1), (15, .if_icmp .gt 5, 3), (18, .iconst 0, 1), (19, .ireturn, 1), (20, .aload_n 0, 1), (21, .iload_n 1, 1), (22, .iload_n 2, 1), (23, .invokevirtual 557, 3), (26, .iconst 1, 1), (27, .ireturn, 1)]
theorem D_X13_isMisuse : dOk cX13_isMisuse L_X13_isMisuse = true := by decide +kernel
theorem w_X13_isMisuse_0 {X : Cx} {d : Nat} {S : Mem} {Q : Res → Mem → Prop} (r0 : Nat) (x1 : Int32) (x2 : Int32) (h : (isK S r0 13) ∧ ∃ e1 : Nat, e1 + 1 ≤ d ∧ C X e1 MX13_isVoice [vR r0, vI x2] S (RI fun y4 S5 => ((y4 = 0 → V X d MX13_isMisuse 20 [(0, vR r0), (1, vI x1), (2, vI x2)] [] S5 Q) ∧ (¬ y4 = 0 → (isK S5 r0 13) ∧ (isK S5 (gR S5 r0 49) 21) ∧ (vp_in x2 (gN S5 (gR S5 r0 49))) ∧ ((1 < (gI S5 (gR S5 r0 49) (x2 : Int32).toNatClampNeg) → V X d MX13_isMisuse 20 [(0, vR r0), (1, vI x1), (2, vI x2)] [] S5 Q) ∧ (¬ 1 < (gI S5 (gR S5 r0 49) (x2 : Int32).toNatClampNeg) → Q (.inl (some (vI 0))) S5)))))) : V X d MX13_isMisuse 0 [(0, vR r0), (1, vI x1), (2, vI x2)] [] S Q := by
  refine V_aload_n (pc2 := 1) (dk D_X13_isMisuse 0 rfl) rfl (V_lg 0 rfl) rfl ?_
  refine V_iload_n (pc2 := 2) (dk D_X13_isMisuse 1 rfl) rfl (V_lg 2 rfl) rfl ?_
  obtain ⟨h6, h⟩ := h
  obtain ⟨e1, he2, hc3⟩ := h
  refine V_callV (as := [_]) (st := []) (M' := MX13_isVoice) (ci := 13) (pc2 := 5) (dk D_X13_isMisuse 2 rfl) ml_13_554 mv_X13_isVoice rfl rfl (by decide) rfl (Nat.le_of_ble_eq_true rfl) rfl he2 h6 hc3 (RI.k fun y4 S5 h => ?_)
  refine V_ifeq (tgt := 20) (pc2 := 8) (dk D_X13_isMisuse 3 rfl) (by decide) rfl (fun q7 => ?_) (fun q7 => ?_)
  · have h := h.1 q7
    exact h
  · have h := h.2 q7
    refine V_aload_n (pc2 := 9) (dk D_X13_isMisuse 4 rfl) rfl (V_lg 0 rfl) rfl ?_
    obtain ⟨h8, h⟩ := h
    refine V_getR kc13 (pc2 := 12) 49 (dk D_X13_isMisuse 5 rfl) fl_13_161 (by decide) (fun _ => rfl) rfl h8 ?_
    refine V_iload_n (pc2 := 13) (dk D_X13_isMisuse 6 rfl) rfl (V_lg 2 rfl) rfl ?_
    obtain ⟨h9, h⟩ := h
    obtain ⟨h10, h⟩ := h
    refine V_iald (pc2 := 14) (dk D_X13_isMisuse 7 rfl) rfl h9 h10 ?_
    refine V_iconst (x := 1) (pc2 := 15) (dk D_X13_isMisuse 8 rfl) (by decide) rfl ?_
    refine V_cmpgt (tgt := 20) (pc2 := 18) (dk D_X13_isMisuse 9 rfl) (by decide) rfl (fun q11 => ?_) (fun q11 => ?_)
    · have h := h.1 q11
      exact h
    · have h := h.2 q11
      refine V_iconst (x := 0) (pc2 := 19) (dk D_X13_isMisuse 10 rfl) (by decide) rfl ?_
      exact V_zreturn (dk D_X13_isMisuse 11 rfl) rfl (Or.inl rfl) h
theorem w_X13_isMisuse_20 {X : Cx} {d : Nat} {S : Mem} {Q : Res → Mem → Prop} (r0 : Nat) (x1 : Int32) (x2 : Int32) (h : (isK S r0 13) ∧ ∃ e1 : Nat, e1 + 1 ≤ d ∧ C X e1 MX13_ringOf [vR r0, vI x1, vI x2] S (RV fun  S4 => Q (.inl (some (vI 1))) S4)) : V X d MX13_isMisuse 20 [(0, vR r0), (1, vI x1), (2, vI x2)] [] S Q := by
  refine V_aload_n (pc2 := 21) (dk D_X13_isMisuse 12 rfl) rfl (V_lg 0 rfl) rfl ?_
  refine V_iload_n (pc2 := 22) (dk D_X13_isMisuse 13 rfl) rfl (V_lg 1 rfl) rfl ?_
  refine V_iload_n (pc2 := 23) (dk D_X13_isMisuse 14 rfl) rfl (V_lg 2 rfl) rfl ?_
  obtain ⟨h5, h⟩ := h
  obtain ⟨e1, he2, hc3⟩ := h
  refine V_callV (as := [_, _]) (st := []) (M' := MX13_ringOf) (ci := 13) (pc2 := 26) (dk D_X13_isMisuse 15 rfl) ml_13_557 mv_X13_ringOf rfl rfl (by decide) rfl (Nat.le_of_ble_eq_true rfl) rfl he2 h5 hc3 (RV.k fun  S4 h => ?_)
  refine V_iconst (x := 1) (pc2 := 27) (dk D_X13_isMisuse 16 rfl) (by decide) rfl ?_
  exact V_zreturn (dk D_X13_isMisuse 17 rfl) rfl (Or.inr rfl) h
def L_X13_ringOf : List (Nat × Instr × Nat) := [(0, .aload_n 0, 1), (1, .iload_n 2, 1), (2, .invokevirtual 554, 3), (5, .ifCond .eq 23, 3), (8, .aload_n 0, 1), (9, .getfield 161, 3), (12, .iload_n 2, 1), (13, .iaload, 1), (14, .iconst 2, 1), (15, .if_icmp .eq 14, 3), (18, .aload_n 0, 1), (19, .getfield 161, 3), (22, .iload_n 2, 1), (23, .iaload, 1), (24, .iconst 3, 1), (25, .if_icmp .eq 4, 3), (28, .return_, 1), (29, .aload_n 0, 1), (30, .iconst 0, 1), (31, .putfield 485, 3), (34, .iload_n 1, 1), (35, .istore_n 3, 1), (36, .iload_n 3, 1), (37, .ifCond .le 51, 3), (40, .aload_n 0, 1), (41, .getfield 485, 3), (44, .bipush 64, 2), (46, .if_icmp .ge 42, 3), (49, .aload_n 0, 1), (50, .getfield 253, 3), (53, .aload_n 0, 1), (54, .getfield 485, 3), (57, .iload_n 3, 1), (58, .iastore, 1), (59, .aload_n 0, 1), (60, .dup, 1), (61, .getfield 485, 3), (64, .iconst 1, 1), (65, .iadd, 1), (66, .putfield 485, 3), (69, .iload_n 3, 1), (70, .iload_n 2, 1), (71, .if_icmp .ne 7, 3), (74, .iconst 0, 1), (75, .goto 9, 3), (78, .aload_n 0, 1), (79, .getfield 176, 3), (82, .iload_n 3, 1), (83, .iaload, 1), (84, .istore_n 3, 1), (85, .goto (-49), 3), (88, .return_, 1)]
theorem D_X13_ringOf : dOk cX13_ringOf L_X13_ringOf = true := by decide +kernel
theorem w_X13_ringOf_0 {X : Cx} {d : Nat} {S : Mem} {Q : Res → Mem → Prop} (r0 : Nat) (x1 : Int32) (x2 : Int32) (h : (isK S r0 13) ∧ ∃ e1 : Nat, e1 + 1 ≤ d ∧ C X e1 MX13_isVoice [vR r0, vI x2] S (RI fun y4 S5 => ((y4 = 0 → V X d MX13_ringOf 28 [(0, vR r0), (1, vI x1), (2, vI x2)] [] S5 Q) ∧ (¬ y4 = 0 → (isK S5 r0 13) ∧ (isK S5 (gR S5 r0 49) 21) ∧ (vp_in x2 (gN S5 (gR S5 r0 49))) ∧ (((gI S5 (gR S5 r0 49) (x2 : Int32).toNatClampNeg) = 2 → V X d MX13_ringOf 29 [(0, vR r0), (1, vI x1), (2, vI x2)] [] S5 Q) ∧ (¬ (gI S5 (gR S5 r0 49) (x2 : Int32).toNatClampNeg) = 2 → (vp_in x2 (gN S5 (gR S5 r0 49))) ∧ (((gI S5 (gR S5 r0 49) (x2 : Int32).toNatClampNeg) = 3 → V X d MX13_ringOf 29 [(0, vR r0), (1, vI x1), (2, vI x2)] [] S5 Q) ∧ (¬ (gI S5 (gR S5 r0 49) (x2 : Int32).toNatClampNeg) = 3 → V X d MX13_ringOf 28 [(0, vR r0), (1, vI x1), (2, vI x2)] [] S5 Q)))))))) : V X d MX13_ringOf 0 [(0, vR r0), (1, vI x1), (2, vI x2)] [] S Q := by
  refine V_aload_n (pc2 := 1) (dk D_X13_ringOf 0 rfl) rfl (V_lg 0 rfl) rfl ?_
  refine V_iload_n (pc2 := 2) (dk D_X13_ringOf 1 rfl) rfl (V_lg 2 rfl) rfl ?_
  obtain ⟨h6, h⟩ := h
  obtain ⟨e1, he2, hc3⟩ := h
  refine V_callV (as := [_]) (st := []) (M' := MX13_isVoice) (ci := 13) (pc2 := 5) (dk D_X13_ringOf 2 rfl) ml_13_554 mv_X13_isVoice rfl rfl (by decide) rfl (Nat.le_of_ble_eq_true rfl) rfl he2 h6 hc3 (RI.k fun y4 S5 h => ?_)
  refine V_ifeq (tgt := 28) (pc2 := 8) (dk D_X13_ringOf 3 rfl) (by decide) rfl (fun q7 => ?_) (fun q7 => ?_)
  · have h := h.1 q7
    exact h
  · have h := h.2 q7
    refine V_aload_n (pc2 := 9) (dk D_X13_ringOf 4 rfl) rfl (V_lg 0 rfl) rfl ?_
    obtain ⟨h8, h⟩ := h
    refine V_getR kc13 (pc2 := 12) 49 (dk D_X13_ringOf 5 rfl) fl_13_161 (by decide) (fun _ => rfl) rfl h8 ?_
    refine V_iload_n (pc2 := 13) (dk D_X13_ringOf 6 rfl) rfl (V_lg 2 rfl) rfl ?_
    obtain ⟨h9, h⟩ := h
    obtain ⟨h10, h⟩ := h
    refine V_iald (pc2 := 14) (dk D_X13_ringOf 7 rfl) rfl h9 h10 ?_
    refine V_iconst (x := 2) (pc2 := 15) (dk D_X13_ringOf 8 rfl) (by decide) rfl ?_
    refine V_cmpeq (tgt := 29) (pc2 := 18) (dk D_X13_ringOf 9 rfl) (by decide) rfl (fun q11 => ?_) (fun q11 => ?_)
    · have h := h.1 q11
      exact h
    · have h := h.2 q11
      refine V_aload_n (pc2 := 19) (dk D_X13_ringOf 10 rfl) rfl (V_lg 0 rfl) rfl ?_
      refine V_getR kc13 (pc2 := 22) 49 (dk D_X13_ringOf 11 rfl) fl_13_161 (by decide) (fun _ => rfl) rfl h8 ?_
      refine V_iload_n (pc2 := 23) (dk D_X13_ringOf 12 rfl) rfl (V_lg 2 rfl) rfl ?_
      obtain ⟨h12, h⟩ := h
      refine V_iald (pc2 := 24) (dk D_X13_ringOf 13 rfl) rfl h9 h12 ?_
      refine V_iconst (x := 3) (pc2 := 25) (dk D_X13_ringOf 14 rfl) (by decide) rfl ?_
      refine V_cmpeq (tgt := 29) (pc2 := 28) (dk D_X13_ringOf 15 rfl) (by decide) rfl (fun q13 => ?_) (fun q13 => ?_)
      · have h := h.1 q13
        exact h
      · have h := h.2 q13
        exact h
theorem w_X13_ringOf_28 {X : Cx} {d : Nat} {S : Mem} {Q : Res → Mem → Prop} (r0 : Nat) (x1 : Int32) (x2 : Int32) (h : Q (.inl none) S) : V X d MX13_ringOf 28 [(0, vR r0), (1, vI x1), (2, vI x2)] [] S Q := by
  exact V_return (dk D_X13_ringOf 16 rfl) rfl h
theorem w_X13_ringOf_29 {X : Cx} {d : Nat} {S : Mem} {Q : Res → Mem → Prop} (r0 : Nat) (x1 : Int32) (x2 : Int32) (h : (isK S r0 13) ∧ ∀ S2 : Mem, S2 = uI S r0 87 0 → V X d MX13_ringOf 36 [(0, vR r0), (1, vI x1), (2, vI x2), (3, vI x1)] [] S2 Q) : V X d MX13_ringOf 29 [(0, vR r0), (1, vI x1), (2, vI x2)] [] S Q := by
  refine V_aload_n (pc2 := 30) (dk D_X13_ringOf 17 rfl) rfl (V_lg 0 rfl) rfl ?_
  refine V_iconst (x := 0) (pc2 := 31) (dk D_X13_ringOf 18 rfl) (by decide) rfl ?_
  obtain ⟨h1, h⟩ := h
  refine V_putI kc13 (pc2 := 34) 87 (dk D_X13_ringOf 19 rfl) fl_13_485 (by decide) (Or.inl rfl) rfl rfl h1 ?_
  have h := h _ rfl
  refine V_iload_n (pc2 := 35) (dk D_X13_ringOf 20 rfl) rfl (V_lg 1 rfl) rfl ?_
  refine V_istore_n (pc2 := 36) (lv2 := [(0, _), (1, _), (2, _), (3, _)]) (dk D_X13_ringOf 21 rfl) rfl (by decide) rfl rfl ?_
  exact h
theorem w_X13_ringOf_36 {X : Cx} {d : Nat} {S : Mem} {Q : Res → Mem → Prop} (r0 : Nat) (x1 : Int32) (x2 : Int32) (x3 : Int32) (h : ((x3 ≤ 0 → V X d MX13_ringOf 88 [(0, vR r0), (1, vI x1), (2, vI x2), (3, vI x3)] [] S Q) ∧ (¬ x3 ≤ 0 → (isK S r0 13) ∧ ((64 ≤ (gI S r0 87) → V X d MX13_ringOf 88 [(0, vR r0), (1, vI x1), (2, vI x2), (3, vI x3)] [] S Q) ∧ (¬ 64 ≤ (gI S r0 87) → (isK S (gR S r0 86) 21) ∧ (vp_in (gI S r0 87) (gN S (gR S r0 86))) ∧ ∀ S6 : Mem, S6 = uI S (gR S r0 86) (((gI S r0 87) : Int32).toNatClampNeg) x3 → ∀ S7 : Mem, S7 = uI S6 r0 87 ((gI S6 r0 87) + 1) → ((¬ x3 = x2 → (isK S (gR S r0 54) 21) ∧ (vp_in x3 (gN S (gR S r0 54))) ∧ V X d MX13_ringOf 84 [(0, vR r0), (1, vI x1), (2, vI x2), (3, vI x3)] [vI (gI S7 (gR S r0 54) (x3 : Int32).toNatClampNeg)] S7 Q) ∧ (x3 = x2 → V X d MX13_ringOf 84 [(0, vR r0), (1, vI x1), (2, vI x2), (3, vI x3)] [vI 0] S7 Q))))))) : V X d MX13_ringOf 36 [(0, vR r0), (1, vI x1), (2, vI x2), (3, vI x3)] [] S Q := by
  refine V_iload_n (pc2 := 37) (dk D_X13_ringOf 22 rfl) rfl (V_lg 3 rfl) rfl ?_
  refine V_ifle (tgt := 88) (pc2 := 40) (dk D_X13_ringOf 23 rfl) (by decide) rfl (fun q1 => ?_) (fun q1 => ?_)
  · have h := h.1 q1
    exact h
  · have h := h.2 q1
    refine V_aload_n (pc2 := 41) (dk D_X13_ringOf 24 rfl) rfl (V_lg 0 rfl) rfl ?_
    obtain ⟨h2, h⟩ := h
    refine V_getI kc13 (pc2 := 44) 87 (dk D_X13_ringOf 25 rfl) fl_13_485 (by decide) (fun _ => rfl) rfl h2 ?_
    refine V_bipush (x := 64) (pc2 := 46) (dk D_X13_ringOf 26 rfl) (by decide) rfl ?_
    refine V_cmpge (tgt := 88) (pc2 := 49) (dk D_X13_ringOf 27 rfl) (by decide) rfl (fun q3 => ?_) (fun q3 => ?_)
    · have h := h.1 q3
      exact h
    · have h := h.2 q3
      refine V_aload_n (pc2 := 50) (dk D_X13_ringOf 28 rfl) rfl (V_lg 0 rfl) rfl ?_
      refine V_getR kc13 (pc2 := 53) 86 (dk D_X13_ringOf 29 rfl) fl_13_253 (by decide) (fun _ => rfl) rfl h2 ?_
      refine V_aload_n (pc2 := 54) (dk D_X13_ringOf 30 rfl) rfl (V_lg 0 rfl) rfl ?_
      refine V_getI kc13 (pc2 := 57) 87 (dk D_X13_ringOf 31 rfl) fl_13_485 (by decide) (fun _ => rfl) rfl h2 ?_
      refine V_iload_n (pc2 := 58) (dk D_X13_ringOf 32 rfl) rfl (V_lg 3 rfl) rfl ?_
      obtain ⟨h4, h⟩ := h
      obtain ⟨h5, h⟩ := h
      refine V_iast (pc2 := 59) (dk D_X13_ringOf 33 rfl) rfl h4 h5 ?_
      have h := h _ rfl
      refine V_aload_n (pc2 := 60) (dk D_X13_ringOf 34 rfl) rfl (V_lg 0 rfl) rfl ?_
      refine V_dup (pc2 := 61) (dk D_X13_ringOf 35 rfl) rfl rfl ?_
      refine V_getI kc13 (pc2 := 64) 87 (dk D_X13_ringOf 36 rfl) fl_13_485 (by decide) (fun _ => rfl) rfl h2 ?_
      refine V_iconst (x := 1) (pc2 := 65) (dk D_X13_ringOf 37 rfl) (by decide) rfl ?_
      refine V_iadd (pc2 := 66) (dk D_X13_ringOf 38 rfl) rfl ?_
      refine V_putI kc13 (pc2 := 69) 87 (dk D_X13_ringOf 39 rfl) fl_13_485 (by decide) (Or.inl rfl) rfl rfl h2 ?_
      have h := h _ rfl
      refine V_iload_n (pc2 := 70) (dk D_X13_ringOf 40 rfl) rfl (V_lg 3 rfl) rfl ?_
      refine V_iload_n (pc2 := 71) (dk D_X13_ringOf 41 rfl) rfl (V_lg 2 rfl) rfl ?_
      refine V_cmpne (tgt := 78) (pc2 := 74) (dk D_X13_ringOf 42 rfl) (by decide) rfl (fun q8 => ?_) (fun q8 => ?_)
      · have h := h.1 q8
        refine V_aload_n (pc2 := 79) (dk D_X13_ringOf 45 rfl) rfl (V_lg 0 rfl) rfl ?_
        refine V_getR kc13 (pc2 := 82) 54 (dk D_X13_ringOf 46 rfl) fl_13_176 (by decide) (fun _ => rfl) rfl h2 ?_
        refine V_iload_n (pc2 := 83) (dk D_X13_ringOf 47 rfl) rfl (V_lg 3 rfl) rfl ?_
        obtain ⟨h9, h⟩ := h
        obtain ⟨h10, h⟩ := h
        refine V_iald (pc2 := 84) (dk D_X13_ringOf 48 rfl) rfl h9 h10 ?_
        exact h
      · have h := h.2 q8
        refine V_iconst (x := 0) (pc2 := 75) (dk D_X13_ringOf 43 rfl) (by decide) rfl ?_
        refine V_goto (tgt := 84) (dk D_X13_ringOf 44 rfl) (by decide) ?_
        exact h
theorem w_X13_ringOf_84 {X : Cx} {d : Nat} {S : Mem} {Q : Res → Mem → Prop} (r0 : Nat) (x1 : Int32) (x2 : Int32) (x3 : Int32) (t0 : Int32) (h : V X d MX13_ringOf 36 [(0, vR r0), (1, vI x1), (2, vI x2), (3, vI t0)] [] S Q) : V X d MX13_ringOf 84 [(0, vR r0), (1, vI x1), (2, vI x2), (3, vI x3)] [vI t0] S Q := by
  refine V_istore_n (pc2 := 85) (lv2 := [(0, _), (1, _), (2, _), (3, _)]) (dk D_X13_ringOf 49 rfl) rfl (by decide) rfl rfl ?_
  refine V_goto (tgt := 36) (dk D_X13_ringOf 50 rfl) (by decide) ?_
  exact h
theorem w_X13_ringOf_88 {X : Cx} {d : Nat} {S : Mem} {Q : Res → Mem → Prop} (r0 : Nat) (x1 : Int32) (x2 : Int32) (x3 : Int32) (h : Q (.inl none) S) : V X d MX13_ringOf 88 [(0, vR r0), (1, vI x1), (2, vI x2), (3, vI x3)] [] S Q := by
  exact V_return (dk D_X13_ringOf 51 rfl) rfl h
def L_X13_goesTo : List (Nat × Instr × Nat) := [(0, .aload_n 0, 1), (1, .iload_n 1, 1), (2, .iload_n 2, 1), (3, .invokevirtual 516, 3), (6, .aload_n 0, 1), (7, .iload_n 2, 1), (8, .putfield 473, 3), (11, .aload_n 0, 1), (12, .getfield 161, 3), (15, .iload_n 2, 1), (16, .iaload, 1), (17, .ifCond .ne 7, 3), (20, .iconst 1, 1), (21, .goto 4, 3), (24, .iconst 0, 1), (25, .istore 4, 2), (27, .aload_n 0, 1), (28, .getfield 161, 3), (31, .iload_n 2, 1), (32, .iconst 2, 1), (33, .iastore, 1), (34, .iload 4, 2), (36, .ifCond .eq 11, 3), (39, .aload_n 0, 1), (40, .iload_n 2, 1), (41, .invokevirtual 560, 3), (44, .goto 9, 3), (47, .aload_n 0, 1), (48, .iload_n 2, 1), (49, .iload_n 3, 1), (50, .invokevirtual 497, 3), (53, .return_, 1)]
theorem D_X13_goesTo : dOk cX13_goesTo L_X13_goesTo = true := by decide +kernel
theorem w_X13_goesTo_0 {X : Cx} {d : Nat} {S : Mem} {Q : Res → Mem → Prop} (r0 : Nat) (x1 : Int32) (x2 : Int32) (x3 : Int32) (h : (isK S r0 13) ∧ ∃ e1 : Nat, e1 + 1 ≤ d ∧ C X e1 MX13_hands [vR r0, vI x1, vI x2] S (RV fun  S4 => (isK S4 r0 13) ∧ ∀ S7 : Mem, S7 = uI S4 r0 77 x2 → (isK S4 (gR S4 r0 49) 21) ∧ (vp_in x2 (gN S4 (gR S4 r0 49))) ∧ ((¬ (gI S7 (gR S4 r0 49) (x2 : Int32).toNatClampNeg) = 0 → V X d MX13_goesTo 25 [(0, vR r0), (1, vI x1), (2, vI x2), (3, vI x3)] [vI 0] S7 Q) ∧ ((gI S7 (gR S4 r0 49) (x2 : Int32).toNatClampNeg) = 0 → V X d MX13_goesTo 25 [(0, vR r0), (1, vI x1), (2, vI x2), (3, vI x3)] [vI 1] S7 Q)))) : V X d MX13_goesTo 0 [(0, vR r0), (1, vI x1), (2, vI x2), (3, vI x3)] [] S Q := by
  refine V_aload_n (pc2 := 1) (dk D_X13_goesTo 0 rfl) rfl (V_lg 0 rfl) rfl ?_
  refine V_iload_n (pc2 := 2) (dk D_X13_goesTo 1 rfl) rfl (V_lg 1 rfl) rfl ?_
  refine V_iload_n (pc2 := 3) (dk D_X13_goesTo 2 rfl) rfl (V_lg 2 rfl) rfl ?_
  obtain ⟨h5, h⟩ := h
  obtain ⟨e1, he2, hc3⟩ := h
  refine V_callV (as := [_, _]) (st := []) (M' := MX13_hands) (ci := 13) (pc2 := 6) (dk D_X13_goesTo 3 rfl) ml_13_516 mv_X13_hands rfl rfl (by decide) rfl (Nat.le_of_ble_eq_true rfl) rfl he2 h5 hc3 (RV.k fun  S4 h => ?_)
  refine V_aload_n (pc2 := 7) (dk D_X13_goesTo 4 rfl) rfl (V_lg 0 rfl) rfl ?_
  refine V_iload_n (pc2 := 8) (dk D_X13_goesTo 5 rfl) rfl (V_lg 2 rfl) rfl ?_
  obtain ⟨h6, h⟩ := h
  refine V_putI kc13 (pc2 := 11) 77 (dk D_X13_goesTo 6 rfl) fl_13_473 (by decide) (Or.inl rfl) rfl rfl h6 ?_
  have h := h _ rfl
  refine V_aload_n (pc2 := 12) (dk D_X13_goesTo 7 rfl) rfl (V_lg 0 rfl) rfl ?_
  refine V_getR kc13 (pc2 := 15) 49 (dk D_X13_goesTo 8 rfl) fl_13_161 (by decide) (fun _ => rfl) rfl h6 ?_
  refine V_iload_n (pc2 := 16) (dk D_X13_goesTo 9 rfl) rfl (V_lg 2 rfl) rfl ?_
  obtain ⟨h8, h⟩ := h
  obtain ⟨h9, h⟩ := h
  refine V_iald (pc2 := 17) (dk D_X13_goesTo 10 rfl) rfl h8 h9 ?_
  refine V_ifne (tgt := 24) (pc2 := 20) (dk D_X13_goesTo 11 rfl) (by decide) rfl (fun q10 => ?_) (fun q10 => ?_)
  · have h := h.1 q10
    refine V_iconst (x := 0) (pc2 := 25) (dk D_X13_goesTo 14 rfl) (by decide) rfl ?_
    exact h
  · have h := h.2 q10
    refine V_iconst (x := 1) (pc2 := 21) (dk D_X13_goesTo 12 rfl) (by decide) rfl ?_
    refine V_goto (tgt := 25) (dk D_X13_goesTo 13 rfl) (by decide) ?_
    exact h
theorem w_X13_goesTo_25 {X : Cx} {d : Nat} {S : Mem} {Q : Res → Mem → Prop} (r0 : Nat) (x1 : Int32) (x2 : Int32) (x3 : Int32) (t0 : Int32) (h : (isK S r0 13) ∧ (isK S (gR S r0 49) 21) ∧ (vp_in x2 (gN S (gR S r0 49))) ∧ ∀ S4 : Mem, S4 = uI S (gR S r0 49) ((x2 : Int32).toNatClampNeg) 2 → ((t0 = 0 → ∃ e6 : Nat, e6 + 1 ≤ d ∧ C X e6 MX13_push [vR r0, vI x2, vI x3] S4 (RV fun  S9 => V X d MX13_goesTo 53 [(0, vR r0), (1, vI x1), (2, vI x2), (3, vI x3), (4, vI t0)] [] S9 Q)) ∧ (¬ t0 = 0 → ∃ e10 : Nat, e10 + 1 ≤ d ∧ C X e10 MX13_start [vR r0, vI x2] S4 (RV fun  S13 => V X d MX13_goesTo 53 [(0, vR r0), (1, vI x1), (2, vI x2), (3, vI x3), (4, vI t0)] [] S13 Q)))) : V X d MX13_goesTo 25 [(0, vR r0), (1, vI x1), (2, vI x2), (3, vI x3)] [vI t0] S Q := by
  refine V_istore (pc2 := 27) (lv2 := [(0, _), (1, _), (2, _), (3, _), (4, _)]) (dk D_X13_goesTo 15 rfl) (by decide) rfl rfl ?_
  refine V_aload_n (pc2 := 28) (dk D_X13_goesTo 16 rfl) rfl (V_lg 0 rfl) rfl ?_
  obtain ⟨h1, h⟩ := h
  refine V_getR kc13 (pc2 := 31) 49 (dk D_X13_goesTo 17 rfl) fl_13_161 (by decide) (fun _ => rfl) rfl h1 ?_
  refine V_iload_n (pc2 := 32) (dk D_X13_goesTo 18 rfl) rfl (V_lg 2 rfl) rfl ?_
  refine V_iconst (x := 2) (pc2 := 33) (dk D_X13_goesTo 19 rfl) (by decide) rfl ?_
  obtain ⟨h2, h⟩ := h
  obtain ⟨h3, h⟩ := h
  refine V_iast (pc2 := 34) (dk D_X13_goesTo 20 rfl) rfl h2 h3 ?_
  have h := h _ rfl
  refine V_iload (pc2 := 36) (dk D_X13_goesTo 21 rfl) (V_lg 4 rfl) rfl ?_
  refine V_ifeq (tgt := 47) (pc2 := 39) (dk D_X13_goesTo 22 rfl) (by decide) rfl (fun q5 => ?_) (fun q5 => ?_)
  · have h := h.1 q5
    refine V_aload_n (pc2 := 48) (dk D_X13_goesTo 27 rfl) rfl (V_lg 0 rfl) rfl ?_
    refine V_iload_n (pc2 := 49) (dk D_X13_goesTo 28 rfl) rfl (V_lg 2 rfl) rfl ?_
    refine V_iload_n (pc2 := 50) (dk D_X13_goesTo 29 rfl) rfl (V_lg 3 rfl) rfl ?_
    obtain ⟨e6, he7, hc8⟩ := h
    refine V_callV (as := [_, _]) (st := []) (M' := MX13_push) (ci := 13) (pc2 := 53) (dk D_X13_goesTo 30 rfl) ml_13_497 mv_X13_push rfl rfl (by decide) rfl (Nat.le_of_ble_eq_true rfl) rfl he7 h1 hc8 (RV.k fun  S9 h => ?_)
    exact h
  · have h := h.2 q5
    refine V_aload_n (pc2 := 40) (dk D_X13_goesTo 23 rfl) rfl (V_lg 0 rfl) rfl ?_
    refine V_iload_n (pc2 := 41) (dk D_X13_goesTo 24 rfl) rfl (V_lg 2 rfl) rfl ?_
    obtain ⟨e10, he11, hc12⟩ := h
    refine V_callV (as := [_]) (st := []) (M' := MX13_start) (ci := 13) (pc2 := 44) (dk D_X13_goesTo 25 rfl) ml_13_560 mv_X13_start rfl rfl (by decide) rfl (Nat.le_of_ble_eq_true rfl) rfl he11 h1 hc12 (RV.k fun  S13 h => ?_)
    refine V_goto (tgt := 53) (dk D_X13_goesTo 26 rfl) (by decide) ?_
    exact h
theorem w_X13_goesTo_53 {X : Cx} {d : Nat} {S : Mem} {Q : Res → Mem → Prop} (r0 : Nat) (x1 : Int32) (x2 : Int32) (x3 : Int32) (x4 : Int32) (h : Q (.inl none) S) : V X d MX13_goesTo 53 [(0, vR r0), (1, vI x1), (2, vI x2), (3, vI x3), (4, vI x4)] [] S Q := by
  exact V_return (dk D_X13_goesTo 31 rfl) rfl h
def L_X13_resumes : List (Nat × Instr × Nat) := [(0, .aload_n 0, 1), (1, .iload_n 1, 1), (2, .iload_n 2, 1), (3, .invokevirtual 563, 3), (6, .ifCond .eq 11, 3), (9, .aload_n 0, 1), (10, .iload_n 1, 1), (11, .bipush 10, 2), (13, .invokevirtual 567, 3), (16, .return_, 1), (17, .aload_n 0, 1), (18, .getfield 161, 3), (21, .iload_n 1, 1), (22, .iconst 3, 1), (23, .iastore, 1), (24, .aload_n 0, 1), (25, .getfield 182, 3), (28, .iload_n 1, 1), (29, .iload 4, 2), (31, .iastore, 1), (32, .aload_n 0, 1), (33, .getfield 176, 3), (36, .iload_n 2, 1), (37, .iload_n 1, 1), (38, .iastore, 1), (39, .aload_n 0, 1), (40, .iload_n 1, 1), (41, .iload_n 2, 1), (42, .iload_n 3, 1), (43, .invokevirtual 570, 3), (46, .return_, 1)]
theorem D_X13_resumes : dOk cX13_resumes L_X13_resumes = true := by decide +kernel
theorem w_X13_resumes_0 {X : Cx} {d : Nat} {S : Mem} {Q : Res → Mem → Prop} (r0 : Nat) (x1 : Int32) (x2 : Int32) (x3 : Int32) (x4 : Int32) (h : (isK S r0 13) ∧ ∃ e1 : Nat, e1 + 1 ≤ d ∧ C X e1 MX13_isMisuse [vR r0, vI x1, vI x2] S (RI fun y4 S5 => ((y4 = 0 → (isK S5 r0 13) ∧ (isK S5 (gR S5 r0 49) 21) ∧ (vp_in x1 (gN S5 (gR S5 r0 49))) ∧ ∀ S11 : Mem, S11 = uI S5 (gR S5 r0 49) ((x1 : Int32).toNatClampNeg) 3 → (isK S5 (gR S5 r0 56) 21) ∧ (vp_in x1 (gN S5 (gR S5 r0 56))) ∧ ∀ S14 : Mem, S14 = uI S11 (gR S5 r0 56) ((x1 : Int32).toNatClampNeg) x4 → (isK S5 (gR S5 r0 54) 21) ∧ (vp_in x2 (gN S5 (gR S5 r0 54))) ∧ ∀ S17 : Mem, S17 = uI S14 (gR S5 r0 54) ((x2 : Int32).toNatClampNeg) x1 → ∃ e18 : Nat, e18 + 1 ≤ d ∧ C X e18 MX13_goesTo [vR r0, vI x1, vI x2, vI x3] S17 (RV fun  S21 => Q (.inl none) S21)) ∧ (¬ y4 = 0 → (isK S5 r0 13) ∧ ∃ e22 : Nat, e22 + 1 ≤ d ∧ C X e22 MX13_arises [vR r0, vI x1, vI 10] S5 (RV fun  S25 => Q (.inl none) S25))))) : V X d MX13_resumes 0 [(0, vR r0), (1, vI x1), (2, vI x2), (3, vI x3), (4, vI x4)] [] S Q := by
  refine V_aload_n (pc2 := 1) (dk D_X13_resumes 0 rfl) rfl (V_lg 0 rfl) rfl ?_
  refine V_iload_n (pc2 := 2) (dk D_X13_resumes 1 rfl) rfl (V_lg 1 rfl) rfl ?_
  refine V_iload_n (pc2 := 3) (dk D_X13_resumes 2 rfl) rfl (V_lg 2 rfl) rfl ?_
  obtain ⟨h6, h⟩ := h
  obtain ⟨e1, he2, hc3⟩ := h
  refine V_callV (as := [_, _]) (st := []) (M' := MX13_isMisuse) (ci := 13) (pc2 := 6) (dk D_X13_resumes 3 rfl) ml_13_563 mv_X13_isMisuse rfl rfl (by decide) rfl (Nat.le_of_ble_eq_true rfl) rfl he2 h6 hc3 (RI.k fun y4 S5 h => ?_)
  refine V_ifeq (tgt := 17) (pc2 := 9) (dk D_X13_resumes 4 rfl) (by decide) rfl (fun q7 => ?_) (fun q7 => ?_)
  · have h := h.1 q7
    refine V_aload_n (pc2 := 18) (dk D_X13_resumes 10 rfl) rfl (V_lg 0 rfl) rfl ?_
    obtain ⟨h8, h⟩ := h
    refine V_getR kc13 (pc2 := 21) 49 (dk D_X13_resumes 11 rfl) fl_13_161 (by decide) (fun _ => rfl) rfl h8 ?_
    refine V_iload_n (pc2 := 22) (dk D_X13_resumes 12 rfl) rfl (V_lg 1 rfl) rfl ?_
    refine V_iconst (x := 3) (pc2 := 23) (dk D_X13_resumes 13 rfl) (by decide) rfl ?_
    obtain ⟨h9, h⟩ := h
    obtain ⟨h10, h⟩ := h
    refine V_iast (pc2 := 24) (dk D_X13_resumes 14 rfl) rfl h9 h10 ?_
    have h := h _ rfl
    refine V_aload_n (pc2 := 25) (dk D_X13_resumes 15 rfl) rfl (V_lg 0 rfl) rfl ?_
    refine V_getR kc13 (pc2 := 28) 56 (dk D_X13_resumes 16 rfl) fl_13_182 (by decide) (fun _ => rfl) rfl h8 ?_
    refine V_iload_n (pc2 := 29) (dk D_X13_resumes 17 rfl) rfl (V_lg 1 rfl) rfl ?_
    refine V_iload (pc2 := 31) (dk D_X13_resumes 18 rfl) (V_lg 4 rfl) rfl ?_
    obtain ⟨h12, h⟩ := h
    obtain ⟨h13, h⟩ := h
    refine V_iast (pc2 := 32) (dk D_X13_resumes 19 rfl) rfl h12 h13 ?_
    have h := h _ rfl
    refine V_aload_n (pc2 := 33) (dk D_X13_resumes 20 rfl) rfl (V_lg 0 rfl) rfl ?_
    refine V_getR kc13 (pc2 := 36) 54 (dk D_X13_resumes 21 rfl) fl_13_176 (by decide) (fun _ => rfl) rfl h8 ?_
    refine V_iload_n (pc2 := 37) (dk D_X13_resumes 22 rfl) rfl (V_lg 2 rfl) rfl ?_
    refine V_iload_n (pc2 := 38) (dk D_X13_resumes 23 rfl) rfl (V_lg 1 rfl) rfl ?_
    obtain ⟨h15, h⟩ := h
    obtain ⟨h16, h⟩ := h
    refine V_iast (pc2 := 39) (dk D_X13_resumes 24 rfl) rfl h15 h16 ?_
    have h := h _ rfl
    refine V_aload_n (pc2 := 40) (dk D_X13_resumes 25 rfl) rfl (V_lg 0 rfl) rfl ?_
    refine V_iload_n (pc2 := 41) (dk D_X13_resumes 26 rfl) rfl (V_lg 1 rfl) rfl ?_
    refine V_iload_n (pc2 := 42) (dk D_X13_resumes 27 rfl) rfl (V_lg 2 rfl) rfl ?_
    refine V_iload_n (pc2 := 43) (dk D_X13_resumes 28 rfl) rfl (V_lg 3 rfl) rfl ?_
    obtain ⟨e18, he19, hc20⟩ := h
    refine V_callV (as := [_, _, _]) (st := []) (M' := MX13_goesTo) (ci := 13) (pc2 := 46) (dk D_X13_resumes 29 rfl) ml_13_570 mv_X13_goesTo rfl rfl (by decide) rfl (Nat.le_of_ble_eq_true rfl) rfl he19 h8 hc20 (RV.k fun  S21 h => ?_)
    exact V_return (dk D_X13_resumes 30 rfl) rfl h
  · have h := h.2 q7
    refine V_aload_n (pc2 := 10) (dk D_X13_resumes 5 rfl) rfl (V_lg 0 rfl) rfl ?_
    refine V_iload_n (pc2 := 11) (dk D_X13_resumes 6 rfl) rfl (V_lg 1 rfl) rfl ?_
    refine V_bipush (x := 10) (pc2 := 13) (dk D_X13_resumes 7 rfl) (by decide) rfl ?_
    obtain ⟨h26, h⟩ := h
    obtain ⟨e22, he23, hc24⟩ := h
    refine V_callV (as := [_, _]) (st := []) (M' := MX13_arises) (ci := 13) (pc2 := 16) (dk D_X13_resumes 8 rfl) ml_13_567 mv_X13_arises rfl rfl (by decide) rfl (Nat.le_of_ble_eq_true rfl) rfl he23 h26 hc24 (RV.k fun  S25 h => ?_)
    exact V_return (dk D_X13_resumes 9 rfl) rfl h
def L_X13_yields : List (Nat × Instr × Nat) := [(0, .aload_n 0, 1), (1, .getfield 185, 3), (4, .iload_n 1, 1), (5, .baload, 1), (6, .ifCond .eq 11, 3), (9, .aload_n 0, 1), (10, .iload_n 1, 1), (11, .bipush 10, 2), (13, .invokevirtual 567, 3), (16, .return_, 1), (17, .aload_n 0, 1), (18, .getfield 161, 3), (21, .iload_n 1, 1), (22, .iconst 1, 1), (23, .iastore, 1), (24, .aload_n 0, 1), (25, .iload_n 1, 1), (26, .aload_n 0, 1), (27, .getfield 176, 3), (30, .iload_n 1, 1), (31, .iaload, 1), (32, .invokevirtual 516, 3), (35, .aload_n 0, 1), (36, .aload_n 0, 1), (37, .getfield 176, 3), (40, .iload_n 1, 1), (41, .iaload, 1), (42, .iload_n 2, 1), (43, .iconst 0, 1), (44, .iconst 0, 1), (45, .invokevirtual 550, 3), (48, .return_, 1)]
theorem D_X13_yields : dOk cX13_yields L_X13_yields = true := by decide +kernel
theorem w_X13_yields_0 {X : Cx} {d : Nat} {S : Mem} {Q : Res → Mem → Prop} (r0 : Nat) (x1 : Int32) (x2 : Int32) (h : (isK S r0 13) ∧ (isK S (gR S r0 57) 23) ∧ (vp_in x1 (gN S (gR S r0 57))) ∧ (((gI S (gR S r0 57) (x1 : Int32).toNatClampNeg) = 0 → (isK S (gR S r0 49) 21) ∧ (vp_in x1 (gN S (gR S r0 49))) ∧ ∀ S7 : Mem, S7 = uI S (gR S r0 49) ((x1 : Int32).toNatClampNeg) 1 → (isK S (gR S r0 54) 21) ∧ (vp_in x1 (gN S (gR S r0 54))) ∧ ∃ e10 : Nat, e10 + 1 ≤ d ∧ C X e10 MX13_hands [vR r0, vI x1, vI (gI S7 (gR S r0 54) (x1 : Int32).toNatClampNeg)] S7 (RV fun  S13 => (isK S13 r0 13) ∧ (isK S13 (gR S13 r0 54) 21) ∧ (vp_in x1 (gN S13 (gR S13 r0 54))) ∧ ∃ e17 : Nat, e17 + 1 ≤ d ∧ C X e17 MX13_comes [vR r0, vI (gI S13 (gR S13 r0 54) (x1 : Int32).toNatClampNeg), vI x2, vI 0, vI 0] S13 (RV fun  S20 => Q (.inl none) S20))) ∧ (¬ (gI S (gR S r0 57) (x1 : Int32).toNatClampNeg) = 0 → ∃ e21 : Nat, e21 + 1 ≤ d ∧ C X e21 MX13_arises [vR r0, vI x1, vI 10] S (RV fun  S24 => Q (.inl none) S24)))) : V X d MX13_yields 0 [(0, vR r0), (1, vI x1), (2, vI x2)] [] S Q := by
  refine V_aload_n (pc2 := 1) (dk D_X13_yields 0 rfl) rfl (V_lg 0 rfl) rfl ?_
  obtain ⟨h1, h⟩ := h
  refine V_getR kc13 (pc2 := 4) 57 (dk D_X13_yields 1 rfl) fl_13_185 (by decide) (fun _ => rfl) rfl h1 ?_
  refine V_iload_n (pc2 := 5) (dk D_X13_yields 2 rfl) rfl (V_lg 1 rfl) rfl ?_
  obtain ⟨h2, h⟩ := h
  obtain ⟨h3, h⟩ := h
  refine V_zald (pc2 := 6) (dk D_X13_yields 3 rfl) rfl h2 h3 ?_
  refine V_ifeq (tgt := 17) (pc2 := 9) (dk D_X13_yields 4 rfl) (by decide) rfl (fun q4 => ?_) (fun q4 => ?_)
  · have h := h.1 q4
    refine V_aload_n (pc2 := 18) (dk D_X13_yields 10 rfl) rfl (V_lg 0 rfl) rfl ?_
    refine V_getR kc13 (pc2 := 21) 49 (dk D_X13_yields 11 rfl) fl_13_161 (by decide) (fun _ => rfl) rfl h1 ?_
    refine V_iload_n (pc2 := 22) (dk D_X13_yields 12 rfl) rfl (V_lg 1 rfl) rfl ?_
    refine V_iconst (x := 1) (pc2 := 23) (dk D_X13_yields 13 rfl) (by decide) rfl ?_
    obtain ⟨h5, h⟩ := h
    obtain ⟨h6, h⟩ := h
    refine V_iast (pc2 := 24) (dk D_X13_yields 14 rfl) rfl h5 h6 ?_
    have h := h _ rfl
    refine V_aload_n (pc2 := 25) (dk D_X13_yields 15 rfl) rfl (V_lg 0 rfl) rfl ?_
    refine V_iload_n (pc2 := 26) (dk D_X13_yields 16 rfl) rfl (V_lg 1 rfl) rfl ?_
    refine V_aload_n (pc2 := 27) (dk D_X13_yields 17 rfl) rfl (V_lg 0 rfl) rfl ?_
    refine V_getR kc13 (pc2 := 30) 54 (dk D_X13_yields 18 rfl) fl_13_176 (by decide) (fun _ => rfl) rfl h1 ?_
    refine V_iload_n (pc2 := 31) (dk D_X13_yields 19 rfl) rfl (V_lg 1 rfl) rfl ?_
    obtain ⟨h8, h⟩ := h
    obtain ⟨h9, h⟩ := h
    refine V_iald (pc2 := 32) (dk D_X13_yields 20 rfl) rfl h8 h9 ?_
    obtain ⟨e10, he11, hc12⟩ := h
    refine V_callV (as := [_, _]) (st := []) (M' := MX13_hands) (ci := 13) (pc2 := 35) (dk D_X13_yields 21 rfl) ml_13_516 mv_X13_hands rfl rfl (by decide) rfl (Nat.le_of_ble_eq_true rfl) rfl he11 h1 hc12 (RV.k fun  S13 h => ?_)
    refine V_aload_n (pc2 := 36) (dk D_X13_yields 22 rfl) rfl (V_lg 0 rfl) rfl ?_
    refine V_aload_n (pc2 := 37) (dk D_X13_yields 23 rfl) rfl (V_lg 0 rfl) rfl ?_
    obtain ⟨h14, h⟩ := h
    refine V_getR kc13 (pc2 := 40) 54 (dk D_X13_yields 24 rfl) fl_13_176 (by decide) (fun _ => rfl) rfl h14 ?_
    refine V_iload_n (pc2 := 41) (dk D_X13_yields 25 rfl) rfl (V_lg 1 rfl) rfl ?_
    obtain ⟨h15, h⟩ := h
    obtain ⟨h16, h⟩ := h
    refine V_iald (pc2 := 42) (dk D_X13_yields 26 rfl) rfl h15 h16 ?_
    refine V_iload_n (pc2 := 43) (dk D_X13_yields 27 rfl) rfl (V_lg 2 rfl) rfl ?_
    refine V_iconst (x := 0) (pc2 := 44) (dk D_X13_yields 28 rfl) (by decide) rfl ?_
    refine V_iconst (x := 0) (pc2 := 45) (dk D_X13_yields 29 rfl) (by decide) rfl ?_
    obtain ⟨e17, he18, hc19⟩ := h
    refine V_callV (as := [_, _, _, _]) (st := []) (M' := MX13_comes) (ci := 13) (pc2 := 48) (dk D_X13_yields 30 rfl) ml_13_550 mv_X13_comes rfl rfl (by decide) rfl (Nat.le_of_ble_eq_true rfl) rfl he18 h14 hc19 (RV.k fun  S20 h => ?_)
    exact V_return (dk D_X13_yields 31 rfl) rfl h
  · have h := h.2 q4
    refine V_aload_n (pc2 := 10) (dk D_X13_yields 5 rfl) rfl (V_lg 0 rfl) rfl ?_
    refine V_iload_n (pc2 := 11) (dk D_X13_yields 6 rfl) rfl (V_lg 1 rfl) rfl ?_
    refine V_bipush (x := 10) (pc2 := 13) (dk D_X13_yields 7 rfl) (by decide) rfl ?_
    obtain ⟨e21, he22, hc23⟩ := h
    refine V_callV (as := [_, _]) (st := []) (M' := MX13_arises) (ci := 13) (pc2 := 16) (dk D_X13_yields 8 rfl) ml_13_567 mv_X13_arises rfl rfl (by decide) rfl (Nat.le_of_ble_eq_true rfl) rfl he22 h1 hc23 (RV.k fun  S24 h => ?_)
    exact V_return (dk D_X13_yields 9 rfl) rfl h
def L_X13_handsOn : List (Nat × Instr × Nat) := [(0, .aload_n 0, 1), (1, .getfield 185, 3), (4, .iload_n 1, 1), (5, .baload, 1), (6, .ifCond .ne 12, 3), (9, .aload_n 0, 1), (10, .iload_n 1, 1), (11, .iload_n 2, 1), (12, .invokevirtual 563, 3), (15, .ifCond .eq 11, 3), (18, .aload_n 0, 1), (19, .iload_n 1, 1), (20, .bipush 10, 2), (22, .invokevirtual 567, 3), (25, .return_, 1), (26, .aload_n 0, 1), (27, .getfield 161, 3), (30, .iload_n 1, 1), (31, .iconst 1, 1), (32, .iastore, 1), (33, .aload_n 0, 1), (34, .getfield 176, 3), (37, .iload_n 2, 1), (38, .aload_n 0, 1), (39, .getfield 176, 3), (42, .iload_n 1, 1), (43, .iaload, 1), (44, .iastore, 1), (45, .aload_n 0, 1), (46, .iload_n 1, 1), (47, .iload_n 2, 1), (48, .iload_n 3, 1), (49, .invokevirtual 570, 3), (52, .return_, 1)]
theorem D_X13_handsOn : dOk cX13_handsOn L_X13_handsOn = true := by decide +kernel
theorem w_X13_handsOn_0 {X : Cx} {d : Nat} {S : Mem} {Q : Res → Mem → Prop} (r0 : Nat) (x1 : Int32) (x2 : Int32) (x3 : Int32) (h : (isK S r0 13) ∧ (isK S (gR S r0 57) 23) ∧ (vp_in x1 (gN S (gR S r0 57))) ∧ ((¬ (gI S (gR S r0 57) (x1 : Int32).toNatClampNeg) = 0 → V X d MX13_handsOn 18 [(0, vR r0), (1, vI x1), (2, vI x2), (3, vI x3)] [] S Q) ∧ ((gI S (gR S r0 57) (x1 : Int32).toNatClampNeg) = 0 → ∃ e5 : Nat, e5 + 1 ≤ d ∧ C X e5 MX13_isMisuse [vR r0, vI x1, vI x2] S (RI fun y8 S9 => ((y8 = 0 → (isK S9 r0 13) ∧ (isK S9 (gR S9 r0 49) 21) ∧ (vp_in x1 (gN S9 (gR S9 r0 49))) ∧ ∀ S14 : Mem, S14 = uI S9 (gR S9 r0 49) ((x1 : Int32).toNatClampNeg) 1 → (isK S9 (gR S9 r0 54) 21) ∧ (vp_in x1 (gN S9 (gR S9 r0 54))) ∧ (vp_in x2 (gN S9 (gR S9 r0 54))) ∧ ∀ S18 : Mem, S18 = uI S14 (gR S9 r0 54) ((x2 : Int32).toNatClampNeg) (gI S14 (gR S9 r0 54) (x1 : Int32).toNatClampNeg) → ∃ e19 : Nat, e19 + 1 ≤ d ∧ C X e19 MX13_goesTo [vR r0, vI x1, vI x2, vI x3] S18 (RV fun  S22 => Q (.inl none) S22)) ∧ (¬ y8 = 0 → V X d MX13_handsOn 18 [(0, vR r0), (1, vI x1), (2, vI x2), (3, vI x3)] [] S9 Q)))))) : V X d MX13_handsOn 0 [(0, vR r0), (1, vI x1), (2, vI x2), (3, vI x3)] [] S Q := by
  refine V_aload_n (pc2 := 1) (dk D_X13_handsOn 0 rfl) rfl (V_lg 0 rfl) rfl ?_
  obtain ⟨h1, h⟩ := h
  refine V_getR kc13 (pc2 := 4) 57 (dk D_X13_handsOn 1 rfl) fl_13_185 (by decide) (fun _ => rfl) rfl h1 ?_
  refine V_iload_n (pc2 := 5) (dk D_X13_handsOn 2 rfl) rfl (V_lg 1 rfl) rfl ?_
  obtain ⟨h2, h⟩ := h
  obtain ⟨h3, h⟩ := h
  refine V_zald (pc2 := 6) (dk D_X13_handsOn 3 rfl) rfl h2 h3 ?_
  refine V_ifne (tgt := 18) (pc2 := 9) (dk D_X13_handsOn 4 rfl) (by decide) rfl (fun q4 => ?_) (fun q4 => ?_)
  · have h := h.1 q4
    exact h
  · have h := h.2 q4
    refine V_aload_n (pc2 := 10) (dk D_X13_handsOn 5 rfl) rfl (V_lg 0 rfl) rfl ?_
    refine V_iload_n (pc2 := 11) (dk D_X13_handsOn 6 rfl) rfl (V_lg 1 rfl) rfl ?_
    refine V_iload_n (pc2 := 12) (dk D_X13_handsOn 7 rfl) rfl (V_lg 2 rfl) rfl ?_
    obtain ⟨e5, he6, hc7⟩ := h
    refine V_callV (as := [_, _]) (st := []) (M' := MX13_isMisuse) (ci := 13) (pc2 := 15) (dk D_X13_handsOn 8 rfl) ml_13_563 mv_X13_isMisuse rfl rfl (by decide) rfl (Nat.le_of_ble_eq_true rfl) rfl he6 h1 hc7 (RI.k fun y8 S9 h => ?_)
    refine V_ifeq (tgt := 26) (pc2 := 18) (dk D_X13_handsOn 9 rfl) (by decide) rfl (fun q10 => ?_) (fun q10 => ?_)
    · have h := h.1 q10
      refine V_aload_n (pc2 := 27) (dk D_X13_handsOn 15 rfl) rfl (V_lg 0 rfl) rfl ?_
      obtain ⟨h11, h⟩ := h
      refine V_getR kc13 (pc2 := 30) 49 (dk D_X13_handsOn 16 rfl) fl_13_161 (by decide) (fun _ => rfl) rfl h11 ?_
      refine V_iload_n (pc2 := 31) (dk D_X13_handsOn 17 rfl) rfl (V_lg 1 rfl) rfl ?_
      refine V_iconst (x := 1) (pc2 := 32) (dk D_X13_handsOn 18 rfl) (by decide) rfl ?_
      obtain ⟨h12, h⟩ := h
      obtain ⟨h13, h⟩ := h
      refine V_iast (pc2 := 33) (dk D_X13_handsOn 19 rfl) rfl h12 h13 ?_
      have h := h _ rfl
      refine V_aload_n (pc2 := 34) (dk D_X13_handsOn 20 rfl) rfl (V_lg 0 rfl) rfl ?_
      refine V_getR kc13 (pc2 := 37) 54 (dk D_X13_handsOn 21 rfl) fl_13_176 (by decide) (fun _ => rfl) rfl h11 ?_
      refine V_iload_n (pc2 := 38) (dk D_X13_handsOn 22 rfl) rfl (V_lg 2 rfl) rfl ?_
      refine V_aload_n (pc2 := 39) (dk D_X13_handsOn 23 rfl) rfl (V_lg 0 rfl) rfl ?_
      refine V_getR kc13 (pc2 := 42) 54 (dk D_X13_handsOn 24 rfl) fl_13_176 (by decide) (fun _ => rfl) rfl h11 ?_
      refine V_iload_n (pc2 := 43) (dk D_X13_handsOn 25 rfl) rfl (V_lg 1 rfl) rfl ?_
      obtain ⟨h15, h⟩ := h
      obtain ⟨h16, h⟩ := h
      refine V_iald (pc2 := 44) (dk D_X13_handsOn 26 rfl) rfl h15 h16 ?_
      obtain ⟨h17, h⟩ := h
      refine V_iast (pc2 := 45) (dk D_X13_handsOn 27 rfl) rfl h15 h17 ?_
      have h := h _ rfl
      refine V_aload_n (pc2 := 46) (dk D_X13_handsOn 28 rfl) rfl (V_lg 0 rfl) rfl ?_
      refine V_iload_n (pc2 := 47) (dk D_X13_handsOn 29 rfl) rfl (V_lg 1 rfl) rfl ?_
      refine V_iload_n (pc2 := 48) (dk D_X13_handsOn 30 rfl) rfl (V_lg 2 rfl) rfl ?_
      refine V_iload_n (pc2 := 49) (dk D_X13_handsOn 31 rfl) rfl (V_lg 3 rfl) rfl ?_
      obtain ⟨e19, he20, hc21⟩ := h
      refine V_callV (as := [_, _, _]) (st := []) (M' := MX13_goesTo) (ci := 13) (pc2 := 52) (dk D_X13_handsOn 32 rfl) ml_13_570 mv_X13_goesTo rfl rfl (by decide) rfl (Nat.le_of_ble_eq_true rfl) rfl he20 h11 hc21 (RV.k fun  S22 h => ?_)
      exact V_return (dk D_X13_handsOn 33 rfl) rfl h
    · have h := h.2 q10
      exact h
theorem w_X13_handsOn_18 {X : Cx} {d : Nat} {S : Mem} {Q : Res → Mem → Prop} (r0 : Nat) (x1 : Int32) (x2 : Int32) (x3 : Int32) (h : (isK S r0 13) ∧ ∃ e1 : Nat, e1 + 1 ≤ d ∧ C X e1 MX13_arises [vR r0, vI x1, vI 10] S (RV fun  S4 => Q (.inl none) S4)) : V X d MX13_handsOn 18 [(0, vR r0), (1, vI x1), (2, vI x2), (3, vI x3)] [] S Q := by
  refine V_aload_n (pc2 := 19) (dk D_X13_handsOn 10 rfl) rfl (V_lg 0 rfl) rfl ?_
  refine V_iload_n (pc2 := 20) (dk D_X13_handsOn 11 rfl) rfl (V_lg 1 rfl) rfl ?_
  refine V_bipush (x := 10) (pc2 := 22) (dk D_X13_handsOn 12 rfl) (by decide) rfl ?_
  obtain ⟨h5, h⟩ := h
  obtain ⟨e1, he2, hc3⟩ := h
  refine V_callV (as := [_, _]) (st := []) (M' := MX13_arises) (ci := 13) (pc2 := 25) (dk D_X13_handsOn 13 rfl) ml_13_567 mv_X13_arises rfl rfl (by decide) rfl (Nat.le_of_ble_eq_true rfl) rfl he2 h5 hc3 (RV.k fun  S4 h => ?_)
  exact V_return (dk D_X13_handsOn 14 rfl) rfl h
def L_X13_injects : List (Nat × Instr × Nat) := [(0, .aload_n 0, 1), (1, .iload_n 1, 1), (2, .iload_n 2, 1), (3, .invokevirtual 563, 3), (6, .ifCond .eq 11, 3), (9, .aload_n 0, 1), (10, .iload_n 1, 1), (11, .bipush 10, 2), (13, .invokevirtual 567, 3), (16, .return_, 1), (17, .aload_n 0, 1), (18, .iload_n 3, 1), (19, .iload 4, 2), (21, .iload_n 1, 1), (22, .aload_n 0, 1), (23, .iload_n 1, 1), (24, .invokevirtual 522, 3), (27, .bipush (-9), 2), (29, .invokevirtual 525, 3), (32, .istore 5, 2), (34, .aload_n 0, 1), (35, .getfield 161, 3), (38, .iload_n 2, 1), (39, .iaload, 1), (40, .ifCond .ne 17, 3), (43, .aload_n 0, 1), (44, .iload_n 2, 1), (45, .iconst 5, 1), (46, .invokevirtual 513, 3), (49, .aload_n 0, 1), (50, .iload_n 1, 1), (51, .iload 5, 2), (53, .invokevirtual 529, 3), (56, .return_, 1), (57, .aload_n 0, 1), (58, .getfield 161, 3), (61, .iload_n 1, 1), (62, .iconst 3, 1), (63, .iastore, 1), (64, .aload_n 0, 1), (65, .getfield 182, 3), (68, .iload_n 1, 1), (69, .iconst 1, 1), (70, .iastore, 1), (71, .aload_n 0, 1), (72, .iload_n 1, 1), (73, .iload_n 2, 1), (74, .iload 5, 2), (76, .invokevirtual 573, 3), (79, .return_, 1)]
theorem D_X13_injects : dOk cX13_injects L_X13_injects = true := by decide +kernel
theorem w_X13_injects_0 {X : Cx} {d : Nat} {S : Mem} {Q : Res → Mem → Prop} (r0 : Nat) (x1 : Int32) (x2 : Int32) (x3 : Int32) (x4 : Int32) (h : (isK S r0 13) ∧ ∃ e1 : Nat, e1 + 1 ≤ d ∧ C X e1 MX13_isMisuse [vR r0, vI x1, vI x2] S (RI fun y4 S5 => ((y4 = 0 → (isK S5 r0 13) ∧ ∃ e8 : Nat, e8 + 1 ≤ d ∧ C X e8 MX13_placeOf [vR r0, vI x1] S5 (RI fun y11 S12 => (isK S12 r0 13) ∧ ∃ e14 : Nat, e14 + 1 ≤ d ∧ C X e14 MX13_failure [vR r0, vI x3, vI x4, vI x1, vI y11, vI (-9)] S12 (RI fun y17 S18 => (isK S18 r0 13) ∧ (isK S18 (gR S18 r0 49) 21) ∧ (vp_in x2 (gN S18 (gR S18 r0 49))) ∧ ((¬ (gI S18 (gR S18 r0 49) (x2 : Int32).toNatClampNeg) = 0 → (vp_in x1 (gN S18 (gR S18 r0 49))) ∧ ∀ S25 : Mem, S25 = uI S18 (gR S18 r0 49) ((x1 : Int32).toNatClampNeg) 3 → (isK S18 (gR S18 r0 56) 21) ∧ (vp_in x1 (gN S18 (gR S18 r0 56))) ∧ ∀ S28 : Mem, S28 = uI S25 (gR S18 r0 56) ((x1 : Int32).toNatClampNeg) 1 → ∃ e29 : Nat, e29 + 1 ≤ d ∧ C X e29 MX13_thrownInto [vR r0, vI x1, vI x2, vI y17] S28 (RV fun  S32 => Q (.inl none) S32)) ∧ ((gI S18 (gR S18 r0 49) (x2 : Int32).toNatClampNeg) = 0 → ∃ e33 : Nat, e33 + 1 ≤ d ∧ C X e33 MX13_over [vR r0, vI x2, vI 5] S18 (RV fun  S36 => (isK S36 r0 13) ∧ ∃ e37 : Nat, e37 + 1 ≤ d ∧ C X e37 MX13_raise [vR r0, vI x1, vI y17] S36 (RV fun  S40 => Q (.inl none) S40))))))) ∧ (¬ y4 = 0 → (isK S5 r0 13) ∧ ∃ e42 : Nat, e42 + 1 ≤ d ∧ C X e42 MX13_arises [vR r0, vI x1, vI 10] S5 (RV fun  S45 => Q (.inl none) S45))))) : V X d MX13_injects 0 [(0, vR r0), (1, vI x1), (2, vI x2), (3, vI x3), (4, vI x4)] [] S Q := by
  refine V_aload_n (pc2 := 1) (dk D_X13_injects 0 rfl) rfl (V_lg 0 rfl) rfl ?_
  refine V_iload_n (pc2 := 2) (dk D_X13_injects 1 rfl) rfl (V_lg 1 rfl) rfl ?_
  refine V_iload_n (pc2 := 3) (dk D_X13_injects 2 rfl) rfl (V_lg 2 rfl) rfl ?_
  obtain ⟨h6, h⟩ := h
  obtain ⟨e1, he2, hc3⟩ := h
  refine V_callV (as := [_, _]) (st := []) (M' := MX13_isMisuse) (ci := 13) (pc2 := 6) (dk D_X13_injects 3 rfl) ml_13_563 mv_X13_isMisuse rfl rfl (by decide) rfl (Nat.le_of_ble_eq_true rfl) rfl he2 h6 hc3 (RI.k fun y4 S5 h => ?_)
  refine V_ifeq (tgt := 17) (pc2 := 9) (dk D_X13_injects 4 rfl) (by decide) rfl (fun q7 => ?_) (fun q7 => ?_)
  · have h := h.1 q7
    refine V_aload_n (pc2 := 18) (dk D_X13_injects 10 rfl) rfl (V_lg 0 rfl) rfl ?_
    refine V_iload_n (pc2 := 19) (dk D_X13_injects 11 rfl) rfl (V_lg 3 rfl) rfl ?_
    refine V_iload (pc2 := 21) (dk D_X13_injects 12 rfl) (V_lg 4 rfl) rfl ?_
    refine V_iload_n (pc2 := 22) (dk D_X13_injects 13 rfl) rfl (V_lg 1 rfl) rfl ?_
    refine V_aload_n (pc2 := 23) (dk D_X13_injects 14 rfl) rfl (V_lg 0 rfl) rfl ?_
    refine V_iload_n (pc2 := 24) (dk D_X13_injects 15 rfl) rfl (V_lg 1 rfl) rfl ?_
    obtain ⟨h13, h⟩ := h
    obtain ⟨e8, he9, hc10⟩ := h
    refine V_callV (as := [_]) (st := [_, _, _, _]) (M' := MX13_placeOf) (ci := 13) (pc2 := 27) (dk D_X13_injects 16 rfl) ml_13_522 mv_X13_placeOf rfl rfl (by decide) rfl (Nat.le_of_ble_eq_true rfl) rfl he9 h13 hc10 (RI.k fun y11 S12 h => ?_)
    refine V_bipush (x := (-9)) (pc2 := 29) (dk D_X13_injects 17 rfl) (by decide) rfl ?_
    obtain ⟨h19, h⟩ := h
    obtain ⟨e14, he15, hc16⟩ := h
    refine V_callV (as := [_, _, _, _, _]) (st := []) (M' := MX13_failure) (ci := 13) (pc2 := 32) (dk D_X13_injects 18 rfl) ml_13_525 mv_X13_failure rfl rfl (by decide) rfl (Nat.le_of_ble_eq_true rfl) rfl he15 h19 hc16 (RI.k fun y17 S18 h => ?_)
    refine V_istore (pc2 := 34) (lv2 := [(0, _), (1, _), (2, _), (3, _), (4, _), (5, _)]) (dk D_X13_injects 19 rfl) (by decide) rfl rfl ?_
    refine V_aload_n (pc2 := 35) (dk D_X13_injects 20 rfl) rfl (V_lg 0 rfl) rfl ?_
    obtain ⟨h20, h⟩ := h
    refine V_getR kc13 (pc2 := 38) 49 (dk D_X13_injects 21 rfl) fl_13_161 (by decide) (fun _ => rfl) rfl h20 ?_
    refine V_iload_n (pc2 := 39) (dk D_X13_injects 22 rfl) rfl (V_lg 2 rfl) rfl ?_
    obtain ⟨h21, h⟩ := h
    obtain ⟨h22, h⟩ := h
    refine V_iald (pc2 := 40) (dk D_X13_injects 23 rfl) rfl h21 h22 ?_
    refine V_ifne (tgt := 57) (pc2 := 43) (dk D_X13_injects 24 rfl) (by decide) rfl (fun q23 => ?_) (fun q23 => ?_)
    · have h := h.1 q23
      refine V_aload_n (pc2 := 58) (dk D_X13_injects 34 rfl) rfl (V_lg 0 rfl) rfl ?_
      refine V_getR kc13 (pc2 := 61) 49 (dk D_X13_injects 35 rfl) fl_13_161 (by decide) (fun _ => rfl) rfl h20 ?_
      refine V_iload_n (pc2 := 62) (dk D_X13_injects 36 rfl) rfl (V_lg 1 rfl) rfl ?_
      refine V_iconst (x := 3) (pc2 := 63) (dk D_X13_injects 37 rfl) (by decide) rfl ?_
      obtain ⟨h24, h⟩ := h
      refine V_iast (pc2 := 64) (dk D_X13_injects 38 rfl) rfl h21 h24 ?_
      have h := h _ rfl
      refine V_aload_n (pc2 := 65) (dk D_X13_injects 39 rfl) rfl (V_lg 0 rfl) rfl ?_
      refine V_getR kc13 (pc2 := 68) 56 (dk D_X13_injects 40 rfl) fl_13_182 (by decide) (fun _ => rfl) rfl h20 ?_
      refine V_iload_n (pc2 := 69) (dk D_X13_injects 41 rfl) rfl (V_lg 1 rfl) rfl ?_
      refine V_iconst (x := 1) (pc2 := 70) (dk D_X13_injects 42 rfl) (by decide) rfl ?_
      obtain ⟨h26, h⟩ := h
      obtain ⟨h27, h⟩ := h
      refine V_iast (pc2 := 71) (dk D_X13_injects 43 rfl) rfl h26 h27 ?_
      have h := h _ rfl
      refine V_aload_n (pc2 := 72) (dk D_X13_injects 44 rfl) rfl (V_lg 0 rfl) rfl ?_
      refine V_iload_n (pc2 := 73) (dk D_X13_injects 45 rfl) rfl (V_lg 1 rfl) rfl ?_
      refine V_iload_n (pc2 := 74) (dk D_X13_injects 46 rfl) rfl (V_lg 2 rfl) rfl ?_
      refine V_iload (pc2 := 76) (dk D_X13_injects 47 rfl) (V_lg 5 rfl) rfl ?_
      obtain ⟨e29, he30, hc31⟩ := h
      refine V_callV (as := [_, _, _]) (st := []) (M' := MX13_thrownInto) (ci := 13) (pc2 := 79) (dk D_X13_injects 48 rfl) ml_13_573 mv_X13_thrownInto rfl rfl (by decide) rfl (Nat.le_of_ble_eq_true rfl) rfl he30 h20 hc31 (RV.k fun  S32 h => ?_)
      exact V_return (dk D_X13_injects 49 rfl) rfl h
    · have h := h.2 q23
      refine V_aload_n (pc2 := 44) (dk D_X13_injects 25 rfl) rfl (V_lg 0 rfl) rfl ?_
      refine V_iload_n (pc2 := 45) (dk D_X13_injects 26 rfl) rfl (V_lg 2 rfl) rfl ?_
      refine V_iconst (x := 5) (pc2 := 46) (dk D_X13_injects 27 rfl) (by decide) rfl ?_
      obtain ⟨e33, he34, hc35⟩ := h
      refine V_callV (as := [_, _]) (st := []) (M' := MX13_over) (ci := 13) (pc2 := 49) (dk D_X13_injects 28 rfl) ml_13_513 mv_X13_over rfl rfl (by decide) rfl (Nat.le_of_ble_eq_true rfl) rfl he34 h20 hc35 (RV.k fun  S36 h => ?_)
      refine V_aload_n (pc2 := 50) (dk D_X13_injects 29 rfl) rfl (V_lg 0 rfl) rfl ?_
      refine V_iload_n (pc2 := 51) (dk D_X13_injects 30 rfl) rfl (V_lg 1 rfl) rfl ?_
      refine V_iload (pc2 := 53) (dk D_X13_injects 31 rfl) (V_lg 5 rfl) rfl ?_
      obtain ⟨h41, h⟩ := h
      obtain ⟨e37, he38, hc39⟩ := h
      refine V_callV (as := [_, _]) (st := []) (M' := MX13_raise) (ci := 13) (pc2 := 56) (dk D_X13_injects 32 rfl) ml_13_529 mv_X13_raise rfl rfl (by decide) rfl (Nat.le_of_ble_eq_true rfl) rfl he38 h41 hc39 (RV.k fun  S40 h => ?_)
      exact V_return (dk D_X13_injects 33 rfl) rfl h
  · have h := h.2 q7
    refine V_aload_n (pc2 := 10) (dk D_X13_injects 5 rfl) rfl (V_lg 0 rfl) rfl ?_
    refine V_iload_n (pc2 := 11) (dk D_X13_injects 6 rfl) rfl (V_lg 1 rfl) rfl ?_
    refine V_bipush (x := 10) (pc2 := 13) (dk D_X13_injects 7 rfl) (by decide) rfl ?_
    obtain ⟨h46, h⟩ := h
    obtain ⟨e42, he43, hc44⟩ := h
    refine V_callV (as := [_, _]) (st := []) (M' := MX13_arises) (ci := 13) (pc2 := 16) (dk D_X13_injects 8 rfl) ml_13_567 mv_X13_arises rfl rfl (by decide) rfl (Nat.le_of_ble_eq_true rfl) rfl he43 h46 hc44 (RV.k fun  S45 h => ?_)
    exact V_return (dk D_X13_injects 9 rfl) rfl h
def L_X13_thrownInto : List (Nat × Instr × Nat) := [(0, .aload_n 0, 1), (1, .getfield 176, 3), (4, .iload_n 2, 1), (5, .iload_n 1, 1), (6, .iastore, 1), (7, .aload_n 0, 1), (8, .iload_n 1, 1), (9, .iload_n 2, 1), (10, .invokevirtual 516, 3), (13, .aload_n 0, 1), (14, .iload_n 2, 1), (15, .putfield 473, 3), (18, .aload_n 0, 1), (19, .getfield 161, 3), (22, .iload_n 2, 1), (23, .iconst 2, 1), (24, .iastore, 1), (25, .aload_n 0, 1), (26, .iload_n 2, 1), (27, .iload_n 3, 1), (28, .invokevirtual 529, 3), (31, .return_, 1)]
theorem D_X13_thrownInto : dOk cX13_thrownInto L_X13_thrownInto = true := by decide +kernel
theorem w_X13_thrownInto_0 {X : Cx} {d : Nat} {S : Mem} {Q : Res → Mem → Prop} (r0 : Nat) (x1 : Int32) (x2 : Int32) (x3 : Int32) (h : (isK S r0 13) ∧ (isK S (gR S r0 54) 21) ∧ (vp_in x2 (gN S (gR S r0 54))) ∧ ∀ S4 : Mem, S4 = uI S (gR S r0 54) ((x2 : Int32).toNatClampNeg) x1 → ∃ e5 : Nat, e5 + 1 ≤ d ∧ C X e5 MX13_hands [vR r0, vI x1, vI x2] S4 (RV fun  S8 => (isK S8 r0 13) ∧ ∀ S10 : Mem, S10 = uI S8 r0 77 x2 → (isK S8 (gR S8 r0 49) 21) ∧ (vp_in x2 (gN S8 (gR S8 r0 49))) ∧ ∀ S13 : Mem, S13 = uI S10 (gR S8 r0 49) ((x2 : Int32).toNatClampNeg) 2 → ∃ e14 : Nat, e14 + 1 ≤ d ∧ C X e14 MX13_raise [vR r0, vI x2, vI x3] S13 (RV fun  S17 => Q (.inl none) S17))) : V X d MX13_thrownInto 0 [(0, vR r0), (1, vI x1), (2, vI x2), (3, vI x3)] [] S Q := by
  refine V_aload_n (pc2 := 1) (dk D_X13_thrownInto 0 rfl) rfl (V_lg 0 rfl) rfl ?_
  obtain ⟨h1, h⟩ := h
  refine V_getR kc13 (pc2 := 4) 54 (dk D_X13_thrownInto 1 rfl) fl_13_176 (by decide) (fun _ => rfl) rfl h1 ?_
  refine V_iload_n (pc2 := 5) (dk D_X13_thrownInto 2 rfl) rfl (V_lg 2 rfl) rfl ?_
  refine V_iload_n (pc2 := 6) (dk D_X13_thrownInto 3 rfl) rfl (V_lg 1 rfl) rfl ?_
  obtain ⟨h2, h⟩ := h
  obtain ⟨h3, h⟩ := h
  refine V_iast (pc2 := 7) (dk D_X13_thrownInto 4 rfl) rfl h2 h3 ?_
  have h := h _ rfl
  refine V_aload_n (pc2 := 8) (dk D_X13_thrownInto 5 rfl) rfl (V_lg 0 rfl) rfl ?_
  refine V_iload_n (pc2 := 9) (dk D_X13_thrownInto 6 rfl) rfl (V_lg 1 rfl) rfl ?_
  refine V_iload_n (pc2 := 10) (dk D_X13_thrownInto 7 rfl) rfl (V_lg 2 rfl) rfl ?_
  obtain ⟨e5, he6, hc7⟩ := h
  refine V_callV (as := [_, _]) (st := []) (M' := MX13_hands) (ci := 13) (pc2 := 13) (dk D_X13_thrownInto 8 rfl) ml_13_516 mv_X13_hands rfl rfl (by decide) rfl (Nat.le_of_ble_eq_true rfl) rfl he6 h1 hc7 (RV.k fun  S8 h => ?_)
  refine V_aload_n (pc2 := 14) (dk D_X13_thrownInto 9 rfl) rfl (V_lg 0 rfl) rfl ?_
  refine V_iload_n (pc2 := 15) (dk D_X13_thrownInto 10 rfl) rfl (V_lg 2 rfl) rfl ?_
  obtain ⟨h9, h⟩ := h
  refine V_putI kc13 (pc2 := 18) 77 (dk D_X13_thrownInto 11 rfl) fl_13_473 (by decide) (Or.inl rfl) rfl rfl h9 ?_
  have h := h _ rfl
  refine V_aload_n (pc2 := 19) (dk D_X13_thrownInto 12 rfl) rfl (V_lg 0 rfl) rfl ?_
  refine V_getR kc13 (pc2 := 22) 49 (dk D_X13_thrownInto 13 rfl) fl_13_161 (by decide) (fun _ => rfl) rfl h9 ?_
  refine V_iload_n (pc2 := 23) (dk D_X13_thrownInto 14 rfl) rfl (V_lg 2 rfl) rfl ?_
  refine V_iconst (x := 2) (pc2 := 24) (dk D_X13_thrownInto 15 rfl) (by decide) rfl ?_
  obtain ⟨h11, h⟩ := h
  obtain ⟨h12, h⟩ := h
  refine V_iast (pc2 := 25) (dk D_X13_thrownInto 16 rfl) rfl h11 h12 ?_
  have h := h _ rfl
  refine V_aload_n (pc2 := 26) (dk D_X13_thrownInto 17 rfl) rfl (V_lg 0 rfl) rfl ?_
  refine V_iload_n (pc2 := 27) (dk D_X13_thrownInto 18 rfl) rfl (V_lg 2 rfl) rfl ?_
  refine V_iload_n (pc2 := 28) (dk D_X13_thrownInto 19 rfl) rfl (V_lg 3 rfl) rfl ?_
  obtain ⟨e14, he15, hc16⟩ := h
  refine V_callV (as := [_, _]) (st := []) (M' := MX13_raise) (ci := 13) (pc2 := 31) (dk D_X13_thrownInto 20 rfl) ml_13_529 mv_X13_raise rfl rfl (by decide) rfl (Nat.le_of_ble_eq_true rfl) rfl he15 h9 hc16 (RV.k fun  S17 h => ?_)
  exact V_return (dk D_X13_thrownInto 21 rfl) rfl h
def L_X13_shuts : List (Nat × Instr × Nat) := [(0, .aload_n 0, 1), (1, .iload_n 2, 1), (2, .invokevirtual 554, 3), (5, .ifCond .eq 12, 3), (8, .aload_n 0, 1), (9, .iload_n 2, 1), (10, .invokevirtual 510, 3), (13, .ifCond .eq 4, 3), (16, .return_, 1), (17, .aload_n 0, 1), (18, .iload_n 1, 1), (19, .iload_n 2, 1), (20, .invokevirtual 563, 3), (23, .ifCond .eq 11, 3), (26, .aload_n 0, 1), (27, .iload_n 1, 1), (28, .bipush 10, 2), (30, .invokevirtual 567, 3), (33, .return_, 1), (34, .aload_n 0, 1), (35, .getfield 161, 3), (38, .iload_n 2, 1), (39, .iaload, 1), (40, .ifCond .ne 11, 3), (43, .aload_n 0, 1), (44, .iload_n 2, 1), (45, .bipush 6, 2), (47, .invokevirtual 513, 3), (50, .return_, 1), (51, .aload_n 0, 1), (52, .getfield 161, 3), (55, .iload_n 1, 1), (56, .iconst 3, 1), (57, .iastore, 1), (58, .aload_n 0, 1), (59, .getfield 182, 3), (62, .iload_n 1, 1), (63, .iconst 3, 1), (64, .iastore, 1), (65, .aload_n 0, 1), (66, .getfield 185, 3), (69, .iload_n 2, 1), (70, .iconst 1, 1), (71, .bastore, 1), (72, .aload_n 0, 1), (73, .iload_n 1, 1), (74, .iload_n 2, 1), (75, .aload_n 0, 1), (76, .bipush 14, 2), (78, .iconst 0, 1), (79, .iload_n 1, 1), (80, .aload_n 0, 1), (81, .iload_n 1, 1), (82, .invokevirtual 522, 3), (85, .bipush (-9), 2), (87, .invokevirtual 525, 3), (90, .invokevirtual 573, 3), (93, .return_, 1)]
theorem D_X13_shuts : dOk cX13_shuts L_X13_shuts = true := by decide +kernel
theorem w_X13_shuts_0 {X : Cx} {d : Nat} {S : Mem} {Q : Res → Mem → Prop} (r0 : Nat) (x1 : Int32) (x2 : Int32) (h : (isK S r0 13) ∧ ∃ e1 : Nat, e1 + 1 ≤ d ∧ C X e1 MX13_isVoice [vR r0, vI x2] S (RI fun y4 S5 => ((y4 = 0 → V X d MX13_shuts 17 [(0, vR r0), (1, vI x1), (2, vI x2)] [] S5 Q) ∧ (¬ y4 = 0 → (isK S5 r0 13) ∧ ∃ e8 : Nat, e8 + 1 ≤ d ∧ C X e8 MX13_isOver [vR r0, vI x2] S5 (RI fun y11 S12 => ((y11 = 0 → V X d MX13_shuts 17 [(0, vR r0), (1, vI x1), (2, vI x2)] [] S12 Q) ∧ (¬ y11 = 0 → Q (.inl none) S12))))))) : V X d MX13_shuts 0 [(0, vR r0), (1, vI x1), (2, vI x2)] [] S Q := by
  refine V_aload_n (pc2 := 1) (dk D_X13_shuts 0 rfl) rfl (V_lg 0 rfl) rfl ?_
  refine V_iload_n (pc2 := 2) (dk D_X13_shuts 1 rfl) rfl (V_lg 2 rfl) rfl ?_
  obtain ⟨h6, h⟩ := h
  obtain ⟨e1, he2, hc3⟩ := h
  refine V_callV (as := [_]) (st := []) (M' := MX13_isVoice) (ci := 13) (pc2 := 5) (dk D_X13_shuts 2 rfl) ml_13_554 mv_X13_isVoice rfl rfl (by decide) rfl (Nat.le_of_ble_eq_true rfl) rfl he2 h6 hc3 (RI.k fun y4 S5 h => ?_)
  refine V_ifeq (tgt := 17) (pc2 := 8) (dk D_X13_shuts 3 rfl) (by decide) rfl (fun q7 => ?_) (fun q7 => ?_)
  · have h := h.1 q7
    exact h
  · have h := h.2 q7
    refine V_aload_n (pc2 := 9) (dk D_X13_shuts 4 rfl) rfl (V_lg 0 rfl) rfl ?_
    refine V_iload_n (pc2 := 10) (dk D_X13_shuts 5 rfl) rfl (V_lg 2 rfl) rfl ?_
    obtain ⟨h13, h⟩ := h
    obtain ⟨e8, he9, hc10⟩ := h
    refine V_callV (as := [_]) (st := []) (M' := MX13_isOver) (ci := 13) (pc2 := 13) (dk D_X13_shuts 6 rfl) ml_13_510 mv_X13_isOver rfl rfl (by decide) rfl (Nat.le_of_ble_eq_true rfl) rfl he9 h13 hc10 (RI.k fun y11 S12 h => ?_)
    refine V_ifeq (tgt := 17) (pc2 := 16) (dk D_X13_shuts 7 rfl) (by decide) rfl (fun q14 => ?_) (fun q14 => ?_)
    · have h := h.1 q14
      exact h
    · have h := h.2 q14
      exact V_return (dk D_X13_shuts 8 rfl) rfl h
theorem w_X13_shuts_17 {X : Cx} {d : Nat} {S : Mem} {Q : Res → Mem → Prop} (r0 : Nat) (x1 : Int32) (x2 : Int32) (h : (isK S r0 13) ∧ ∃ e1 : Nat, e1 + 1 ≤ d ∧ C X e1 MX13_isMisuse [vR r0, vI x1, vI x2] S (RI fun y4 S5 => ((y4 = 0 → (isK S5 r0 13) ∧ (isK S5 (gR S5 r0 49) 21) ∧ (vp_in x2 (gN S5 (gR S5 r0 49))) ∧ ((¬ (gI S5 (gR S5 r0 49) (x2 : Int32).toNatClampNeg) = 0 → (vp_in x1 (gN S5 (gR S5 r0 49))) ∧ ∀ S13 : Mem, S13 = uI S5 (gR S5 r0 49) ((x1 : Int32).toNatClampNeg) 3 → (isK S5 (gR S5 r0 56) 21) ∧ (vp_in x1 (gN S5 (gR S5 r0 56))) ∧ ∀ S16 : Mem, S16 = uI S13 (gR S5 r0 56) ((x1 : Int32).toNatClampNeg) 3 → (isK S5 (gR S5 r0 57) 23) ∧ (vp_in x2 (gN S5 (gR S5 r0 57))) ∧ ∀ S19 : Mem, S19 = uI S16 (gR S5 r0 57) ((x2 : Int32).toNatClampNeg) 1 → ∃ e20 : Nat, e20 + 1 ≤ d ∧ C X e20 MX13_placeOf [vR r0, vI x1] S19 (RI fun y23 S24 => (isK S24 r0 13) ∧ ∃ e25 : Nat, e25 + 1 ≤ d ∧ C X e25 MX13_failure [vR r0, vI 14, vI 0, vI x1, vI y23, vI (-9)] S24 (RI fun y28 S29 => (isK S29 r0 13) ∧ ∃ e31 : Nat, e31 + 1 ≤ d ∧ C X e31 MX13_thrownInto [vR r0, vI x1, vI x2, vI y28] S29 (RV fun  S34 => Q (.inl none) S34)))) ∧ ((gI S5 (gR S5 r0 49) (x2 : Int32).toNatClampNeg) = 0 → ∃ e36 : Nat, e36 + 1 ≤ d ∧ C X e36 MX13_over [vR r0, vI x2, vI 6] S5 (RV fun  S39 => Q (.inl none) S39)))) ∧ (¬ y4 = 0 → (isK S5 r0 13) ∧ ∃ e40 : Nat, e40 + 1 ≤ d ∧ C X e40 MX13_arises [vR r0, vI x1, vI 10] S5 (RV fun  S43 => Q (.inl none) S43))))) : V X d MX13_shuts 17 [(0, vR r0), (1, vI x1), (2, vI x2)] [] S Q := by
  refine V_aload_n (pc2 := 18) (dk D_X13_shuts 9 rfl) rfl (V_lg 0 rfl) rfl ?_
  refine V_iload_n (pc2 := 19) (dk D_X13_shuts 10 rfl) rfl (V_lg 1 rfl) rfl ?_
  refine V_iload_n (pc2 := 20) (dk D_X13_shuts 11 rfl) rfl (V_lg 2 rfl) rfl ?_
  obtain ⟨h6, h⟩ := h
  obtain ⟨e1, he2, hc3⟩ := h
  refine V_callV (as := [_, _]) (st := []) (M' := MX13_isMisuse) (ci := 13) (pc2 := 23) (dk D_X13_shuts 12 rfl) ml_13_563 mv_X13_isMisuse rfl rfl (by decide) rfl (Nat.le_of_ble_eq_true rfl) rfl he2 h6 hc3 (RI.k fun y4 S5 h => ?_)
  refine V_ifeq (tgt := 34) (pc2 := 26) (dk D_X13_shuts 13 rfl) (by decide) rfl (fun q7 => ?_) (fun q7 => ?_)
  · have h := h.1 q7
    refine V_aload_n (pc2 := 35) (dk D_X13_shuts 19 rfl) rfl (V_lg 0 rfl) rfl ?_
    obtain ⟨h8, h⟩ := h
    refine V_getR kc13 (pc2 := 38) 49 (dk D_X13_shuts 20 rfl) fl_13_161 (by decide) (fun _ => rfl) rfl h8 ?_
    refine V_iload_n (pc2 := 39) (dk D_X13_shuts 21 rfl) rfl (V_lg 2 rfl) rfl ?_
    obtain ⟨h9, h⟩ := h
    obtain ⟨h10, h⟩ := h
    refine V_iald (pc2 := 40) (dk D_X13_shuts 22 rfl) rfl h9 h10 ?_
    refine V_ifne (tgt := 51) (pc2 := 43) (dk D_X13_shuts 23 rfl) (by decide) rfl (fun q11 => ?_) (fun q11 => ?_)
    · have h := h.1 q11
      refine V_aload_n (pc2 := 52) (dk D_X13_shuts 29 rfl) rfl (V_lg 0 rfl) rfl ?_
      refine V_getR kc13 (pc2 := 55) 49 (dk D_X13_shuts 30 rfl) fl_13_161 (by decide) (fun _ => rfl) rfl h8 ?_
      refine V_iload_n (pc2 := 56) (dk D_X13_shuts 31 rfl) rfl (V_lg 1 rfl) rfl ?_
      refine V_iconst (x := 3) (pc2 := 57) (dk D_X13_shuts 32 rfl) (by decide) rfl ?_
      obtain ⟨h12, h⟩ := h
      refine V_iast (pc2 := 58) (dk D_X13_shuts 33 rfl) rfl h9 h12 ?_
      have h := h _ rfl
      refine V_aload_n (pc2 := 59) (dk D_X13_shuts 34 rfl) rfl (V_lg 0 rfl) rfl ?_
      refine V_getR kc13 (pc2 := 62) 56 (dk D_X13_shuts 35 rfl) fl_13_182 (by decide) (fun _ => rfl) rfl h8 ?_
      refine V_iload_n (pc2 := 63) (dk D_X13_shuts 36 rfl) rfl (V_lg 1 rfl) rfl ?_
      refine V_iconst (x := 3) (pc2 := 64) (dk D_X13_shuts 37 rfl) (by decide) rfl ?_
      obtain ⟨h14, h⟩ := h
      obtain ⟨h15, h⟩ := h
      refine V_iast (pc2 := 65) (dk D_X13_shuts 38 rfl) rfl h14 h15 ?_
      have h := h _ rfl
      refine V_aload_n (pc2 := 66) (dk D_X13_shuts 39 rfl) rfl (V_lg 0 rfl) rfl ?_
      refine V_getR kc13 (pc2 := 69) 57 (dk D_X13_shuts 40 rfl) fl_13_185 (by decide) (fun _ => rfl) rfl h8 ?_
      refine V_iload_n (pc2 := 70) (dk D_X13_shuts 41 rfl) rfl (V_lg 2 rfl) rfl ?_
      refine V_iconst (x := 1) (pc2 := 71) (dk D_X13_shuts 42 rfl) (by decide) rfl ?_
      obtain ⟨h17, h⟩ := h
      obtain ⟨h18, h⟩ := h
      refine V_zast (pc2 := 72) (dk D_X13_shuts 43 rfl) rfl h17 h18 (Or.inr rfl) ?_
      have h := h _ rfl
      refine V_aload_n (pc2 := 73) (dk D_X13_shuts 44 rfl) rfl (V_lg 0 rfl) rfl ?_
      refine V_iload_n (pc2 := 74) (dk D_X13_shuts 45 rfl) rfl (V_lg 1 rfl) rfl ?_
      refine V_iload_n (pc2 := 75) (dk D_X13_shuts 46 rfl) rfl (V_lg 2 rfl) rfl ?_
      refine V_aload_n (pc2 := 76) (dk D_X13_shuts 47 rfl) rfl (V_lg 0 rfl) rfl ?_
      refine V_bipush (x := 14) (pc2 := 78) (dk D_X13_shuts 48 rfl) (by decide) rfl ?_
      refine V_iconst (x := 0) (pc2 := 79) (dk D_X13_shuts 49 rfl) (by decide) rfl ?_
      refine V_iload_n (pc2 := 80) (dk D_X13_shuts 50 rfl) rfl (V_lg 1 rfl) rfl ?_
      refine V_aload_n (pc2 := 81) (dk D_X13_shuts 51 rfl) rfl (V_lg 0 rfl) rfl ?_
      refine V_iload_n (pc2 := 82) (dk D_X13_shuts 52 rfl) rfl (V_lg 1 rfl) rfl ?_
      obtain ⟨e20, he21, hc22⟩ := h
      refine V_callV (as := [_]) (st := [_, _, _, _, _, _, _]) (M' := MX13_placeOf) (ci := 13) (pc2 := 85) (dk D_X13_shuts 53 rfl) ml_13_522 mv_X13_placeOf rfl rfl (by decide) rfl (Nat.le_of_ble_eq_true rfl) rfl he21 h8 hc22 (RI.k fun y23 S24 h => ?_)
      refine V_bipush (x := (-9)) (pc2 := 87) (dk D_X13_shuts 54 rfl) (by decide) rfl ?_
      obtain ⟨h30, h⟩ := h
      obtain ⟨e25, he26, hc27⟩ := h
      refine V_callV (as := [_, _, _, _, _]) (st := [_, _, _]) (M' := MX13_failure) (ci := 13) (pc2 := 90) (dk D_X13_shuts 55 rfl) ml_13_525 mv_X13_failure rfl rfl (by decide) rfl (Nat.le_of_ble_eq_true rfl) rfl he26 h30 hc27 (RI.k fun y28 S29 h => ?_)
      obtain ⟨h35, h⟩ := h
      obtain ⟨e31, he32, hc33⟩ := h
      refine V_callV (as := [_, _, _]) (st := []) (M' := MX13_thrownInto) (ci := 13) (pc2 := 93) (dk D_X13_shuts 56 rfl) ml_13_573 mv_X13_thrownInto rfl rfl (by decide) rfl (Nat.le_of_ble_eq_true rfl) rfl he32 h35 hc33 (RV.k fun  S34 h => ?_)
      exact V_return (dk D_X13_shuts 57 rfl) rfl h
    · have h := h.2 q11
      refine V_aload_n (pc2 := 44) (dk D_X13_shuts 24 rfl) rfl (V_lg 0 rfl) rfl ?_
      refine V_iload_n (pc2 := 45) (dk D_X13_shuts 25 rfl) rfl (V_lg 2 rfl) rfl ?_
      refine V_bipush (x := 6) (pc2 := 47) (dk D_X13_shuts 26 rfl) (by decide) rfl ?_
      obtain ⟨e36, he37, hc38⟩ := h
      refine V_callV (as := [_, _]) (st := []) (M' := MX13_over) (ci := 13) (pc2 := 50) (dk D_X13_shuts 27 rfl) ml_13_513 mv_X13_over rfl rfl (by decide) rfl (Nat.le_of_ble_eq_true rfl) rfl he37 h8 hc38 (RV.k fun  S39 h => ?_)
      exact V_return (dk D_X13_shuts 28 rfl) rfl h
  · have h := h.2 q7
    refine V_aload_n (pc2 := 27) (dk D_X13_shuts 14 rfl) rfl (V_lg 0 rfl) rfl ?_
    refine V_iload_n (pc2 := 28) (dk D_X13_shuts 15 rfl) rfl (V_lg 1 rfl) rfl ?_
    refine V_bipush (x := 10) (pc2 := 30) (dk D_X13_shuts 16 rfl) (by decide) rfl ?_
    obtain ⟨h44, h⟩ := h
    obtain ⟨e40, he41, hc42⟩ := h
    refine V_callV (as := [_, _]) (st := []) (M' := MX13_arises) (ci := 13) (pc2 := 33) (dk D_X13_shuts 17 rfl) ml_13_567 mv_X13_arises rfl rfl (by decide) rfl (Nat.le_of_ble_eq_true rfl) rfl he41 h44 hc42 (RV.k fun  S43 h => ?_)
    exact V_return (dk D_X13_shuts 18 rfl) rfl h
def L_X13_reckon : List (Nat × Instr × Nat) := [(0, .iload_n 1, 1), (1, .tableswitch 70 4 9 #[39, 43, 47, 51, 55, 59], 39), (40, .iload_n 2, 1), (41, .iload_n 3, 1), (42, .iadd, 1), (43, .ireturn, 1), (44, .iload_n 2, 1), (45, .iload_n 3, 1), (46, .isub, 1), (47, .ireturn, 1), (48, .iload_n 2, 1), (49, .iload_n 3, 1), (50, .imul, 1), (51, .ireturn, 1), (52, .iload_n 2, 1), (53, .iload_n 3, 1), (54, .idiv, 1), (55, .ireturn, 1), (56, .iload_n 2, 1), (57, .iload_n 3, 1), (58, .irem, 1), (59, .ireturn, 1), (60, .iload_n 2, 1), (61, .iload_n 3, 1), (62, .if_icmp .ge 7, 3), (65, .iconst 1, 1), (66, .goto 4, 3), (69, .iconst 0, 1), (70, .ireturn, 1), (71, .iload_n 2, 1), (72, .iload_n 3, 1), (73, .if_icmp .ne 7, 3), (76, .iconst 1, 1), (77, .goto 4, 3), (80, .iconst 0, 1), (81, .ireturn, 1)]
theorem D_X13_reckon : dOk cX13_reckon L_X13_reckon = true := by decide +kernel
theorem w_X13_reckon_0 {X : Cx} {d : Nat} {S : Mem} {Q : Res → Mem → Prop} (r0 : Nat) (x1 : Int32) (x2 : Int32) (x3 : Int32) (h : ((x1 = 4 → Q (.inl (some (vI (x2 + x3)))) S) ∧ (x1 = 5 → Q (.inl (some (vI (x2 - x3)))) S) ∧ (x1 = 6 → Q (.inl (some (vI (x2 * x3)))) S) ∧ (x1 = 7 → (¬ (x3 : Int32) = 0) ∧ Q (.inl (some (vI (x2 / x3)))) S) ∧ (x1 = 8 → (¬ (x3 : Int32) = 0) ∧ Q (.inl (some (vI (x2 - x2 / x3 * x3)))) S) ∧ (x1 = 9 → ((x3 ≤ x2 → V X d MX13_reckon 70 [(0, vR r0), (1, vI x1), (2, vI x2), (3, vI x3)] [vI 0] S Q) ∧ (¬ x3 ≤ x2 → V X d MX13_reckon 70 [(0, vR r0), (1, vI x1), (2, vI x2), (3, vI x3)] [vI 1] S Q))) ∧ (¬ (x1 = 4 ∨ x1 = 5 ∨ x1 = 6 ∨ x1 = 7 ∨ x1 = 8 ∨ x1 = 9) → ((¬ x2 = x3 → V X d MX13_reckon 81 [(0, vR r0), (1, vI x1), (2, vI x2), (3, vI x3)] [vI 0] S Q) ∧ (x2 = x3 → V X d MX13_reckon 81 [(0, vR r0), (1, vI x1), (2, vI x2), (3, vI x3)] [vI 1] S Q))))) : V X d MX13_reckon 0 [(0, vR r0), (1, vI x1), (2, vI x2), (3, vI x3)] [] S Q := by
  refine V_iload_n (pc2 := 1) (dk D_X13_reckon 0 rfl) rfl (V_lg 1 rfl) rfl ?_
  refine V_table (dk D_X13_reckon 1 rfl) [40, 44, 48, 52, 56, 60] 71 (by decide) rfl (by decide) (fun q1 => ?_) (fun j2 hj q1 => ?_)
  · have h := h.2.2.2.2.2.2 (by rintro (hk | hk | hk | hk | hk | hk) <;> (rw [hk] at q1; revert q1; decide))
    refine V_iload_n (pc2 := 72) (dk D_X13_reckon 29 rfl) rfl (V_lg 2 rfl) rfl ?_
    refine V_iload_n (pc2 := 73) (dk D_X13_reckon 30 rfl) rfl (V_lg 3 rfl) rfl ?_
    refine V_cmpne (tgt := 80) (pc2 := 76) (dk D_X13_reckon 31 rfl) (by decide) rfl (fun q4 => ?_) (fun q4 => ?_)
    · have h := h.1 q4
      refine V_iconst (x := 0) (pc2 := 81) (dk D_X13_reckon 34 rfl) (by decide) rfl ?_
      exact h
    · have h := h.2 q4
      refine V_iconst (x := 1) (pc2 := 77) (dk D_X13_reckon 32 rfl) (by decide) rfl ?_
      refine V_goto (tgt := 81) (dk D_X13_reckon 33 rfl) (by decide) ?_
      exact h
  · have hj2 : j2 = 0 ∨ j2 = 1 ∨ j2 = 2 ∨ j2 = 3 ∨ j2 = 4 ∨ j2 = 5 := by simp at hj; omega
    clear hj
    rcases hj2 with rfl | rfl | rfl | rfl | rfl | rfl
    · have hx : x1 = 4 := Int32.toInt_inj.mp (by rw [q1]; decide)
      have h := h.1 hx
      refine V_iload_n (pc2 := 41) (dk D_X13_reckon 2 rfl) rfl (V_lg 2 rfl) rfl ?_
      refine V_iload_n (pc2 := 42) (dk D_X13_reckon 3 rfl) rfl (V_lg 3 rfl) rfl ?_
      refine V_iadd (pc2 := 43) (dk D_X13_reckon 4 rfl) rfl ?_
      exact V_ireturn (dk D_X13_reckon 5 rfl) rfl h
    · have hx : x1 = 5 := Int32.toInt_inj.mp (by rw [q1]; decide)
      have h := h.2.1 hx
      refine V_iload_n (pc2 := 45) (dk D_X13_reckon 6 rfl) rfl (V_lg 2 rfl) rfl ?_
      refine V_iload_n (pc2 := 46) (dk D_X13_reckon 7 rfl) rfl (V_lg 3 rfl) rfl ?_
      refine V_isub (pc2 := 47) (dk D_X13_reckon 8 rfl) rfl ?_
      exact V_ireturn (dk D_X13_reckon 9 rfl) rfl h
    · have hx : x1 = 6 := Int32.toInt_inj.mp (by rw [q1]; decide)
      have h := h.2.2.1 hx
      refine V_iload_n (pc2 := 49) (dk D_X13_reckon 10 rfl) rfl (V_lg 2 rfl) rfl ?_
      refine V_iload_n (pc2 := 50) (dk D_X13_reckon 11 rfl) rfl (V_lg 3 rfl) rfl ?_
      refine V_imul (pc2 := 51) (dk D_X13_reckon 12 rfl) rfl ?_
      exact V_ireturn (dk D_X13_reckon 13 rfl) rfl h
    · have hx : x1 = 7 := Int32.toInt_inj.mp (by rw [q1]; decide)
      have h := h.2.2.2.1 hx
      refine V_iload_n (pc2 := 53) (dk D_X13_reckon 14 rfl) rfl (V_lg 2 rfl) rfl ?_
      refine V_iload_n (pc2 := 54) (dk D_X13_reckon 15 rfl) rfl (V_lg 3 rfl) rfl ?_
      obtain ⟨h5, h⟩ := h
      refine V_idiv (pc2 := 55) (dk D_X13_reckon 16 rfl) rfl h5 ?_
      exact V_ireturn (dk D_X13_reckon 17 rfl) rfl h
    · have hx : x1 = 8 := Int32.toInt_inj.mp (by rw [q1]; decide)
      have h := h.2.2.2.2.1 hx
      refine V_iload_n (pc2 := 57) (dk D_X13_reckon 18 rfl) rfl (V_lg 2 rfl) rfl ?_
      refine V_iload_n (pc2 := 58) (dk D_X13_reckon 19 rfl) rfl (V_lg 3 rfl) rfl ?_
      obtain ⟨h6, h⟩ := h
      refine V_irem (pc2 := 59) (dk D_X13_reckon 20 rfl) rfl h6 ?_
      exact V_ireturn (dk D_X13_reckon 21 rfl) rfl h
    · have hx : x1 = 9 := Int32.toInt_inj.mp (by rw [q1]; decide)
      have h := h.2.2.2.2.2.1 hx
      refine V_iload_n (pc2 := 61) (dk D_X13_reckon 22 rfl) rfl (V_lg 2 rfl) rfl ?_
      refine V_iload_n (pc2 := 62) (dk D_X13_reckon 23 rfl) rfl (V_lg 3 rfl) rfl ?_
      refine V_cmpge (tgt := 69) (pc2 := 65) (dk D_X13_reckon 24 rfl) (by decide) rfl (fun q7 => ?_) (fun q7 => ?_)
      · have h := h.1 q7
        refine V_iconst (x := 0) (pc2 := 70) (dk D_X13_reckon 27 rfl) (by decide) rfl ?_
        exact h
      · have h := h.2 q7
        refine V_iconst (x := 1) (pc2 := 66) (dk D_X13_reckon 25 rfl) (by decide) rfl ?_
        refine V_goto (tgt := 70) (dk D_X13_reckon 26 rfl) (by decide) ?_
        exact h
theorem w_X13_reckon_70 {X : Cx} {d : Nat} {S : Mem} {Q : Res → Mem → Prop} (r0 : Nat) (x1 : Int32) (x2 : Int32) (x3 : Int32) (t0 : Int32) (h : Q (.inl (some (vI t0))) S) : V X d MX13_reckon 70 [(0, vR r0), (1, vI x1), (2, vI x2), (3, vI x3)] [vI t0] S Q := by
  exact V_ireturn (dk D_X13_reckon 28 rfl) rfl h
theorem w_X13_reckon_81 {X : Cx} {d : Nat} {S : Mem} {Q : Res → Mem → Prop} (r0 : Nat) (x1 : Int32) (x2 : Int32) (x3 : Int32) (t0 : Int32) (h : Q (.inl (some (vI t0))) S) : V X d MX13_reckon 81 [(0, vR r0), (1, vI x1), (2, vI x2), (3, vI x3)] [vI t0] S Q := by
  exact V_ireturn (dk D_X13_reckon 35 rfl) rfl h
def L_X13_goesOn : List (Nat × Instr × Nat) := [(0, .aload_n 0, 1), (1, .getfield 473, 3), (4, .istore_n 1, 1), (5, .aload_n 0, 1), (6, .iload_n 1, 1), (7, .invokevirtual 504, 3), (10, .istore_n 2, 1), (11, .aload_n 0, 1), (12, .getfield 201, 3), (15, .iload_n 2, 1), (16, .iaload, 1), (17, .istore_n 3, 1), (18, .aload_n 0, 1), (19, .getfield 95, 3), (22, .iload_n 3, 1), (23, .iaload, 1), (24, .istore 4, 2), (26, .aload_n 0, 1), (27, .getfield 98, 3), (30, .iload_n 3, 1), (31, .iaload, 1), (32, .istore 5, 2), (34, .aload_n 0, 1), (35, .getfield 201, 3), (38, .iload_n 2, 1), (39, .dup2, 1), (40, .iaload, 1), (41, .iconst 1, 1), (42, .iadd, 1), (43, .iastore, 1), (44, .aload_n 0, 1), (45, .getfield 92, 3), (48, .iload_n 3, 1), (49, .iaload, 1), (50, .istore 6, 2), (52, .iload 6, 2), (54, .iconst 4, 1), (55, .if_icmp .lt 69, 3), (58, .iload 6, 2), (60, .bipush 10, 2), (62, .if_icmp .gt 62, 3), (65, .aload_n 0, 1), (66, .iload_n 1, 1), (67, .invokevirtual 494, 3), (70, .istore 7, 2), (72, .aload_n 0, 1), (73, .iload_n 1, 1), (74, .invokevirtual 494, 3), (77, .istore 8, 2), (79, .iload 6, 2), (81, .bipush 7, 2), (83, .if_icmp .eq 10, 3), (86, .iload 6, 2), (88, .bipush 8, 2), (90, .if_icmp .ne 18, 3), (93, .iload 7, 2), (95, .ifCond .ne 13, 3), (98, .aload_n 0, 1), (99, .iload_n 1, 1), (100, .bipush 11, 2), (102, .invokevirtual 567, 3), (105, .goto 18, 3), (108, .aload_n 0, 1), (109, .iload_n 1, 1), (110, .aload_n 0, 1), (111, .iload 6, 2), (113, .iload 8, 2), (115, .iload 7, 2), (117, .invokevirtual 576, 3), (120, .invokevirtual 497, 3), (123, .return_, 1), (124, .iload 6, 2), (126, .tableswitch 361 0 20 #[98, 117, 127, 147, 361, 361, 361, 361, 361, 361, 361, 167, 181, 202, 211, 247, 260, 272, 295, 319, 341], 98), (224, .aload_n 0, 1), (225, .iload_n 1, 1), (226, .invokevirtual 579, 3), (229, .ifCond .eq 270, 3), (232, .aload_n 0, 1), (233, .getfield 204, 3), (236, .iload_n 2, 1), (237, .iload 4, 2), (239, .iastore, 1), (240, .goto 259, 3), (243, .aload_n 0, 1), (244, .iload_n 1, 1), (245, .iload 4, 2), (247, .invokevirtual 497, 3), (250, .goto 249, 3), (253, .aload_n 0, 1), (254, .iload_n 1, 1), (255, .aload_n 0, 1), (256, .getfield 213, 3), (259, .bipush 40, 2), (261, .iload_n 2, 1), (262, .imul, 1), (263, .iload 4, 2), (265, .iadd, 1), (266, .iaload, 1), (267, .invokevirtual 497, 3), (270, .goto 229, 3), (273, .aload_n 0, 1), (274, .getfield 213, 3), (277, .bipush 40, 2), (279, .iload_n 2, 1), (280, .imul, 1), (281, .iload 4, 2), (283, .iadd, 1), (284, .aload_n 0, 1), (285, .iload_n 1, 1), (286, .invokevirtual 494, 3), (289, .iastore, 1), (290, .goto 209, 3), (293, .aload_n 0, 1), (294, .iload_n 1, 1), (295, .aload_n 0, 1), (296, .iload_n 1, 1), (297, .invokevirtual 494, 3), (300, .ineg, 1), (301, .invokevirtual 497, 3), (304, .goto 195, 3), (307, .aload_n 0, 1), (308, .iload_n 1, 1), (309, .aload_n 0, 1), (310, .iload_n 1, 1), (311, .invokevirtual 494, 3), (314, .ifCond .ne 7, 3), (317, .iconst 1, 1), (318, .goto 4, 3), (321, .iconst 0, 1), (322, .invokevirtual 497, 3), (325, .goto 174, 3), (328, .aload_n 0, 1), (329, .iload_n 1, 1), (330, .iload_n 1, 1), (331, .invokevirtual 497, 3), (334, .goto 165, 3), (337, .aload_n 0, 1), (338, .iload_n 1, 1), (339, .invokevirtual 494, 3), (342, .istore 7, 2), (344, .aload_n 0, 1), (345, .iload_n 1, 1), (346, .aload_n 0, 1), (347, .iload 7, 2), (349, .invokevirtual 554, 3), (352, .ifCond .eq 13, 3), (355, .aload_n 0, 1), (356, .getfield 161, 3), (359, .iload 7, 2), (361, .iaload, 1), (362, .goto 5, 3), (365, .bipush 9, 2), (367, .invokevirtual 497, 3), (370, .goto 129, 3), (373, .aload_n 0, 1), (374, .iload_n 1, 1), (375, .aload_n 0, 1), (376, .iload_n 1, 1), (377, .invokevirtual 494, 3), (380, .invokevirtual 582, 3), (383, .goto 116, 3), (386, .aload_n 0, 1), (387, .iload_n 1, 1), (388, .iload 4, 2), (390, .iload 5, 2), (392, .invokevirtual 585, 3), (395, .goto 104, 3), (398, .aload_n 0, 1), (399, .iload_n 1, 1), (400, .invokevirtual 494, 3), (403, .istore 8, 2), (405, .aload_n 0, 1), (406, .iload_n 1, 1), (407, .aload_n 0, 1), (408, .iload_n 1, 1), (409, .invokevirtual 494, 3), (412, .iload 8, 2), (414, .iconst 1, 1), (415, .invokevirtual 588, 3), (418, .goto 81, 3), (421, .aload_n 0, 1), (422, .iload_n 1, 1), (423, .invokevirtual 494, 3), (426, .istore 9, 2), (428, .aload_n 0, 1), (429, .iload_n 1, 1), (430, .aload_n 0, 1), (431, .iload_n 1, 1), (432, .invokevirtual 494, 3), (435, .iload 4, 2), (437, .iload 9, 2), (439, .invokevirtual 591, 3), (442, .goto 57, 3), (445, .aload_n 0, 1), (446, .iload_n 1, 1), (447, .invokevirtual 494, 3), (450, .istore 10, 2), (452, .aload_n 0, 1), (453, .iload_n 1, 1), (454, .aload_n 0, 1), (455, .iload_n 1, 1), (456, .invokevirtual 494, 3), (459, .iload 10, 2), (461, .invokevirtual 594, 3), (464, .goto 35, 3), (467, .aload_n 0, 1), (468, .iload_n 1, 1), (469, .invokevirtual 579, 3), (472, .ifCond .eq 27, 3), (475, .aload_n 0, 1), (476, .iload_n 1, 1), (477, .iload 4, 2), (479, .iload 5, 2), (481, .invokevirtual 597, 3), (484, .goto 15, 3), (487, .aload_n 0, 1), (488, .iload_n 1, 1), (489, .iload_n 2, 1), (490, .iload 6, 2), (492, .iload 4, 2), (494, .iload 5, 2), (496, .invokevirtual 600, 3), (499, .return_, 1)]
theorem D_X13_goesOn : dOk cX13_goesOn L_X13_goesOn = true := by decide +kernel
set_option maxRecDepth 100000 in
theorem w_X13_goesOn_0 {X : Cx} {d : Nat} {S : Mem} {Q : Res → Mem → Prop} (r0 : Nat) (h : (isK S r0 13) ∧ ∃ e2 : Nat, e2 + 1 ≤ d ∧ C X e2 MX13_call [vR r0, vI (gI S r0 77)] S (RI fun y5 S6 => (isK S6 r0 13) ∧ (isK S6 (gR S6 r0 62) 21) ∧ (vp_in y5 (gN S6 (gR S6 r0 62))) ∧ (isK S6 (gR S6 r0 14) 21) ∧ (vp_in (gI S6 (gR S6 r0 62) (y5 : Int32).toNatClampNeg) (gN S6 (gR S6 r0 14))) ∧ (isK S6 (gR S6 r0 15) 21) ∧ (vp_in (gI S6 (gR S6 r0 62) (y5 : Int32).toNatClampNeg) (gN S6 (gR S6 r0 15))) ∧ (vp_in y5 (gN S6 (gR S6 r0 62))) ∧ (vp_in y5 (gN S6 (gR S6 r0 62))) ∧ ∀ S16 : Mem, S16 = uI S6 (gR S6 r0 62) ((y5 : Int32).toNatClampNeg) ((gI S6 (gR S6 r0 62) (y5 : Int32).toNatClampNeg) + 1) → (isK S6 (gR S6 r0 13) 21) ∧ (vp_in (gI S6 (gR S6 r0 62) (y5 : Int32).toNatClampNeg) (gN S6 (gR S6 r0 13))) ∧ (((gI S16 (gR S6 r0 13) ((gI S6 (gR S6 r0 62) (y5 : Int32).toNatClampNeg) : Int32).toNatClampNeg) < 4 → V X d MX13_goesOn 124 [(0, vR r0), (1, vI (gI S r0 77)), (2, vI y5), (3, vI (gI S6 (gR S6 r0 62) (y5 : Int32).toNatClampNeg)), (4, vI (gI S6 (gR S6 r0 14) ((gI S6 (gR S6 r0 62) (y5 : Int32).toNatClampNeg) : Int32).toNatClampNeg)), (5, vI (gI S6 (gR S6 r0 15) ((gI S6 (gR S6 r0 62) (y5 : Int32).toNatClampNeg) : Int32).toNatClampNeg)), (6, vI (gI S16 (gR S6 r0 13) ((gI S6 (gR S6 r0 62) (y5 : Int32).toNatClampNeg) : Int32).toNatClampNeg))] [] S16 Q) ∧ (¬ (gI S16 (gR S6 r0 13) ((gI S6 (gR S6 r0 62) (y5 : Int32).toNatClampNeg) : Int32).toNatClampNeg) < 4 → ((10 < (gI S16 (gR S6 r0 13) ((gI S6 (gR S6 r0 62) (y5 : Int32).toNatClampNeg) : Int32).toNatClampNeg) → V X d MX13_goesOn 124 [(0, vR r0), (1, vI (gI S r0 77)), (2, vI y5), (3, vI (gI S6 (gR S6 r0 62) (y5 : Int32).toNatClampNeg)), (4, vI (gI S6 (gR S6 r0 14) ((gI S6 (gR S6 r0 62) (y5 : Int32).toNatClampNeg) : Int32).toNatClampNeg)), (5, vI (gI S6 (gR S6 r0 15) ((gI S6 (gR S6 r0 62) (y5 : Int32).toNatClampNeg) : Int32).toNatClampNeg)), (6, vI (gI S16 (gR S6 r0 13) ((gI S6 (gR S6 r0 62) (y5 : Int32).toNatClampNeg) : Int32).toNatClampNeg))] [] S16 Q) ∧ (¬ 10 < (gI S16 (gR S6 r0 13) ((gI S6 (gR S6 r0 62) (y5 : Int32).toNatClampNeg) : Int32).toNatClampNeg) → ∃ e21 : Nat, e21 + 1 ≤ d ∧ C X e21 MX13_pop [vR r0, vI (gI S r0 77)] S16 (RI fun y24 S25 => (isK S25 r0 13) ∧ ∃ e26 : Nat, e26 + 1 ≤ d ∧ C X e26 MX13_pop [vR r0, vI (gI S r0 77)] S25 (RI fun y29 S30 => (((gI S16 (gR S6 r0 13) ((gI S6 (gR S6 r0 62) (y5 : Int32).toNatClampNeg) : Int32).toNatClampNeg) = 7 → V X d MX13_goesOn 93 [(0, vR r0), (1, vI (gI S r0 77)), (2, vI y5), (3, vI (gI S6 (gR S6 r0 62) (y5 : Int32).toNatClampNeg)), (4, vI (gI S6 (gR S6 r0 14) ((gI S6 (gR S6 r0 62) (y5 : Int32).toNatClampNeg) : Int32).toNatClampNeg)), (5, vI (gI S6 (gR S6 r0 15) ((gI S6 (gR S6 r0 62) (y5 : Int32).toNatClampNeg) : Int32).toNatClampNeg)), (6, vI (gI S16 (gR S6 r0 13) ((gI S6 (gR S6 r0 62) (y5 : Int32).toNatClampNeg) : Int32).toNatClampNeg)), (7, vI y24), (8, vI y29)] [] S30 Q) ∧ (¬ (gI S16 (gR S6 r0 13) ((gI S6 (gR S6 r0 62) (y5 : Int32).toNatClampNeg) : Int32).toNatClampNeg) = 7 → ((¬ (gI S16 (gR S6 r0 13) ((gI S6 (gR S6 r0 62) (y5 : Int32).toNatClampNeg) : Int32).toNatClampNeg) = 8 → V X d MX13_goesOn 108 [(0, vR r0), (1, vI (gI S r0 77)), (2, vI y5), (3, vI (gI S6 (gR S6 r0 62) (y5 : Int32).toNatClampNeg)), (4, vI (gI S6 (gR S6 r0 14) ((gI S6 (gR S6 r0 62) (y5 : Int32).toNatClampNeg) : Int32).toNatClampNeg)), (5, vI (gI S6 (gR S6 r0 15) ((gI S6 (gR S6 r0 62) (y5 : Int32).toNatClampNeg) : Int32).toNatClampNeg)), (6, vI (gI S16 (gR S6 r0 13) ((gI S6 (gR S6 r0 62) (y5 : Int32).toNatClampNeg) : Int32).toNatClampNeg)), (7, vI y24), (8, vI y29)] [] S30 Q) ∧ ((gI S16 (gR S6 r0 13) ((gI S6 (gR S6 r0 62) (y5 : Int32).toNatClampNeg) : Int32).toNatClampNeg) = 8 → V X d MX13_goesOn 93 [(0, vR r0), (1, vI (gI S r0 77)), (2, vI y5), (3, vI (gI S6 (gR S6 r0 62) (y5 : Int32).toNatClampNeg)), (4, vI (gI S6 (gR S6 r0 14) ((gI S6 (gR S6 r0 62) (y5 : Int32).toNatClampNeg) : Int32).toNatClampNeg)), (5, vI (gI S6 (gR S6 r0 15) ((gI S6 (gR S6 r0 62) (y5 : Int32).toNatClampNeg) : Int32).toNatClampNeg)), (6, vI (gI S16 (gR S6 r0 13) ((gI S6 (gR S6 r0 62) (y5 : Int32).toNatClampNeg) : Int32).toNatClampNeg)), (7, vI y24), (8, vI y29)] [] S30 Q)))))))))))) : V X d MX13_goesOn 0 [(0, vR r0)] [] S Q := by
  refine V_aload_n (pc2 := 1) (dk D_X13_goesOn 0 rfl) rfl (V_lg 0 rfl) rfl ?_
  obtain ⟨h1, h⟩ := h
  refine V_getI kc13 (pc2 := 4) 77 (dk D_X13_goesOn 1 rfl) fl_13_473 (by decide) (fun _ => rfl) rfl h1 ?_
  refine V_istore_n (pc2 := 5) (lv2 := [(0, _), (1, _)]) (dk D_X13_goesOn 2 rfl) rfl (by decide) rfl rfl ?_
  refine V_aload_n (pc2 := 6) (dk D_X13_goesOn 3 rfl) rfl (V_lg 0 rfl) rfl ?_
  refine V_iload_n (pc2 := 7) (dk D_X13_goesOn 4 rfl) rfl (V_lg 1 rfl) rfl ?_
  obtain ⟨e2, he3, hc4⟩ := h
  refine V_callV (as := [_]) (st := []) (M' := MX13_call) (ci := 13) (pc2 := 10) (dk D_X13_goesOn 5 rfl) ml_13_504 mv_X13_call rfl rfl (by decide) rfl (Nat.le_of_ble_eq_true rfl) rfl he3 h1 hc4 (RI.k fun y5 S6 h => ?_)
  refine V_istore_n (pc2 := 11) (lv2 := [(0, _), (1, _), (2, _)]) (dk D_X13_goesOn 6 rfl) rfl (by decide) rfl rfl ?_
  refine V_aload_n (pc2 := 12) (dk D_X13_goesOn 7 rfl) rfl (V_lg 0 rfl) rfl ?_
  obtain ⟨h7, h⟩ := h
  refine V_getR kc13 (pc2 := 15) 62 (dk D_X13_goesOn 8 rfl) fl_13_201 (by decide) (fun _ => rfl) rfl h7 ?_
  refine V_iload_n (pc2 := 16) (dk D_X13_goesOn 9 rfl) rfl (V_lg 2 rfl) rfl ?_
  obtain ⟨h8, h⟩ := h
  obtain ⟨h9, h⟩ := h
  refine V_iald (pc2 := 17) (dk D_X13_goesOn 10 rfl) rfl h8 h9 ?_
  refine V_istore_n (pc2 := 18) (lv2 := [(0, _), (1, _), (2, _), (3, _)]) (dk D_X13_goesOn 11 rfl) rfl (by decide) rfl rfl ?_
  refine V_aload_n (pc2 := 19) (dk D_X13_goesOn 12 rfl) rfl (V_lg 0 rfl) rfl ?_
  refine V_getR kc13 (pc2 := 22) 14 (dk D_X13_goesOn 13 rfl) fl_13_95 (by decide) (fun _ => rfl) rfl h7 ?_
  refine V_iload_n (pc2 := 23) (dk D_X13_goesOn 14 rfl) rfl (V_lg 3 rfl) rfl ?_
  obtain ⟨h10, h⟩ := h
  obtain ⟨h11, h⟩ := h
  refine V_iald (pc2 := 24) (dk D_X13_goesOn 15 rfl) rfl h10 h11 ?_
  refine V_istore (pc2 := 26) (lv2 := [(0, _), (1, _), (2, _), (3, _), (4, _)]) (dk D_X13_goesOn 16 rfl) (by decide) rfl rfl ?_
  refine V_aload_n (pc2 := 27) (dk D_X13_goesOn 17 rfl) rfl (V_lg 0 rfl) rfl ?_
  refine V_getR kc13 (pc2 := 30) 15 (dk D_X13_goesOn 18 rfl) fl_13_98 (by decide) (fun _ => rfl) rfl h7 ?_
  refine V_iload_n (pc2 := 31) (dk D_X13_goesOn 19 rfl) rfl (V_lg 3 rfl) rfl ?_
  obtain ⟨h12, h⟩ := h
  obtain ⟨h13, h⟩ := h
  refine V_iald (pc2 := 32) (dk D_X13_goesOn 20 rfl) rfl h12 h13 ?_
  refine V_istore (pc2 := 34) (lv2 := [(0, _), (1, _), (2, _), (3, _), (4, _), (5, _)]) (dk D_X13_goesOn 21 rfl) (by decide) rfl rfl ?_
  refine V_aload_n (pc2 := 35) (dk D_X13_goesOn 22 rfl) rfl (V_lg 0 rfl) rfl ?_
  refine V_getR kc13 (pc2 := 38) 62 (dk D_X13_goesOn 23 rfl) fl_13_201 (by decide) (fun _ => rfl) rfl h7 ?_
  refine V_iload_n (pc2 := 39) (dk D_X13_goesOn 24 rfl) rfl (V_lg 2 rfl) rfl ?_
  refine V_dup2 (pc2 := 40) (dk D_X13_goesOn 25 rfl) rfl rfl rfl ?_
  obtain ⟨h14, h⟩ := h
  refine V_iald (pc2 := 41) (dk D_X13_goesOn 26 rfl) rfl h8 h14 ?_
  refine V_iconst (x := 1) (pc2 := 42) (dk D_X13_goesOn 27 rfl) (by decide) rfl ?_
  refine V_iadd (pc2 := 43) (dk D_X13_goesOn 28 rfl) rfl ?_
  obtain ⟨h15, h⟩ := h
  refine V_iast (pc2 := 44) (dk D_X13_goesOn 29 rfl) rfl h8 h15 ?_
  have h := h _ rfl
  refine V_aload_n (pc2 := 45) (dk D_X13_goesOn 30 rfl) rfl (V_lg 0 rfl) rfl ?_
  refine V_getR kc13 (pc2 := 48) 13 (dk D_X13_goesOn 31 rfl) fl_13_92 (by decide) (fun _ => rfl) rfl h7 ?_
  refine V_iload_n (pc2 := 49) (dk D_X13_goesOn 32 rfl) rfl (V_lg 3 rfl) rfl ?_
  obtain ⟨h17, h⟩ := h
  obtain ⟨h18, h⟩ := h
  refine V_iald (pc2 := 50) (dk D_X13_goesOn 33 rfl) rfl h17 h18 ?_
  refine V_istore (pc2 := 52) (lv2 := [(0, _), (1, _), (2, _), (3, _), (4, _), (5, _), (6, _)]) (dk D_X13_goesOn 34 rfl) (by decide) rfl rfl ?_
  refine V_iload (pc2 := 54) (dk D_X13_goesOn 35 rfl) (V_lg 6 rfl) rfl ?_
  refine V_iconst (x := 4) (pc2 := 55) (dk D_X13_goesOn 36 rfl) (by decide) rfl ?_
  refine V_cmplt (tgt := 124) (pc2 := 58) (dk D_X13_goesOn 37 rfl) (by decide) rfl (fun q19 => ?_) (fun q19 => ?_)
  · have h := h.1 q19
    exact h
  · have h := h.2 q19
    refine V_iload (pc2 := 60) (dk D_X13_goesOn 38 rfl) (V_lg 6 rfl) rfl ?_
    refine V_bipush (x := 10) (pc2 := 62) (dk D_X13_goesOn 39 rfl) (by decide) rfl ?_
    refine V_cmpgt (tgt := 124) (pc2 := 65) (dk D_X13_goesOn 40 rfl) (by decide) rfl (fun q20 => ?_) (fun q20 => ?_)
    · have h := h.1 q20
      exact h
    · have h := h.2 q20
      refine V_aload_n (pc2 := 66) (dk D_X13_goesOn 41 rfl) rfl (V_lg 0 rfl) rfl ?_
      refine V_iload_n (pc2 := 67) (dk D_X13_goesOn 42 rfl) rfl (V_lg 1 rfl) rfl ?_
      obtain ⟨e21, he22, hc23⟩ := h
      refine V_callV (as := [_]) (st := []) (M' := MX13_pop) (ci := 13) (pc2 := 70) (dk D_X13_goesOn 43 rfl) ml_13_494 mv_X13_pop rfl rfl (by decide) rfl (Nat.le_of_ble_eq_true rfl) rfl he22 h7 hc23 (RI.k fun y24 S25 h => ?_)
      refine V_istore (pc2 := 72) (lv2 := [(0, _), (1, _), (2, _), (3, _), (4, _), (5, _), (6, _), (7, _)]) (dk D_X13_goesOn 44 rfl) (by decide) rfl rfl ?_
      refine V_aload_n (pc2 := 73) (dk D_X13_goesOn 45 rfl) rfl (V_lg 0 rfl) rfl ?_
      refine V_iload_n (pc2 := 74) (dk D_X13_goesOn 46 rfl) rfl (V_lg 1 rfl) rfl ?_
      obtain ⟨h31, h⟩ := h
      obtain ⟨e26, he27, hc28⟩ := h
      refine V_callV (as := [_]) (st := []) (M' := MX13_pop) (ci := 13) (pc2 := 77) (dk D_X13_goesOn 47 rfl) ml_13_494 mv_X13_pop rfl rfl (by decide) rfl (Nat.le_of_ble_eq_true rfl) rfl he27 h31 hc28 (RI.k fun y29 S30 h => ?_)
      refine V_istore (pc2 := 79) (lv2 := [(0, _), (1, _), (2, _), (3, _), (4, _), (5, _), (6, _), (7, _), (8, _)]) (dk D_X13_goesOn 48 rfl) (by decide) rfl rfl ?_
      refine V_iload (pc2 := 81) (dk D_X13_goesOn 49 rfl) (V_lg 6 rfl) rfl ?_
      refine V_bipush (x := 7) (pc2 := 83) (dk D_X13_goesOn 50 rfl) (by decide) rfl ?_
      refine V_cmpeq (tgt := 93) (pc2 := 86) (dk D_X13_goesOn 51 rfl) (by decide) rfl (fun q32 => ?_) (fun q32 => ?_)
      · have h := h.1 q32
        exact h
      · have h := h.2 q32
        refine V_iload (pc2 := 88) (dk D_X13_goesOn 52 rfl) (V_lg 6 rfl) rfl ?_
        refine V_bipush (x := 8) (pc2 := 90) (dk D_X13_goesOn 53 rfl) (by decide) rfl ?_
        refine V_cmpne (tgt := 108) (pc2 := 93) (dk D_X13_goesOn 54 rfl) (by decide) rfl (fun q33 => ?_) (fun q33 => ?_)
        · have h := h.1 q33
          exact h
        · have h := h.2 q33
          exact h
theorem w_X13_goesOn_93 {X : Cx} {d : Nat} {S : Mem} {Q : Res → Mem → Prop} (r0 : Nat) (x1 : Int32) (x2 : Int32) (x3 : Int32) (x4 : Int32) (x5 : Int32) (x6 : Int32) (x7 : Int32) (x8 : Int32) (h : ((¬ x7 = 0 → V X d MX13_goesOn 108 [(0, vR r0), (1, vI x1), (2, vI x2), (3, vI x3), (4, vI x4), (5, vI x5), (6, vI x6), (7, vI x7), (8, vI x8)] [] S Q) ∧ (x7 = 0 → (isK S r0 13) ∧ ∃ e2 : Nat, e2 + 1 ≤ d ∧ C X e2 MX13_arises [vR r0, vI x1, vI 11] S (RV fun  S5 => V X d MX13_goesOn 123 [(0, vR r0), (1, vI x1), (2, vI x2), (3, vI x3), (4, vI x4), (5, vI x5), (6, vI x6), (7, vI x7), (8, vI x8)] [] S5 Q)))) : V X d MX13_goesOn 93 [(0, vR r0), (1, vI x1), (2, vI x2), (3, vI x3), (4, vI x4), (5, vI x5), (6, vI x6), (7, vI x7), (8, vI x8)] [] S Q := by
  refine V_iload (pc2 := 95) (dk D_X13_goesOn 55 rfl) (V_lg 7 rfl) rfl ?_
  refine V_ifne (tgt := 108) (pc2 := 98) (dk D_X13_goesOn 56 rfl) (by decide) rfl (fun q1 => ?_) (fun q1 => ?_)
  · have h := h.1 q1
    exact h
  · have h := h.2 q1
    refine V_aload_n (pc2 := 99) (dk D_X13_goesOn 57 rfl) rfl (V_lg 0 rfl) rfl ?_
    refine V_iload_n (pc2 := 100) (dk D_X13_goesOn 58 rfl) rfl (V_lg 1 rfl) rfl ?_
    refine V_bipush (x := 11) (pc2 := 102) (dk D_X13_goesOn 59 rfl) (by decide) rfl ?_
    obtain ⟨h6, h⟩ := h
    obtain ⟨e2, he3, hc4⟩ := h
    refine V_callV (as := [_, _]) (st := []) (M' := MX13_arises) (ci := 13) (pc2 := 105) (dk D_X13_goesOn 60 rfl) ml_13_567 mv_X13_arises rfl rfl (by decide) rfl (Nat.le_of_ble_eq_true rfl) rfl he3 h6 hc4 (RV.k fun  S5 h => ?_)
    refine V_goto (tgt := 123) (dk D_X13_goesOn 61 rfl) (by decide) ?_
    exact h
theorem w_X13_goesOn_108 {X : Cx} {d : Nat} {S : Mem} {Q : Res → Mem → Prop} (r0 : Nat) (x1 : Int32) (x2 : Int32) (x3 : Int32) (x4 : Int32) (x5 : Int32) (x6 : Int32) (x7 : Int32) (x8 : Int32) (h : (isK S r0 13) ∧ ∃ e1 : Nat, e1 + 1 ≤ d ∧ C X e1 MX13_reckon [vR r0, vI x6, vI x8, vI x7] S (RI fun y4 S5 => (isK S5 r0 13) ∧ ∃ e7 : Nat, e7 + 1 ≤ d ∧ C X e7 MX13_push [vR r0, vI x1, vI y4] S5 (RV fun  S10 => V X d MX13_goesOn 123 [(0, vR r0), (1, vI x1), (2, vI x2), (3, vI x3), (4, vI x4), (5, vI x5), (6, vI x6), (7, vI x7), (8, vI x8)] [] S10 Q))) : V X d MX13_goesOn 108 [(0, vR r0), (1, vI x1), (2, vI x2), (3, vI x3), (4, vI x4), (5, vI x5), (6, vI x6), (7, vI x7), (8, vI x8)] [] S Q := by
  refine V_aload_n (pc2 := 109) (dk D_X13_goesOn 62 rfl) rfl (V_lg 0 rfl) rfl ?_
  refine V_iload_n (pc2 := 110) (dk D_X13_goesOn 63 rfl) rfl (V_lg 1 rfl) rfl ?_
  refine V_aload_n (pc2 := 111) (dk D_X13_goesOn 64 rfl) rfl (V_lg 0 rfl) rfl ?_
  refine V_iload (pc2 := 113) (dk D_X13_goesOn 65 rfl) (V_lg 6 rfl) rfl ?_
  refine V_iload (pc2 := 115) (dk D_X13_goesOn 66 rfl) (V_lg 8 rfl) rfl ?_
  refine V_iload (pc2 := 117) (dk D_X13_goesOn 67 rfl) (V_lg 7 rfl) rfl ?_
  obtain ⟨h6, h⟩ := h
  obtain ⟨e1, he2, hc3⟩ := h
  refine V_callV (as := [_, _, _]) (st := [_, _]) (M' := MX13_reckon) (ci := 13) (pc2 := 120) (dk D_X13_goesOn 68 rfl) ml_13_576 mv_X13_reckon rfl rfl (by decide) rfl (Nat.le_of_ble_eq_true rfl) rfl he2 h6 hc3 (RI.k fun y4 S5 h => ?_)
  obtain ⟨h11, h⟩ := h
  obtain ⟨e7, he8, hc9⟩ := h
  refine V_callV (as := [_, _]) (st := []) (M' := MX13_push) (ci := 13) (pc2 := 123) (dk D_X13_goesOn 69 rfl) ml_13_497 mv_X13_push rfl rfl (by decide) rfl (Nat.le_of_ble_eq_true rfl) rfl he8 h11 hc9 (RV.k fun  S10 h => ?_)
  exact h
theorem w_X13_goesOn_123 {X : Cx} {d : Nat} {S : Mem} {Q : Res → Mem → Prop} (r0 : Nat) (x1 : Int32) (x2 : Int32) (x3 : Int32) (x4 : Int32) (x5 : Int32) (x6 : Int32) (x7 : Int32) (x8 : Int32) (h : Q (.inl none) S) : V X d MX13_goesOn 123 [(0, vR r0), (1, vI x1), (2, vI x2), (3, vI x3), (4, vI x4), (5, vI x5), (6, vI x6), (7, vI x7), (8, vI x8)] [] S Q := by
  exact V_return (dk D_X13_goesOn 70 rfl) rfl h
set_option maxRecDepth 100000 in
theorem w_X13_goesOn_124 {X : Cx} {d : Nat} {S : Mem} {Q : Res → Mem → Prop} (r0 : Nat) (x1 : Int32) (x2 : Int32) (x3 : Int32) (x4 : Int32) (x5 : Int32) (x6 : Int32) (h : ((x6 = 0 → (isK S r0 13) ∧ ∃ e13 : Nat, e13 + 1 ≤ d ∧ C X e13 MX13_step [vR r0, vI x1] S (RI fun y16 S17 => ((y16 = 0 → V X d MX13_goesOn 499 [(0, vR r0), (1, vI x1), (2, vI x2), (3, vI x3), (4, vI x4), (5, vI x5), (6, vI x6)] [] S17 Q) ∧ (¬ y16 = 0 → (isK S17 r0 13) ∧ (isK S17 (gR S17 r0 63) 21) ∧ (vp_in x2 (gN S17 (gR S17 r0 63))) ∧ ∀ S23 : Mem, S23 = uI S17 (gR S17 r0 63) ((x2 : Int32).toNatClampNeg) x4 → V X d MX13_goesOn 499 [(0, vR r0), (1, vI x1), (2, vI x2), (3, vI x3), (4, vI x4), (5, vI x5), (6, vI x6)] [] S23 Q)))) ∧ (x6 = 1 → (isK S r0 13) ∧ ∃ e24 : Nat, e24 + 1 ≤ d ∧ C X e24 MX13_push [vR r0, vI x1, vI x4] S (RV fun  S27 => V X d MX13_goesOn 499 [(0, vR r0), (1, vI x1), (2, vI x2), (3, vI x3), (4, vI x4), (5, vI x5), (6, vI x6)] [] S27 Q)) ∧ (x6 = 2 → (isK S r0 13) ∧ (isK S (gR S r0 66) 21) ∧ (vp_in ((40 * x2) + x4) (gN S (gR S r0 66))) ∧ ∃ e32 : Nat, e32 + 1 ≤ d ∧ C X e32 MX13_push [vR r0, vI x1, vI (gI S (gR S r0 66) (((40 * x2) + x4) : Int32).toNatClampNeg)] S (RV fun  S35 => V X d MX13_goesOn 499 [(0, vR r0), (1, vI x1), (2, vI x2), (3, vI x3), (4, vI x4), (5, vI x5), (6, vI x6)] [] S35 Q)) ∧ (x6 = 3 → (isK S r0 13) ∧ ∃ e37 : Nat, e37 + 1 ≤ d ∧ C X e37 MX13_pop [vR r0, vI x1] S (RI fun y40 S41 => (isK S41 (gR S r0 66) 21) ∧ (vp_in ((40 * x2) + x4) (gN S41 (gR S r0 66))) ∧ ∀ S44 : Mem, S44 = uI S41 (gR S r0 66) ((((40 * x2) + x4) : Int32).toNatClampNeg) y40 → V X d MX13_goesOn 499 [(0, vR r0), (1, vI x1), (2, vI x2), (3, vI x3), (4, vI x4), (5, vI x5), (6, vI x6)] [] S44 Q)) ∧ (x6 = 11 → (isK S r0 13) ∧ ∃ e45 : Nat, e45 + 1 ≤ d ∧ C X e45 MX13_pop [vR r0, vI x1] S (RI fun y48 S49 => (isK S49 r0 13) ∧ ∃ e51 : Nat, e51 + 1 ≤ d ∧ C X e51 MX13_push [vR r0, vI x1, vI (-y48)] S49 (RV fun  S54 => V X d MX13_goesOn 499 [(0, vR r0), (1, vI x1), (2, vI x2), (3, vI x3), (4, vI x4), (5, vI x5), (6, vI x6)] [] S54 Q))) ∧ (x6 = 12 → (isK S r0 13) ∧ ∃ e56 : Nat, e56 + 1 ≤ d ∧ C X e56 MX13_pop [vR r0, vI x1] S (RI fun y59 S60 => ((¬ y59 = 0 → V X d MX13_goesOn 322 [(0, vR r0), (1, vI x1), (2, vI x2), (3, vI x3), (4, vI x4), (5, vI x5), (6, vI x6)] [vI 0, vI x1, vR r0] S60 Q) ∧ (y59 = 0 → V X d MX13_goesOn 322 [(0, vR r0), (1, vI x1), (2, vI x2), (3, vI x3), (4, vI x4), (5, vI x5), (6, vI x6)] [vI 1, vI x1, vR r0] S60 Q)))) ∧ (x6 = 13 → (isK S r0 13) ∧ ∃ e63 : Nat, e63 + 1 ≤ d ∧ C X e63 MX13_push [vR r0, vI x1, vI x1] S (RV fun  S66 => V X d MX13_goesOn 499 [(0, vR r0), (1, vI x1), (2, vI x2), (3, vI x3), (4, vI x4), (5, vI x5), (6, vI x6)] [] S66 Q)) ∧ (x6 = 14 → (isK S r0 13) ∧ ∃ e68 : Nat, e68 + 1 ≤ d ∧ C X e68 MX13_pop [vR r0, vI x1] S (RI fun y71 S72 => (isK S72 r0 13) ∧ ∃ e74 : Nat, e74 + 1 ≤ d ∧ C X e74 MX13_isVoice [vR r0, vI y71] S72 (RI fun y77 S78 => ((y77 = 0 → V X d MX13_goesOn 367 [(0, vR r0), (1, vI x1), (2, vI x2), (3, vI x3), (4, vI x4), (5, vI x5), (6, vI x6), (7, vI y71)] [vI 9, vI x1, vR r0] S78 Q) ∧ (¬ y77 = 0 → (isK S78 r0 13) ∧ (isK S78 (gR S78 r0 49) 21) ∧ (vp_in y71 (gN S78 (gR S78 r0 49))) ∧ V X d MX13_goesOn 367 [(0, vR r0), (1, vI x1), (2, vI x2), (3, vI x3), (4, vI x4), (5, vI x5), (6, vI x6), (7, vI y71)] [vI (gI S78 (gR S78 r0 49) (y71 : Int32).toNatClampNeg), vI x1, vR r0] S78 Q))))) ∧ (x6 = 15 → (isK S r0 13) ∧ ∃ e84 : Nat, e84 + 1 ≤ d ∧ C X e84 MX13_pop [vR r0, vI x1] S (RI fun y87 S88 => (isK S88 r0 13) ∧ ∃ e90 : Nat, e90 + 1 ≤ d ∧ C X e90 MX13_yields [vR r0, vI x1, vI y87] S88 (RV fun  S93 => V X d MX13_goesOn 499 [(0, vR r0), (1, vI x1), (2, vI x2), (3, vI x3), (4, vI x4), (5, vI x5), (6, vI x6)] [] S93 Q))) ∧ (x6 = 16 → (isK S r0 13) ∧ ∃ e95 : Nat, e95 + 1 ≤ d ∧ C X e95 MX13_makes [vR r0, vI x1, vI x4, vI x5] S (RV fun  S98 => V X d MX13_goesOn 499 [(0, vR r0), (1, vI x1), (2, vI x2), (3, vI x3), (4, vI x4), (5, vI x5), (6, vI x6)] [] S98 Q)) ∧ (x6 = 17 → (isK S r0 13) ∧ ∃ e100 : Nat, e100 + 1 ≤ d ∧ C X e100 MX13_pop [vR r0, vI x1] S (RI fun y103 S104 => (isK S104 r0 13) ∧ ∃ e106 : Nat, e106 + 1 ≤ d ∧ C X e106 MX13_pop [vR r0, vI x1] S104 (RI fun y109 S110 => (isK S110 r0 13) ∧ ∃ e112 : Nat, e112 + 1 ≤ d ∧ C X e112 MX13_resumes [vR r0, vI x1, vI y109, vI y103, vI 1] S110 (RV fun  S115 => V X d MX13_goesOn 499 [(0, vR r0), (1, vI x1), (2, vI x2), (3, vI x3), (4, vI x4), (5, vI x5), (6, vI x6)] [] S115 Q)))) ∧ (x6 = 18 → (isK S r0 13) ∧ ∃ e117 : Nat, e117 + 1 ≤ d ∧ C X e117 MX13_pop [vR r0, vI x1] S (RI fun y120 S121 => (isK S121 r0 13) ∧ ∃ e123 : Nat, e123 + 1 ≤ d ∧ C X e123 MX13_pop [vR r0, vI x1] S121 (RI fun y126 S127 => (isK S127 r0 13) ∧ ∃ e129 : Nat, e129 + 1 ≤ d ∧ C X e129 MX13_injects [vR r0, vI x1, vI y126, vI x4, vI y120] S127 (RV fun  S132 => V X d MX13_goesOn 499 [(0, vR r0), (1, vI x1), (2, vI x2), (3, vI x3), (4, vI x4), (5, vI x5), (6, vI x6)] [] S132 Q)))) ∧ (x6 = 19 → (isK S r0 13) ∧ ∃ e134 : Nat, e134 + 1 ≤ d ∧ C X e134 MX13_pop [vR r0, vI x1] S (RI fun y137 S138 => (isK S138 r0 13) ∧ ∃ e140 : Nat, e140 + 1 ≤ d ∧ C X e140 MX13_pop [vR r0, vI x1] S138 (RI fun y143 S144 => (isK S144 r0 13) ∧ ∃ e146 : Nat, e146 + 1 ≤ d ∧ C X e146 MX13_handsOn [vR r0, vI x1, vI y143, vI y137] S144 (RV fun  S149 => V X d MX13_goesOn 499 [(0, vR r0), (1, vI x1), (2, vI x2), (3, vI x3), (4, vI x4), (5, vI x5), (6, vI x6)] [] S149 Q)))) ∧ (x6 = 20 → (isK S r0 13) ∧ ∃ e151 : Nat, e151 + 1 ≤ d ∧ C X e151 MX13_step [vR r0, vI x1] S (RI fun y154 S155 => ((y154 = 0 → V X d MX13_goesOn 499 [(0, vR r0), (1, vI x1), (2, vI x2), (3, vI x3), (4, vI x4), (5, vI x5), (6, vI x6)] [] S155 Q) ∧ (¬ y154 = 0 → (isK S155 r0 13) ∧ ∃ e158 : Nat, e158 + 1 ≤ d ∧ C X e158 MX13_calls [vR r0, vI x1, vI x4, vI x5] S155 (RV fun  S161 => V X d MX13_goesOn 499 [(0, vR r0), (1, vI x1), (2, vI x2), (3, vI x3), (4, vI x4), (5, vI x5), (6, vI x6)] [] S161 Q))))) ∧ (¬ (x6 = 0 ∨ x6 = 1 ∨ x6 = 2 ∨ x6 = 3 ∨ x6 = 11 ∨ x6 = 12 ∨ x6 = 13 ∨ x6 = 14 ∨ x6 = 15 ∨ x6 = 16 ∨ x6 = 17 ∨ x6 = 18 ∨ x6 = 19 ∨ x6 = 20) → (isK S r0 13) ∧ ∃ e3 : Nat, e3 + 1 ≤ d ∧ C X e3 MX13_controls [vR r0, vI x1, vI x2, vI x6, vI x4, vI x5] S (RV fun  S6 => V X d MX13_goesOn 499 [(0, vR r0), (1, vI x1), (2, vI x2), (3, vI x3), (4, vI x4), (5, vI x5), (6, vI x6)] [] S6 Q)))) : V X d MX13_goesOn 124 [(0, vR r0), (1, vI x1), (2, vI x2), (3, vI x3), (4, vI x4), (5, vI x5), (6, vI x6)] [] S Q := by
  refine V_iload (pc2 := 126) (dk D_X13_goesOn 71 rfl) (V_lg 6 rfl) rfl ?_
  refine V_table (dk D_X13_goesOn 72 rfl) [224, 243, 253, 273, 487, 487, 487, 487, 487, 487, 487, 293, 307, 328, 337, 373, 386, 398, 421, 445, 467] 487 (by decide) rfl (by decide) (fun q1 => ?_) (fun j2 hj q1 => ?_)
  · have h := h.2.2.2.2.2.2.2.2.2.2.2.2.2.2 (by rintro (hk | hk | hk | hk | hk | hk | hk | hk | hk | hk | hk | hk | hk | hk) <;> (rw [hk] at q1; revert q1; decide))
    refine V_aload_n (pc2 := 488) (dk D_X13_goesOn 215 rfl) rfl (V_lg 0 rfl) rfl ?_
    refine V_iload_n (pc2 := 489) (dk D_X13_goesOn 216 rfl) rfl (V_lg 1 rfl) rfl ?_
    refine V_iload_n (pc2 := 490) (dk D_X13_goesOn 217 rfl) rfl (V_lg 2 rfl) rfl ?_
    refine V_iload (pc2 := 492) (dk D_X13_goesOn 218 rfl) (V_lg 6 rfl) rfl ?_
    refine V_iload (pc2 := 494) (dk D_X13_goesOn 219 rfl) (V_lg 4 rfl) rfl ?_
    refine V_iload (pc2 := 496) (dk D_X13_goesOn 220 rfl) (V_lg 5 rfl) rfl ?_
    obtain ⟨h12, h⟩ := h
    obtain ⟨e8, he9, hc10⟩ := h
    refine V_callV (as := [_, _, _, _, _]) (st := []) (M' := MX13_controls) (ci := 13) (pc2 := 499) (dk D_X13_goesOn 221 rfl) ml_13_600 mv_X13_controls rfl rfl (by decide) rfl (Nat.le_of_ble_eq_true rfl) rfl he9 h12 hc10 (RV.k fun  S11 h => ?_)
    exact h
  · have hj2 : j2 = 0 ∨ j2 = 1 ∨ j2 = 2 ∨ j2 = 3 ∨ j2 = 4 ∨ j2 = 5 ∨ j2 = 6 ∨ j2 = 7 ∨ j2 = 8 ∨ j2 = 9 ∨ j2 = 10 ∨ j2 = 11 ∨ j2 = 12 ∨ j2 = 13 ∨ j2 = 14 ∨ j2 = 15 ∨ j2 = 16 ∨ j2 = 17 ∨ j2 = 18 ∨ j2 = 19 ∨ j2 = 20 := by simp at hj; omega
    clear hj
    rcases hj2 with rfl | rfl | rfl | rfl | rfl | rfl | rfl | rfl | rfl | rfl | rfl | rfl | rfl | rfl | rfl | rfl | rfl | rfl | rfl | rfl | rfl
    · have hx : x6 = 0 := Int32.toInt_inj.mp (by rw [q1]; decide)
      have h := h.1 hx
      refine V_aload_n (pc2 := 225) (dk D_X13_goesOn 73 rfl) rfl (V_lg 0 rfl) rfl ?_
      refine V_iload_n (pc2 := 226) (dk D_X13_goesOn 74 rfl) rfl (V_lg 1 rfl) rfl ?_
      obtain ⟨h18, h⟩ := h
      obtain ⟨e13, he14, hc15⟩ := h
      refine V_callV (as := [_]) (st := []) (M' := MX13_step) (ci := 13) (pc2 := 229) (dk D_X13_goesOn 75 rfl) ml_13_579 mv_X13_step rfl rfl (by decide) rfl (Nat.le_of_ble_eq_true rfl) rfl he14 h18 hc15 (RI.k fun y16 S17 h => ?_)
      refine V_ifeq (tgt := 499) (pc2 := 232) (dk D_X13_goesOn 76 rfl) (by decide) rfl (fun q19 => ?_) (fun q19 => ?_)
      · have h := h.1 q19
        exact h
      · have h := h.2 q19
        refine V_aload_n (pc2 := 233) (dk D_X13_goesOn 77 rfl) rfl (V_lg 0 rfl) rfl ?_
        obtain ⟨h20, h⟩ := h
        refine V_getR kc13 (pc2 := 236) 63 (dk D_X13_goesOn 78 rfl) fl_13_204 (by decide) (fun _ => rfl) rfl h20 ?_
        refine V_iload_n (pc2 := 237) (dk D_X13_goesOn 79 rfl) rfl (V_lg 2 rfl) rfl ?_
        refine V_iload (pc2 := 239) (dk D_X13_goesOn 80 rfl) (V_lg 4 rfl) rfl ?_
        obtain ⟨h21, h⟩ := h
        obtain ⟨h22, h⟩ := h
        refine V_iast (pc2 := 240) (dk D_X13_goesOn 81 rfl) rfl h21 h22 ?_
        have h := h _ rfl
        refine V_goto (tgt := 499) (dk D_X13_goesOn 82 rfl) (by decide) ?_
        exact h
    · have hx : x6 = 1 := Int32.toInt_inj.mp (by rw [q1]; decide)
      have h := h.2.1 hx
      refine V_aload_n (pc2 := 244) (dk D_X13_goesOn 83 rfl) rfl (V_lg 0 rfl) rfl ?_
      refine V_iload_n (pc2 := 245) (dk D_X13_goesOn 84 rfl) rfl (V_lg 1 rfl) rfl ?_
      refine V_iload (pc2 := 247) (dk D_X13_goesOn 85 rfl) (V_lg 4 rfl) rfl ?_
      obtain ⟨h28, h⟩ := h
      obtain ⟨e24, he25, hc26⟩ := h
      refine V_callV (as := [_, _]) (st := []) (M' := MX13_push) (ci := 13) (pc2 := 250) (dk D_X13_goesOn 86 rfl) ml_13_497 mv_X13_push rfl rfl (by decide) rfl (Nat.le_of_ble_eq_true rfl) rfl he25 h28 hc26 (RV.k fun  S27 h => ?_)
      refine V_goto (tgt := 499) (dk D_X13_goesOn 87 rfl) (by decide) ?_
      exact h
    · have hx : x6 = 2 := Int32.toInt_inj.mp (by rw [q1]; decide)
      have h := h.2.2.1 hx
      refine V_aload_n (pc2 := 254) (dk D_X13_goesOn 88 rfl) rfl (V_lg 0 rfl) rfl ?_
      refine V_iload_n (pc2 := 255) (dk D_X13_goesOn 89 rfl) rfl (V_lg 1 rfl) rfl ?_
      refine V_aload_n (pc2 := 256) (dk D_X13_goesOn 90 rfl) rfl (V_lg 0 rfl) rfl ?_
      obtain ⟨h29, h⟩ := h
      refine V_getR kc13 (pc2 := 259) 66 (dk D_X13_goesOn 91 rfl) fl_13_213 (by decide) (fun _ => rfl) rfl h29 ?_
      refine V_bipush (x := 40) (pc2 := 261) (dk D_X13_goesOn 92 rfl) (by decide) rfl ?_
      refine V_iload_n (pc2 := 262) (dk D_X13_goesOn 93 rfl) rfl (V_lg 2 rfl) rfl ?_
      refine V_imul (pc2 := 263) (dk D_X13_goesOn 94 rfl) rfl ?_
      refine V_iload (pc2 := 265) (dk D_X13_goesOn 95 rfl) (V_lg 4 rfl) rfl ?_
      refine V_iadd (pc2 := 266) (dk D_X13_goesOn 96 rfl) rfl ?_
      obtain ⟨h30, h⟩ := h
      obtain ⟨h31, h⟩ := h
      refine V_iald (pc2 := 267) (dk D_X13_goesOn 97 rfl) rfl h30 h31 ?_
      obtain ⟨e32, he33, hc34⟩ := h
      refine V_callV (as := [_, _]) (st := []) (M' := MX13_push) (ci := 13) (pc2 := 270) (dk D_X13_goesOn 98 rfl) ml_13_497 mv_X13_push rfl rfl (by decide) rfl (Nat.le_of_ble_eq_true rfl) rfl he33 h29 hc34 (RV.k fun  S35 h => ?_)
      refine V_goto (tgt := 499) (dk D_X13_goesOn 99 rfl) (by decide) ?_
      exact h
    · have hx : x6 = 3 := Int32.toInt_inj.mp (by rw [q1]; decide)
      have h := h.2.2.2.1 hx
      refine V_aload_n (pc2 := 274) (dk D_X13_goesOn 100 rfl) rfl (V_lg 0 rfl) rfl ?_
      obtain ⟨h36, h⟩ := h
      refine V_getR kc13 (pc2 := 277) 66 (dk D_X13_goesOn 101 rfl) fl_13_213 (by decide) (fun _ => rfl) rfl h36 ?_
      refine V_bipush (x := 40) (pc2 := 279) (dk D_X13_goesOn 102 rfl) (by decide) rfl ?_
      refine V_iload_n (pc2 := 280) (dk D_X13_goesOn 103 rfl) rfl (V_lg 2 rfl) rfl ?_
      refine V_imul (pc2 := 281) (dk D_X13_goesOn 104 rfl) rfl ?_
      refine V_iload (pc2 := 283) (dk D_X13_goesOn 105 rfl) (V_lg 4 rfl) rfl ?_
      refine V_iadd (pc2 := 284) (dk D_X13_goesOn 106 rfl) rfl ?_
      refine V_aload_n (pc2 := 285) (dk D_X13_goesOn 107 rfl) rfl (V_lg 0 rfl) rfl ?_
      refine V_iload_n (pc2 := 286) (dk D_X13_goesOn 108 rfl) rfl (V_lg 1 rfl) rfl ?_
      obtain ⟨e37, he38, hc39⟩ := h
      refine V_callV (as := [_]) (st := [_, _]) (M' := MX13_pop) (ci := 13) (pc2 := 289) (dk D_X13_goesOn 109 rfl) ml_13_494 mv_X13_pop rfl rfl (by decide) rfl (Nat.le_of_ble_eq_true rfl) rfl he38 h36 hc39 (RI.k fun y40 S41 h => ?_)
      obtain ⟨h42, h⟩ := h
      obtain ⟨h43, h⟩ := h
      refine V_iast (pc2 := 290) (dk D_X13_goesOn 110 rfl) rfl h42 h43 ?_
      have h := h _ rfl
      refine V_goto (tgt := 499) (dk D_X13_goesOn 111 rfl) (by decide) ?_
      exact h
    · have h := h.2.2.2.2.2.2.2.2.2.2.2.2.2.2 (by rintro (hk | hk | hk | hk | hk | hk | hk | hk | hk | hk | hk | hk | hk | hk) <;> (rw [hk] at q1; revert q1; decide))
      refine V_aload_n (pc2 := 488) (dk D_X13_goesOn 215 rfl) rfl (V_lg 0 rfl) rfl ?_
      refine V_iload_n (pc2 := 489) (dk D_X13_goesOn 216 rfl) rfl (V_lg 1 rfl) rfl ?_
      refine V_iload_n (pc2 := 490) (dk D_X13_goesOn 217 rfl) rfl (V_lg 2 rfl) rfl ?_
      refine V_iload (pc2 := 492) (dk D_X13_goesOn 218 rfl) (V_lg 6 rfl) rfl ?_
      refine V_iload (pc2 := 494) (dk D_X13_goesOn 219 rfl) (V_lg 4 rfl) rfl ?_
      refine V_iload (pc2 := 496) (dk D_X13_goesOn 220 rfl) (V_lg 5 rfl) rfl ?_
      obtain ⟨h7, h⟩ := h
      obtain ⟨e3, he4, hc5⟩ := h
      refine V_callV (as := [_, _, _, _, _]) (st := []) (M' := MX13_controls) (ci := 13) (pc2 := 499) (dk D_X13_goesOn 221 rfl) ml_13_600 mv_X13_controls rfl rfl (by decide) rfl (Nat.le_of_ble_eq_true rfl) rfl he4 h7 hc5 (RV.k fun  S6 h => ?_)
      exact h
    · have h := h.2.2.2.2.2.2.2.2.2.2.2.2.2.2 (by rintro (hk | hk | hk | hk | hk | hk | hk | hk | hk | hk | hk | hk | hk | hk) <;> (rw [hk] at q1; revert q1; decide))
      refine V_aload_n (pc2 := 488) (dk D_X13_goesOn 215 rfl) rfl (V_lg 0 rfl) rfl ?_
      refine V_iload_n (pc2 := 489) (dk D_X13_goesOn 216 rfl) rfl (V_lg 1 rfl) rfl ?_
      refine V_iload_n (pc2 := 490) (dk D_X13_goesOn 217 rfl) rfl (V_lg 2 rfl) rfl ?_
      refine V_iload (pc2 := 492) (dk D_X13_goesOn 218 rfl) (V_lg 6 rfl) rfl ?_
      refine V_iload (pc2 := 494) (dk D_X13_goesOn 219 rfl) (V_lg 4 rfl) rfl ?_
      refine V_iload (pc2 := 496) (dk D_X13_goesOn 220 rfl) (V_lg 5 rfl) rfl ?_
      obtain ⟨h7, h⟩ := h
      obtain ⟨e3, he4, hc5⟩ := h
      refine V_callV (as := [_, _, _, _, _]) (st := []) (M' := MX13_controls) (ci := 13) (pc2 := 499) (dk D_X13_goesOn 221 rfl) ml_13_600 mv_X13_controls rfl rfl (by decide) rfl (Nat.le_of_ble_eq_true rfl) rfl he4 h7 hc5 (RV.k fun  S6 h => ?_)
      exact h
    · have h := h.2.2.2.2.2.2.2.2.2.2.2.2.2.2 (by rintro (hk | hk | hk | hk | hk | hk | hk | hk | hk | hk | hk | hk | hk | hk) <;> (rw [hk] at q1; revert q1; decide))
      refine V_aload_n (pc2 := 488) (dk D_X13_goesOn 215 rfl) rfl (V_lg 0 rfl) rfl ?_
      refine V_iload_n (pc2 := 489) (dk D_X13_goesOn 216 rfl) rfl (V_lg 1 rfl) rfl ?_
      refine V_iload_n (pc2 := 490) (dk D_X13_goesOn 217 rfl) rfl (V_lg 2 rfl) rfl ?_
      refine V_iload (pc2 := 492) (dk D_X13_goesOn 218 rfl) (V_lg 6 rfl) rfl ?_
      refine V_iload (pc2 := 494) (dk D_X13_goesOn 219 rfl) (V_lg 4 rfl) rfl ?_
      refine V_iload (pc2 := 496) (dk D_X13_goesOn 220 rfl) (V_lg 5 rfl) rfl ?_
      obtain ⟨h7, h⟩ := h
      obtain ⟨e3, he4, hc5⟩ := h
      refine V_callV (as := [_, _, _, _, _]) (st := []) (M' := MX13_controls) (ci := 13) (pc2 := 499) (dk D_X13_goesOn 221 rfl) ml_13_600 mv_X13_controls rfl rfl (by decide) rfl (Nat.le_of_ble_eq_true rfl) rfl he4 h7 hc5 (RV.k fun  S6 h => ?_)
      exact h
    · have h := h.2.2.2.2.2.2.2.2.2.2.2.2.2.2 (by rintro (hk | hk | hk | hk | hk | hk | hk | hk | hk | hk | hk | hk | hk | hk) <;> (rw [hk] at q1; revert q1; decide))
      refine V_aload_n (pc2 := 488) (dk D_X13_goesOn 215 rfl) rfl (V_lg 0 rfl) rfl ?_
      refine V_iload_n (pc2 := 489) (dk D_X13_goesOn 216 rfl) rfl (V_lg 1 rfl) rfl ?_
      refine V_iload_n (pc2 := 490) (dk D_X13_goesOn 217 rfl) rfl (V_lg 2 rfl) rfl ?_
      refine V_iload (pc2 := 492) (dk D_X13_goesOn 218 rfl) (V_lg 6 rfl) rfl ?_
      refine V_iload (pc2 := 494) (dk D_X13_goesOn 219 rfl) (V_lg 4 rfl) rfl ?_
      refine V_iload (pc2 := 496) (dk D_X13_goesOn 220 rfl) (V_lg 5 rfl) rfl ?_
      obtain ⟨h7, h⟩ := h
      obtain ⟨e3, he4, hc5⟩ := h
      refine V_callV (as := [_, _, _, _, _]) (st := []) (M' := MX13_controls) (ci := 13) (pc2 := 499) (dk D_X13_goesOn 221 rfl) ml_13_600 mv_X13_controls rfl rfl (by decide) rfl (Nat.le_of_ble_eq_true rfl) rfl he4 h7 hc5 (RV.k fun  S6 h => ?_)
      exact h
    · have h := h.2.2.2.2.2.2.2.2.2.2.2.2.2.2 (by rintro (hk | hk | hk | hk | hk | hk | hk | hk | hk | hk | hk | hk | hk | hk) <;> (rw [hk] at q1; revert q1; decide))
      refine V_aload_n (pc2 := 488) (dk D_X13_goesOn 215 rfl) rfl (V_lg 0 rfl) rfl ?_
      refine V_iload_n (pc2 := 489) (dk D_X13_goesOn 216 rfl) rfl (V_lg 1 rfl) rfl ?_
      refine V_iload_n (pc2 := 490) (dk D_X13_goesOn 217 rfl) rfl (V_lg 2 rfl) rfl ?_
      refine V_iload (pc2 := 492) (dk D_X13_goesOn 218 rfl) (V_lg 6 rfl) rfl ?_
      refine V_iload (pc2 := 494) (dk D_X13_goesOn 219 rfl) (V_lg 4 rfl) rfl ?_
      refine V_iload (pc2 := 496) (dk D_X13_goesOn 220 rfl) (V_lg 5 rfl) rfl ?_
      obtain ⟨h7, h⟩ := h
      obtain ⟨e3, he4, hc5⟩ := h
      refine V_callV (as := [_, _, _, _, _]) (st := []) (M' := MX13_controls) (ci := 13) (pc2 := 499) (dk D_X13_goesOn 221 rfl) ml_13_600 mv_X13_controls rfl rfl (by decide) rfl (Nat.le_of_ble_eq_true rfl) rfl he4 h7 hc5 (RV.k fun  S6 h => ?_)
      exact h
    · have h := h.2.2.2.2.2.2.2.2.2.2.2.2.2.2 (by rintro (hk | hk | hk | hk | hk | hk | hk | hk | hk | hk | hk | hk | hk | hk) <;> (rw [hk] at q1; revert q1; decide))
      refine V_aload_n (pc2 := 488) (dk D_X13_goesOn 215 rfl) rfl (V_lg 0 rfl) rfl ?_
      refine V_iload_n (pc2 := 489) (dk D_X13_goesOn 216 rfl) rfl (V_lg 1 rfl) rfl ?_
      refine V_iload_n (pc2 := 490) (dk D_X13_goesOn 217 rfl) rfl (V_lg 2 rfl) rfl ?_
      refine V_iload (pc2 := 492) (dk D_X13_goesOn 218 rfl) (V_lg 6 rfl) rfl ?_
      refine V_iload (pc2 := 494) (dk D_X13_goesOn 219 rfl) (V_lg 4 rfl) rfl ?_
      refine V_iload (pc2 := 496) (dk D_X13_goesOn 220 rfl) (V_lg 5 rfl) rfl ?_
      obtain ⟨h7, h⟩ := h
      obtain ⟨e3, he4, hc5⟩ := h
      refine V_callV (as := [_, _, _, _, _]) (st := []) (M' := MX13_controls) (ci := 13) (pc2 := 499) (dk D_X13_goesOn 221 rfl) ml_13_600 mv_X13_controls rfl rfl (by decide) rfl (Nat.le_of_ble_eq_true rfl) rfl he4 h7 hc5 (RV.k fun  S6 h => ?_)
      exact h
    · have h := h.2.2.2.2.2.2.2.2.2.2.2.2.2.2 (by rintro (hk | hk | hk | hk | hk | hk | hk | hk | hk | hk | hk | hk | hk | hk) <;> (rw [hk] at q1; revert q1; decide))
      refine V_aload_n (pc2 := 488) (dk D_X13_goesOn 215 rfl) rfl (V_lg 0 rfl) rfl ?_
      refine V_iload_n (pc2 := 489) (dk D_X13_goesOn 216 rfl) rfl (V_lg 1 rfl) rfl ?_
      refine V_iload_n (pc2 := 490) (dk D_X13_goesOn 217 rfl) rfl (V_lg 2 rfl) rfl ?_
      refine V_iload (pc2 := 492) (dk D_X13_goesOn 218 rfl) (V_lg 6 rfl) rfl ?_
      refine V_iload (pc2 := 494) (dk D_X13_goesOn 219 rfl) (V_lg 4 rfl) rfl ?_
      refine V_iload (pc2 := 496) (dk D_X13_goesOn 220 rfl) (V_lg 5 rfl) rfl ?_
      obtain ⟨h7, h⟩ := h
      obtain ⟨e3, he4, hc5⟩ := h
      refine V_callV (as := [_, _, _, _, _]) (st := []) (M' := MX13_controls) (ci := 13) (pc2 := 499) (dk D_X13_goesOn 221 rfl) ml_13_600 mv_X13_controls rfl rfl (by decide) rfl (Nat.le_of_ble_eq_true rfl) rfl he4 h7 hc5 (RV.k fun  S6 h => ?_)
      exact h
    · have hx : x6 = 11 := Int32.toInt_inj.mp (by rw [q1]; decide)
      have h := h.2.2.2.2.1 hx
      refine V_aload_n (pc2 := 294) (dk D_X13_goesOn 112 rfl) rfl (V_lg 0 rfl) rfl ?_
      refine V_iload_n (pc2 := 295) (dk D_X13_goesOn 113 rfl) rfl (V_lg 1 rfl) rfl ?_
      refine V_aload_n (pc2 := 296) (dk D_X13_goesOn 114 rfl) rfl (V_lg 0 rfl) rfl ?_
      refine V_iload_n (pc2 := 297) (dk D_X13_goesOn 115 rfl) rfl (V_lg 1 rfl) rfl ?_
      obtain ⟨h50, h⟩ := h
      obtain ⟨e45, he46, hc47⟩ := h
      refine V_callV (as := [_]) (st := [_, _]) (M' := MX13_pop) (ci := 13) (pc2 := 300) (dk D_X13_goesOn 116 rfl) ml_13_494 mv_X13_pop rfl rfl (by decide) rfl (Nat.le_of_ble_eq_true rfl) rfl he46 h50 hc47 (RI.k fun y48 S49 h => ?_)
      refine V_ineg (pc2 := 301) (dk D_X13_goesOn 117 rfl) rfl ?_
      obtain ⟨h55, h⟩ := h
      obtain ⟨e51, he52, hc53⟩ := h
      refine V_callV (as := [_, _]) (st := []) (M' := MX13_push) (ci := 13) (pc2 := 304) (dk D_X13_goesOn 118 rfl) ml_13_497 mv_X13_push rfl rfl (by decide) rfl (Nat.le_of_ble_eq_true rfl) rfl he52 h55 hc53 (RV.k fun  S54 h => ?_)
      refine V_goto (tgt := 499) (dk D_X13_goesOn 119 rfl) (by decide) ?_
      exact h
    · have hx : x6 = 12 := Int32.toInt_inj.mp (by rw [q1]; decide)
      have h := h.2.2.2.2.2.1 hx
      refine V_aload_n (pc2 := 308) (dk D_X13_goesOn 120 rfl) rfl (V_lg 0 rfl) rfl ?_
      refine V_iload_n (pc2 := 309) (dk D_X13_goesOn 121 rfl) rfl (V_lg 1 rfl) rfl ?_
      refine V_aload_n (pc2 := 310) (dk D_X13_goesOn 122 rfl) rfl (V_lg 0 rfl) rfl ?_
      refine V_iload_n (pc2 := 311) (dk D_X13_goesOn 123 rfl) rfl (V_lg 1 rfl) rfl ?_
      obtain ⟨h61, h⟩ := h
      obtain ⟨e56, he57, hc58⟩ := h
      refine V_callV (as := [_]) (st := [_, _]) (M' := MX13_pop) (ci := 13) (pc2 := 314) (dk D_X13_goesOn 124 rfl) ml_13_494 mv_X13_pop rfl rfl (by decide) rfl (Nat.le_of_ble_eq_true rfl) rfl he57 h61 hc58 (RI.k fun y59 S60 h => ?_)
      refine V_ifne (tgt := 321) (pc2 := 317) (dk D_X13_goesOn 125 rfl) (by decide) rfl (fun q62 => ?_) (fun q62 => ?_)
      · have h := h.1 q62
        refine V_iconst (x := 0) (pc2 := 322) (dk D_X13_goesOn 128 rfl) (by decide) rfl ?_
        exact h
      · have h := h.2 q62
        refine V_iconst (x := 1) (pc2 := 318) (dk D_X13_goesOn 126 rfl) (by decide) rfl ?_
        refine V_goto (tgt := 322) (dk D_X13_goesOn 127 rfl) (by decide) ?_
        exact h
    · have hx : x6 = 13 := Int32.toInt_inj.mp (by rw [q1]; decide)
      have h := h.2.2.2.2.2.2.1 hx
      refine V_aload_n (pc2 := 329) (dk D_X13_goesOn 131 rfl) rfl (V_lg 0 rfl) rfl ?_
      refine V_iload_n (pc2 := 330) (dk D_X13_goesOn 132 rfl) rfl (V_lg 1 rfl) rfl ?_
      refine V_iload_n (pc2 := 331) (dk D_X13_goesOn 133 rfl) rfl (V_lg 1 rfl) rfl ?_
      obtain ⟨h67, h⟩ := h
      obtain ⟨e63, he64, hc65⟩ := h
      refine V_callV (as := [_, _]) (st := []) (M' := MX13_push) (ci := 13) (pc2 := 334) (dk D_X13_goesOn 134 rfl) ml_13_497 mv_X13_push rfl rfl (by decide) rfl (Nat.le_of_ble_eq_true rfl) rfl he64 h67 hc65 (RV.k fun  S66 h => ?_)
      refine V_goto (tgt := 499) (dk D_X13_goesOn 135 rfl) (by decide) ?_
      exact h
    · have hx : x6 = 14 := Int32.toInt_inj.mp (by rw [q1]; decide)
      have h := h.2.2.2.2.2.2.2.1 hx
      refine V_aload_n (pc2 := 338) (dk D_X13_goesOn 136 rfl) rfl (V_lg 0 rfl) rfl ?_
      refine V_iload_n (pc2 := 339) (dk D_X13_goesOn 137 rfl) rfl (V_lg 1 rfl) rfl ?_
      obtain ⟨h73, h⟩ := h
      obtain ⟨e68, he69, hc70⟩ := h
      refine V_callV (as := [_]) (st := []) (M' := MX13_pop) (ci := 13) (pc2 := 342) (dk D_X13_goesOn 138 rfl) ml_13_494 mv_X13_pop rfl rfl (by decide) rfl (Nat.le_of_ble_eq_true rfl) rfl he69 h73 hc70 (RI.k fun y71 S72 h => ?_)
      refine V_istore (pc2 := 344) (lv2 := [(0, _), (1, _), (2, _), (3, _), (4, _), (5, _), (6, _), (7, _)]) (dk D_X13_goesOn 139 rfl) (by decide) rfl rfl ?_
      refine V_aload_n (pc2 := 345) (dk D_X13_goesOn 140 rfl) rfl (V_lg 0 rfl) rfl ?_
      refine V_iload_n (pc2 := 346) (dk D_X13_goesOn 141 rfl) rfl (V_lg 1 rfl) rfl ?_
      refine V_aload_n (pc2 := 347) (dk D_X13_goesOn 142 rfl) rfl (V_lg 0 rfl) rfl ?_
      refine V_iload (pc2 := 349) (dk D_X13_goesOn 143 rfl) (V_lg 7 rfl) rfl ?_
      obtain ⟨h79, h⟩ := h
      obtain ⟨e74, he75, hc76⟩ := h
      refine V_callV (as := [_]) (st := [_, _]) (M' := MX13_isVoice) (ci := 13) (pc2 := 352) (dk D_X13_goesOn 144 rfl) ml_13_554 mv_X13_isVoice rfl rfl (by decide) rfl (Nat.le_of_ble_eq_true rfl) rfl he75 h79 hc76 (RI.k fun y77 S78 h => ?_)
      refine V_ifeq (tgt := 365) (pc2 := 355) (dk D_X13_goesOn 145 rfl) (by decide) rfl (fun q80 => ?_) (fun q80 => ?_)
      · have h := h.1 q80
        refine V_bipush (x := 9) (pc2 := 367) (dk D_X13_goesOn 151 rfl) (by decide) rfl ?_
        exact h
      · have h := h.2 q80
        refine V_aload_n (pc2 := 356) (dk D_X13_goesOn 146 rfl) rfl (V_lg 0 rfl) rfl ?_
        obtain ⟨h81, h⟩ := h
        refine V_getR kc13 (pc2 := 359) 49 (dk D_X13_goesOn 147 rfl) fl_13_161 (by decide) (fun _ => rfl) rfl h81 ?_
        refine V_iload (pc2 := 361) (dk D_X13_goesOn 148 rfl) (V_lg 7 rfl) rfl ?_
        obtain ⟨h82, h⟩ := h
        obtain ⟨h83, h⟩ := h
        refine V_iald (pc2 := 362) (dk D_X13_goesOn 149 rfl) rfl h82 h83 ?_
        refine V_goto (tgt := 367) (dk D_X13_goesOn 150 rfl) (by decide) ?_
        exact h
    · have hx : x6 = 15 := Int32.toInt_inj.mp (by rw [q1]; decide)
      have h := h.2.2.2.2.2.2.2.2.1 hx
      refine V_aload_n (pc2 := 374) (dk D_X13_goesOn 154 rfl) rfl (V_lg 0 rfl) rfl ?_
      refine V_iload_n (pc2 := 375) (dk D_X13_goesOn 155 rfl) rfl (V_lg 1 rfl) rfl ?_
      refine V_aload_n (pc2 := 376) (dk D_X13_goesOn 156 rfl) rfl (V_lg 0 rfl) rfl ?_
      refine V_iload_n (pc2 := 377) (dk D_X13_goesOn 157 rfl) rfl (V_lg 1 rfl) rfl ?_
      obtain ⟨h89, h⟩ := h
      obtain ⟨e84, he85, hc86⟩ := h
      refine V_callV (as := [_]) (st := [_, _]) (M' := MX13_pop) (ci := 13) (pc2 := 380) (dk D_X13_goesOn 158 rfl) ml_13_494 mv_X13_pop rfl rfl (by decide) rfl (Nat.le_of_ble_eq_true rfl) rfl he85 h89 hc86 (RI.k fun y87 S88 h => ?_)
      obtain ⟨h94, h⟩ := h
      obtain ⟨e90, he91, hc92⟩ := h
      refine V_callV (as := [_, _]) (st := []) (M' := MX13_yields) (ci := 13) (pc2 := 383) (dk D_X13_goesOn 159 rfl) ml_13_582 mv_X13_yields rfl rfl (by decide) rfl (Nat.le_of_ble_eq_true rfl) rfl he91 h94 hc92 (RV.k fun  S93 h => ?_)
      refine V_goto (tgt := 499) (dk D_X13_goesOn 160 rfl) (by decide) ?_
      exact h
    · have hx : x6 = 16 := Int32.toInt_inj.mp (by rw [q1]; decide)
      have h := h.2.2.2.2.2.2.2.2.2.1 hx
      refine V_aload_n (pc2 := 387) (dk D_X13_goesOn 161 rfl) rfl (V_lg 0 rfl) rfl ?_
      refine V_iload_n (pc2 := 388) (dk D_X13_goesOn 162 rfl) rfl (V_lg 1 rfl) rfl ?_
      refine V_iload (pc2 := 390) (dk D_X13_goesOn 163 rfl) (V_lg 4 rfl) rfl ?_
      refine V_iload (pc2 := 392) (dk D_X13_goesOn 164 rfl) (V_lg 5 rfl) rfl ?_
      obtain ⟨h99, h⟩ := h
      obtain ⟨e95, he96, hc97⟩ := h
      refine V_callV (as := [_, _, _]) (st := []) (M' := MX13_makes) (ci := 13) (pc2 := 395) (dk D_X13_goesOn 165 rfl) ml_13_585 mv_X13_makes rfl rfl (by decide) rfl (Nat.le_of_ble_eq_true rfl) rfl he96 h99 hc97 (RV.k fun  S98 h => ?_)
      refine V_goto (tgt := 499) (dk D_X13_goesOn 166 rfl) (by decide) ?_
      exact h
    · have hx : x6 = 17 := Int32.toInt_inj.mp (by rw [q1]; decide)
      have h := h.2.2.2.2.2.2.2.2.2.2.1 hx
      refine V_aload_n (pc2 := 399) (dk D_X13_goesOn 167 rfl) rfl (V_lg 0 rfl) rfl ?_
      refine V_iload_n (pc2 := 400) (dk D_X13_goesOn 168 rfl) rfl (V_lg 1 rfl) rfl ?_
      obtain ⟨h105, h⟩ := h
      obtain ⟨e100, he101, hc102⟩ := h
      refine V_callV (as := [_]) (st := []) (M' := MX13_pop) (ci := 13) (pc2 := 403) (dk D_X13_goesOn 169 rfl) ml_13_494 mv_X13_pop rfl rfl (by decide) rfl (Nat.le_of_ble_eq_true rfl) rfl he101 h105 hc102 (RI.k fun y103 S104 h => ?_)
      refine V_istore (pc2 := 405) (lv2 := [(0, _), (1, _), (2, _), (3, _), (4, _), (5, _), (6, _), (8, _)]) (dk D_X13_goesOn 170 rfl) (by decide) rfl rfl ?_
      refine V_aload_n (pc2 := 406) (dk D_X13_goesOn 171 rfl) rfl (V_lg 0 rfl) rfl ?_
      refine V_iload_n (pc2 := 407) (dk D_X13_goesOn 172 rfl) rfl (V_lg 1 rfl) rfl ?_
      refine V_aload_n (pc2 := 408) (dk D_X13_goesOn 173 rfl) rfl (V_lg 0 rfl) rfl ?_
      refine V_iload_n (pc2 := 409) (dk D_X13_goesOn 174 rfl) rfl (V_lg 1 rfl) rfl ?_
      obtain ⟨h111, h⟩ := h
      obtain ⟨e106, he107, hc108⟩ := h
      refine V_callV (as := [_]) (st := [_, _]) (M' := MX13_pop) (ci := 13) (pc2 := 412) (dk D_X13_goesOn 175 rfl) ml_13_494 mv_X13_pop rfl rfl (by decide) rfl (Nat.le_of_ble_eq_true rfl) rfl he107 h111 hc108 (RI.k fun y109 S110 h => ?_)
      refine V_iload (pc2 := 414) (dk D_X13_goesOn 176 rfl) (V_lg 7 rfl) rfl ?_
      refine V_iconst (x := 1) (pc2 := 415) (dk D_X13_goesOn 177 rfl) (by decide) rfl ?_
      obtain ⟨h116, h⟩ := h
      obtain ⟨e112, he113, hc114⟩ := h
      refine V_callV (as := [_, _, _, _]) (st := []) (M' := MX13_resumes) (ci := 13) (pc2 := 418) (dk D_X13_goesOn 178 rfl) ml_13_588 mv_X13_resumes rfl rfl (by decide) rfl (Nat.le_of_ble_eq_true rfl) rfl he113 h116 hc114 (RV.k fun  S115 h => ?_)
      refine V_goto (tgt := 499) (dk D_X13_goesOn 179 rfl) (by decide) ?_
      refine V_pick [0, 1, 2, 3, 4, 5, 6] (lv2 := [(0, _), (1, _), (2, _), (3, _), (4, _), (5, _), (6, _)]) rfl ?_
      exact h
    · have hx : x6 = 18 := Int32.toInt_inj.mp (by rw [q1]; decide)
      have h := h.2.2.2.2.2.2.2.2.2.2.2.1 hx
      refine V_aload_n (pc2 := 422) (dk D_X13_goesOn 180 rfl) rfl (V_lg 0 rfl) rfl ?_
      refine V_iload_n (pc2 := 423) (dk D_X13_goesOn 181 rfl) rfl (V_lg 1 rfl) rfl ?_
      obtain ⟨h122, h⟩ := h
      obtain ⟨e117, he118, hc119⟩ := h
      refine V_callV (as := [_]) (st := []) (M' := MX13_pop) (ci := 13) (pc2 := 426) (dk D_X13_goesOn 182 rfl) ml_13_494 mv_X13_pop rfl rfl (by decide) rfl (Nat.le_of_ble_eq_true rfl) rfl he118 h122 hc119 (RI.k fun y120 S121 h => ?_)
      refine V_istore (pc2 := 428) (lv2 := [(0, _), (1, _), (2, _), (3, _), (4, _), (5, _), (6, _), (9, _)]) (dk D_X13_goesOn 183 rfl) (by decide) rfl rfl ?_
      refine V_aload_n (pc2 := 429) (dk D_X13_goesOn 184 rfl) rfl (V_lg 0 rfl) rfl ?_
      refine V_iload_n (pc2 := 430) (dk D_X13_goesOn 185 rfl) rfl (V_lg 1 rfl) rfl ?_
      refine V_aload_n (pc2 := 431) (dk D_X13_goesOn 186 rfl) rfl (V_lg 0 rfl) rfl ?_
      refine V_iload_n (pc2 := 432) (dk D_X13_goesOn 187 rfl) rfl (V_lg 1 rfl) rfl ?_
      obtain ⟨h128, h⟩ := h
      obtain ⟨e123, he124, hc125⟩ := h
      refine V_callV (as := [_]) (st := [_, _]) (M' := MX13_pop) (ci := 13) (pc2 := 435) (dk D_X13_goesOn 188 rfl) ml_13_494 mv_X13_pop rfl rfl (by decide) rfl (Nat.le_of_ble_eq_true rfl) rfl he124 h128 hc125 (RI.k fun y126 S127 h => ?_)
      refine V_iload (pc2 := 437) (dk D_X13_goesOn 189 rfl) (V_lg 4 rfl) rfl ?_
      refine V_iload (pc2 := 439) (dk D_X13_goesOn 190 rfl) (V_lg 7 rfl) rfl ?_
      obtain ⟨h133, h⟩ := h
      obtain ⟨e129, he130, hc131⟩ := h
      refine V_callV (as := [_, _, _, _]) (st := []) (M' := MX13_injects) (ci := 13) (pc2 := 442) (dk D_X13_goesOn 191 rfl) ml_13_591 mv_X13_injects rfl rfl (by decide) rfl (Nat.le_of_ble_eq_true rfl) rfl he130 h133 hc131 (RV.k fun  S132 h => ?_)
      refine V_goto (tgt := 499) (dk D_X13_goesOn 192 rfl) (by decide) ?_
      refine V_pick [0, 1, 2, 3, 4, 5, 6] (lv2 := [(0, _), (1, _), (2, _), (3, _), (4, _), (5, _), (6, _)]) rfl ?_
      exact h
    · have hx : x6 = 19 := Int32.toInt_inj.mp (by rw [q1]; decide)
      have h := h.2.2.2.2.2.2.2.2.2.2.2.2.1 hx
      refine V_aload_n (pc2 := 446) (dk D_X13_goesOn 193 rfl) rfl (V_lg 0 rfl) rfl ?_
      refine V_iload_n (pc2 := 447) (dk D_X13_goesOn 194 rfl) rfl (V_lg 1 rfl) rfl ?_
      obtain ⟨h139, h⟩ := h
      obtain ⟨e134, he135, hc136⟩ := h
      refine V_callV (as := [_]) (st := []) (M' := MX13_pop) (ci := 13) (pc2 := 450) (dk D_X13_goesOn 195 rfl) ml_13_494 mv_X13_pop rfl rfl (by decide) rfl (Nat.le_of_ble_eq_true rfl) rfl he135 h139 hc136 (RI.k fun y137 S138 h => ?_)
      refine V_istore (pc2 := 452) (lv2 := [(0, _), (1, _), (2, _), (3, _), (4, _), (5, _), (6, _), (10, _)]) (dk D_X13_goesOn 196 rfl) (by decide) rfl rfl ?_
      refine V_aload_n (pc2 := 453) (dk D_X13_goesOn 197 rfl) rfl (V_lg 0 rfl) rfl ?_
      refine V_iload_n (pc2 := 454) (dk D_X13_goesOn 198 rfl) rfl (V_lg 1 rfl) rfl ?_
      refine V_aload_n (pc2 := 455) (dk D_X13_goesOn 199 rfl) rfl (V_lg 0 rfl) rfl ?_
      refine V_iload_n (pc2 := 456) (dk D_X13_goesOn 200 rfl) rfl (V_lg 1 rfl) rfl ?_
      obtain ⟨h145, h⟩ := h
      obtain ⟨e140, he141, hc142⟩ := h
      refine V_callV (as := [_]) (st := [_, _]) (M' := MX13_pop) (ci := 13) (pc2 := 459) (dk D_X13_goesOn 201 rfl) ml_13_494 mv_X13_pop rfl rfl (by decide) rfl (Nat.le_of_ble_eq_true rfl) rfl he141 h145 hc142 (RI.k fun y143 S144 h => ?_)
      refine V_iload (pc2 := 461) (dk D_X13_goesOn 202 rfl) (V_lg 7 rfl) rfl ?_
      obtain ⟨h150, h⟩ := h
      obtain ⟨e146, he147, hc148⟩ := h
      refine V_callV (as := [_, _, _]) (st := []) (M' := MX13_handsOn) (ci := 13) (pc2 := 464) (dk D_X13_goesOn 203 rfl) ml_13_594 mv_X13_handsOn rfl rfl (by decide) rfl (Nat.le_of_ble_eq_true rfl) rfl he147 h150 hc148 (RV.k fun  S149 h => ?_)
      refine V_goto (tgt := 499) (dk D_X13_goesOn 204 rfl) (by decide) ?_
      refine V_pick [0, 1, 2, 3, 4, 5, 6] (lv2 := [(0, _), (1, _), (2, _), (3, _), (4, _), (5, _), (6, _)]) rfl ?_
      exact h
    · have hx : x6 = 20 := Int32.toInt_inj.mp (by rw [q1]; decide)
      have h := h.2.2.2.2.2.2.2.2.2.2.2.2.2.1 hx
      refine V_aload_n (pc2 := 468) (dk D_X13_goesOn 205 rfl) rfl (V_lg 0 rfl) rfl ?_
      refine V_iload_n (pc2 := 469) (dk D_X13_goesOn 206 rfl) rfl (V_lg 1 rfl) rfl ?_
      obtain ⟨h156, h⟩ := h
      obtain ⟨e151, he152, hc153⟩ := h
      refine V_callV (as := [_]) (st := []) (M' := MX13_step) (ci := 13) (pc2 := 472) (dk D_X13_goesOn 207 rfl) ml_13_579 mv_X13_step rfl rfl (by decide) rfl (Nat.le_of_ble_eq_true rfl) rfl he152 h156 hc153 (RI.k fun y154 S155 h => ?_)
      refine V_ifeq (tgt := 499) (pc2 := 475) (dk D_X13_goesOn 208 rfl) (by decide) rfl (fun q157 => ?_) (fun q157 => ?_)
      · have h := h.1 q157
        exact h
      · have h := h.2 q157
        refine V_aload_n (pc2 := 476) (dk D_X13_goesOn 209 rfl) rfl (V_lg 0 rfl) rfl ?_
        refine V_iload_n (pc2 := 477) (dk D_X13_goesOn 210 rfl) rfl (V_lg 1 rfl) rfl ?_
        refine V_iload (pc2 := 479) (dk D_X13_goesOn 211 rfl) (V_lg 4 rfl) rfl ?_
        refine V_iload (pc2 := 481) (dk D_X13_goesOn 212 rfl) (V_lg 5 rfl) rfl ?_
        obtain ⟨h162, h⟩ := h
        obtain ⟨e158, he159, hc160⟩ := h
        refine V_callV (as := [_, _, _]) (st := []) (M' := MX13_calls) (ci := 13) (pc2 := 484) (dk D_X13_goesOn 213 rfl) ml_13_597 mv_X13_calls rfl rfl (by decide) rfl (Nat.le_of_ble_eq_true rfl) rfl he159 h162 hc160 (RV.k fun  S161 h => ?_)
        refine V_goto (tgt := 499) (dk D_X13_goesOn 214 rfl) (by decide) ?_
        exact h
theorem w_X13_goesOn_322 {X : Cx} {d : Nat} {S : Mem} {Q : Res → Mem → Prop} (r0 : Nat) (x1 : Int32) (x2 : Int32) (x3 : Int32) (x4 : Int32) (x5 : Int32) (x6 : Int32) (t0 : Nat) (t1 : Int32) (t2 : Int32) (h : (isK S t0 13) ∧ ∃ e1 : Nat, e1 + 1 ≤ d ∧ C X e1 MX13_push [vR t0, vI t1, vI t2] S (RV fun  S4 => V X d MX13_goesOn 499 [(0, vR r0), (1, vI x1), (2, vI x2), (3, vI x3), (4, vI x4), (5, vI x5), (6, vI x6)] [] S4 Q)) : V X d MX13_goesOn 322 [(0, vR r0), (1, vI x1), (2, vI x2), (3, vI x3), (4, vI x4), (5, vI x5), (6, vI x6)] [vI t2, vI t1, vR t0] S Q := by
  obtain ⟨h5, h⟩ := h
  obtain ⟨e1, he2, hc3⟩ := h
  refine V_callV (as := [_, _]) (st := []) (M' := MX13_push) (ci := 13) (pc2 := 325) (dk D_X13_goesOn 129 rfl) ml_13_497 mv_X13_push rfl rfl (by decide) rfl (Nat.le_of_ble_eq_true rfl) rfl he2 h5 hc3 (RV.k fun  S4 h => ?_)
  refine V_goto (tgt := 499) (dk D_X13_goesOn 130 rfl) (by decide) ?_
  exact h
theorem w_X13_goesOn_367 {X : Cx} {d : Nat} {S : Mem} {Q : Res → Mem → Prop} (r0 : Nat) (x1 : Int32) (x2 : Int32) (x3 : Int32) (x4 : Int32) (x5 : Int32) (x6 : Int32) (x7 : Int32) (t0 : Nat) (t1 : Int32) (t2 : Int32) (h : (isK S t0 13) ∧ ∃ e1 : Nat, e1 + 1 ≤ d ∧ C X e1 MX13_push [vR t0, vI t1, vI t2] S (RV fun  S4 => V X d MX13_goesOn 499 [(0, vR r0), (1, vI x1), (2, vI x2), (3, vI x3), (4, vI x4), (5, vI x5), (6, vI x6)] [] S4 Q)) : V X d MX13_goesOn 367 [(0, vR r0), (1, vI x1), (2, vI x2), (3, vI x3), (4, vI x4), (5, vI x5), (6, vI x6), (7, vI x7)] [vI t2, vI t1, vR t0] S Q := by
  obtain ⟨h5, h⟩ := h
  obtain ⟨e1, he2, hc3⟩ := h
  refine V_callV (as := [_, _]) (st := []) (M' := MX13_push) (ci := 13) (pc2 := 370) (dk D_X13_goesOn 152 rfl) ml_13_497 mv_X13_push rfl rfl (by decide) rfl (Nat.le_of_ble_eq_true rfl) rfl he2 h5 hc3 (RV.k fun  S4 h => ?_)
  refine V_goto (tgt := 499) (dk D_X13_goesOn 153 rfl) (by decide) ?_
  refine V_pick [0, 1, 2, 3, 4, 5, 6] (lv2 := [(0, _), (1, _), (2, _), (3, _), (4, _), (5, _), (6, _)]) rfl ?_
  exact h
theorem w_X13_goesOn_499 {X : Cx} {d : Nat} {S : Mem} {Q : Res → Mem → Prop} (r0 : Nat) (x1 : Int32) (x2 : Int32) (x3 : Int32) (x4 : Int32) (x5 : Int32) (x6 : Int32) (h : Q (.inl none) S) : V X d MX13_goesOn 499 [(0, vR r0), (1, vI x1), (2, vI x2), (3, vI x3), (4, vI x4), (5, vI x5), (6, vI x6)] [] S Q := by
  exact V_return (dk D_X13_goesOn 222 rfl) rfl h
def L_X13_makes : List (Nat × Instr × Nat) := [(0, .iload_n 3, 1), (1, .ifCond .le 11, 3), (4, .aload_n 0, 1), (5, .iload_n 1, 1), (6, .invokevirtual 494, 3), (9, .goto 4, 3), (12, .iconst 0, 1), (13, .istore 4, 2), (15, .aload_n 0, 1), (16, .getfield 461, 3), (19, .bipush 60, 2), (21, .if_icmp .eq 12, 3), (24, .aload_n 0, 1), (25, .getfield 464, 3), (28, .bipush 12, 2), (30, .if_icmp .ne 13, 3), (33, .aload_n 0, 1), (34, .iload_n 1, 1), (35, .bipush 13, 2), (37, .invokevirtual 567, 3), (40, .goto 16, 3), (43, .aload_n 0, 1), (44, .iload_n 1, 1), (45, .aload_n 0, 1), (46, .iload_n 2, 1), (47, .iload 4, 2), (49, .iload_n 1, 1), (50, .invokevirtual 604, 3), (53, .invokevirtual 497, 3), (56, .return_, 1)]
theorem D_X13_makes : dOk cX13_makes L_X13_makes = true := by decide +kernel
theorem w_X13_makes_0 {X : Cx} {d : Nat} {S : Mem} {Q : Res → Mem → Prop} (r0 : Nat) (x1 : Int32) (x2 : Int32) (x3 : Int32) (h : ((x3 ≤ 0 → V X d MX13_makes 13 [(0, vR r0), (1, vI x1), (2, vI x2), (3, vI x3)] [vI 0] S Q) ∧ (¬ x3 ≤ 0 → (isK S r0 13) ∧ ∃ e2 : Nat, e2 + 1 ≤ d ∧ C X e2 MX13_pop [vR r0, vI x1] S (RI fun y5 S6 => V X d MX13_makes 13 [(0, vR r0), (1, vI x1), (2, vI x2), (3, vI x3)] [vI y5] S6 Q)))) : V X d MX13_makes 0 [(0, vR r0), (1, vI x1), (2, vI x2), (3, vI x3)] [] S Q := by
  refine V_iload_n (pc2 := 1) (dk D_X13_makes 0 rfl) rfl (V_lg 3 rfl) rfl ?_
  refine V_ifle (tgt := 12) (pc2 := 4) (dk D_X13_makes 1 rfl) (by decide) rfl (fun q1 => ?_) (fun q1 => ?_)
  · have h := h.1 q1
    refine V_iconst (x := 0) (pc2 := 13) (dk D_X13_makes 6 rfl) (by decide) rfl ?_
    exact h
  · have h := h.2 q1
    refine V_aload_n (pc2 := 5) (dk D_X13_makes 2 rfl) rfl (V_lg 0 rfl) rfl ?_
    refine V_iload_n (pc2 := 6) (dk D_X13_makes 3 rfl) rfl (V_lg 1 rfl) rfl ?_
    obtain ⟨h7, h⟩ := h
    obtain ⟨e2, he3, hc4⟩ := h
    refine V_callV (as := [_]) (st := []) (M' := MX13_pop) (ci := 13) (pc2 := 9) (dk D_X13_makes 4 rfl) ml_13_494 mv_X13_pop rfl rfl (by decide) rfl (Nat.le_of_ble_eq_true rfl) rfl he3 h7 hc4 (RI.k fun y5 S6 h => ?_)
    refine V_goto (tgt := 13) (dk D_X13_makes 5 rfl) (by decide) ?_
    exact h
theorem w_X13_makes_13 {X : Cx} {d : Nat} {S : Mem} {Q : Res → Mem → Prop} (r0 : Nat) (x1 : Int32) (x2 : Int32) (x3 : Int32) (t0 : Int32) (h : (isK S r0 13) ∧ (((gI S r0 47) = 60 → V X d MX13_makes 33 [(0, vR r0), (1, vI x1), (2, vI x2), (3, vI x3), (4, vI t0)] [] S Q) ∧ (¬ (gI S r0 47) = 60 → ((¬ (gI S r0 48) = 12 → ∃ e4 : Nat, e4 + 1 ≤ d ∧ C X e4 MX13_made [vR r0, vI x2, vI t0, vI x1] S (RI fun y7 S8 => (isK S8 r0 13) ∧ ∃ e9 : Nat, e9 + 1 ≤ d ∧ C X e9 MX13_push [vR r0, vI x1, vI y7] S8 (RV fun  S12 => V X d MX13_makes 56 [(0, vR r0), (1, vI x1), (2, vI x2), (3, vI x3), (4, vI t0)] [] S12 Q))) ∧ ((gI S r0 48) = 12 → V X d MX13_makes 33 [(0, vR r0), (1, vI x1), (2, vI x2), (3, vI x3), (4, vI t0)] [] S Q))))) : V X d MX13_makes 13 [(0, vR r0), (1, vI x1), (2, vI x2), (3, vI x3)] [vI t0] S Q := by
  refine V_istore (pc2 := 15) (lv2 := [(0, _), (1, _), (2, _), (3, _), (4, _)]) (dk D_X13_makes 7 rfl) (by decide) rfl rfl ?_
  refine V_aload_n (pc2 := 16) (dk D_X13_makes 8 rfl) rfl (V_lg 0 rfl) rfl ?_
  obtain ⟨h1, h⟩ := h
  refine V_getI kc13 (pc2 := 19) 47 (dk D_X13_makes 9 rfl) fl_13_461 (by decide) (fun _ => rfl) rfl h1 ?_
  refine V_bipush (x := 60) (pc2 := 21) (dk D_X13_makes 10 rfl) (by decide) rfl ?_
  refine V_cmpeq (tgt := 33) (pc2 := 24) (dk D_X13_makes 11 rfl) (by decide) rfl (fun q2 => ?_) (fun q2 => ?_)
  · have h := h.1 q2
    exact h
  · have h := h.2 q2
    refine V_aload_n (pc2 := 25) (dk D_X13_makes 12 rfl) rfl (V_lg 0 rfl) rfl ?_
    refine V_getI kc13 (pc2 := 28) 48 (dk D_X13_makes 13 rfl) fl_13_464 (by decide) (fun _ => rfl) rfl h1 ?_
    refine V_bipush (x := 12) (pc2 := 30) (dk D_X13_makes 14 rfl) (by decide) rfl ?_
    refine V_cmpne (tgt := 43) (pc2 := 33) (dk D_X13_makes 15 rfl) (by decide) rfl (fun q3 => ?_) (fun q3 => ?_)
    · have h := h.1 q3
      refine V_aload_n (pc2 := 44) (dk D_X13_makes 21 rfl) rfl (V_lg 0 rfl) rfl ?_
      refine V_iload_n (pc2 := 45) (dk D_X13_makes 22 rfl) rfl (V_lg 1 rfl) rfl ?_
      refine V_aload_n (pc2 := 46) (dk D_X13_makes 23 rfl) rfl (V_lg 0 rfl) rfl ?_
      refine V_iload_n (pc2 := 47) (dk D_X13_makes 24 rfl) rfl (V_lg 2 rfl) rfl ?_
      refine V_iload (pc2 := 49) (dk D_X13_makes 25 rfl) (V_lg 4 rfl) rfl ?_
      refine V_iload_n (pc2 := 50) (dk D_X13_makes 26 rfl) rfl (V_lg 1 rfl) rfl ?_
      obtain ⟨e4, he5, hc6⟩ := h
      refine V_callV (as := [_, _, _]) (st := [_, _]) (M' := MX13_made) (ci := 13) (pc2 := 53) (dk D_X13_makes 27 rfl) ml_13_604 mv_X13_made rfl rfl (by decide) rfl (Nat.le_of_ble_eq_true rfl) rfl he5 h1 hc6 (RI.k fun y7 S8 h => ?_)
      obtain ⟨h13, h⟩ := h
      obtain ⟨e9, he10, hc11⟩ := h
      refine V_callV (as := [_, _]) (st := []) (M' := MX13_push) (ci := 13) (pc2 := 56) (dk D_X13_makes 28 rfl) ml_13_497 mv_X13_push rfl rfl (by decide) rfl (Nat.le_of_ble_eq_true rfl) rfl he10 h13 hc11 (RV.k fun  S12 h => ?_)
      exact h
    · have h := h.2 q3
      exact h
theorem w_X13_makes_33 {X : Cx} {d : Nat} {S : Mem} {Q : Res → Mem → Prop} (r0 : Nat) (x1 : Int32) (x2 : Int32) (x3 : Int32) (x4 : Int32) (h : (isK S r0 13) ∧ ∃ e1 : Nat, e1 + 1 ≤ d ∧ C X e1 MX13_arises [vR r0, vI x1, vI 13] S (RV fun  S4 => V X d MX13_makes 56 [(0, vR r0), (1, vI x1), (2, vI x2), (3, vI x3), (4, vI x4)] [] S4 Q)) : V X d MX13_makes 33 [(0, vR r0), (1, vI x1), (2, vI x2), (3, vI x3), (4, vI x4)] [] S Q := by
  refine V_aload_n (pc2 := 34) (dk D_X13_makes 16 rfl) rfl (V_lg 0 rfl) rfl ?_
  refine V_iload_n (pc2 := 35) (dk D_X13_makes 17 rfl) rfl (V_lg 1 rfl) rfl ?_
  refine V_bipush (x := 13) (pc2 := 37) (dk D_X13_makes 18 rfl) (by decide) rfl ?_
  obtain ⟨h5, h⟩ := h
  obtain ⟨e1, he2, hc3⟩ := h
  refine V_callV (as := [_, _]) (st := []) (M' := MX13_arises) (ci := 13) (pc2 := 40) (dk D_X13_makes 19 rfl) ml_13_567 mv_X13_arises rfl rfl (by decide) rfl (Nat.le_of_ble_eq_true rfl) rfl he2 h5 hc3 (RV.k fun  S4 h => ?_)
  refine V_goto (tgt := 56) (dk D_X13_makes 20 rfl) (by decide) ?_
  exact h
theorem w_X13_makes_56 {X : Cx} {d : Nat} {S : Mem} {Q : Res → Mem → Prop} (r0 : Nat) (x1 : Int32) (x2 : Int32) (x3 : Int32) (x4 : Int32) (h : Q (.inl none) S) : V X d MX13_makes 56 [(0, vR r0), (1, vI x1), (2, vI x2), (3, vI x3), (4, vI x4)] [] S Q := by
  exact V_return (dk D_X13_makes 29 rfl) rfl h
def L_X13_calls : List (Nat × Instr × Nat) := [(0, .aload_n 0, 1), (1, .getfield 195, 3), (4, .aload_n 0, 1), (5, .getfield 189, 3), (8, .iload_n 1, 1), (9, .iaload, 1), (10, .iaload, 1), (11, .bipush 60, 2), (13, .if_icmp .ne 13, 3), (16, .aload_n 0, 1), (17, .iload_n 1, 1), (18, .bipush 12, 2), (20, .invokevirtual 567, 3), (23, .goto 10, 3), (26, .aload_n 0, 1), (27, .iload_n 1, 1), (28, .iload_n 2, 1), (29, .iload_n 3, 1), (30, .invokevirtual 501, 3), (33, .return_, 1)]
theorem D_X13_calls : dOk cX13_calls L_X13_calls = true := by decide +kernel
theorem w_X13_calls_0 {X : Cx} {d : Nat} {S : Mem} {Q : Res → Mem → Prop} (r0 : Nat) (x1 : Int32) (x2 : Int32) (x3 : Int32) (h : (isK S r0 13) ∧ (isK S (gR S r0 58) 21) ∧ (vp_in x1 (gN S (gR S r0 58))) ∧ (isK S (gR S r0 60) 21) ∧ (vp_in (gI S (gR S r0 58) (x1 : Int32).toNatClampNeg) (gN S (gR S r0 60))) ∧ ((¬ (gI S (gR S r0 60) ((gI S (gR S r0 58) (x1 : Int32).toNatClampNeg) : Int32).toNatClampNeg) = 60 → ∃ e7 : Nat, e7 + 1 ≤ d ∧ C X e7 MX13_enter [vR r0, vI x1, vI x2, vI x3] S (RV fun  S10 => V X d MX13_calls 33 [(0, vR r0), (1, vI x1), (2, vI x2), (3, vI x3)] [] S10 Q)) ∧ ((gI S (gR S r0 60) ((gI S (gR S r0 58) (x1 : Int32).toNatClampNeg) : Int32).toNatClampNeg) = 60 → ∃ e11 : Nat, e11 + 1 ≤ d ∧ C X e11 MX13_arises [vR r0, vI x1, vI 12] S (RV fun  S14 => V X d MX13_calls 33 [(0, vR r0), (1, vI x1), (2, vI x2), (3, vI x3)] [] S14 Q)))) : V X d MX13_calls 0 [(0, vR r0), (1, vI x1), (2, vI x2), (3, vI x3)] [] S Q := by
  refine V_aload_n (pc2 := 1) (dk D_X13_calls 0 rfl) rfl (V_lg 0 rfl) rfl ?_
  obtain ⟨h1, h⟩ := h
  refine V_getR kc13 (pc2 := 4) 60 (dk D_X13_calls 1 rfl) fl_13_195 (by decide) (fun _ => rfl) rfl h1 ?_
  refine V_aload_n (pc2 := 5) (dk D_X13_calls 2 rfl) rfl (V_lg 0 rfl) rfl ?_
  refine V_getR kc13 (pc2 := 8) 58 (dk D_X13_calls 3 rfl) fl_13_189 (by decide) (fun _ => rfl) rfl h1 ?_
  refine V_iload_n (pc2 := 9) (dk D_X13_calls 4 rfl) rfl (V_lg 1 rfl) rfl ?_
  obtain ⟨h2, h⟩ := h
  obtain ⟨h3, h⟩ := h
  refine V_iald (pc2 := 10) (dk D_X13_calls 5 rfl) rfl h2 h3 ?_
  obtain ⟨h4, h⟩ := h
  obtain ⟨h5, h⟩ := h
  refine V_iald (pc2 := 11) (dk D_X13_calls 6 rfl) rfl h4 h5 ?_
  refine V_bipush (x := 60) (pc2 := 13) (dk D_X13_calls 7 rfl) (by decide) rfl ?_
  refine V_cmpne (tgt := 26) (pc2 := 16) (dk D_X13_calls 8 rfl) (by decide) rfl (fun q6 => ?_) (fun q6 => ?_)
  · have h := h.1 q6
    refine V_aload_n (pc2 := 27) (dk D_X13_calls 14 rfl) rfl (V_lg 0 rfl) rfl ?_
    refine V_iload_n (pc2 := 28) (dk D_X13_calls 15 rfl) rfl (V_lg 1 rfl) rfl ?_
    refine V_iload_n (pc2 := 29) (dk D_X13_calls 16 rfl) rfl (V_lg 2 rfl) rfl ?_
    refine V_iload_n (pc2 := 30) (dk D_X13_calls 17 rfl) rfl (V_lg 3 rfl) rfl ?_
    obtain ⟨e7, he8, hc9⟩ := h
    refine V_callV (as := [_, _, _]) (st := []) (M' := MX13_enter) (ci := 13) (pc2 := 33) (dk D_X13_calls 18 rfl) ml_13_501 mv_X13_enter rfl rfl (by decide) rfl (Nat.le_of_ble_eq_true rfl) rfl he8 h1 hc9 (RV.k fun  S10 h => ?_)
    exact h
  · have h := h.2 q6
    refine V_aload_n (pc2 := 17) (dk D_X13_calls 9 rfl) rfl (V_lg 0 rfl) rfl ?_
    refine V_iload_n (pc2 := 18) (dk D_X13_calls 10 rfl) rfl (V_lg 1 rfl) rfl ?_
    refine V_bipush (x := 12) (pc2 := 20) (dk D_X13_calls 11 rfl) (by decide) rfl ?_
    obtain ⟨e11, he12, hc13⟩ := h
    refine V_callV (as := [_, _]) (st := []) (M' := MX13_arises) (ci := 13) (pc2 := 23) (dk D_X13_calls 12 rfl) ml_13_567 mv_X13_arises rfl rfl (by decide) rfl (Nat.le_of_ble_eq_true rfl) rfl he12 h1 hc13 (RV.k fun  S14 h => ?_)
    refine V_goto (tgt := 33) (dk D_X13_calls 13 rfl) (by decide) ?_
    exact h
theorem w_X13_calls_33 {X : Cx} {d : Nat} {S : Mem} {Q : Res → Mem → Prop} (r0 : Nat) (x1 : Int32) (x2 : Int32) (x3 : Int32) (h : Q (.inl none) S) : V X d MX13_calls 33 [(0, vR r0), (1, vI x1), (2, vI x2), (3, vI x3)] [] S Q := by
  exact V_return (dk D_X13_calls 19 rfl) rfl h
def L_X13_controls : List (Nat × Instr × Nat) := [(0, .aload_n 0, 1), (1, .getfield 189, 3), (4, .iload_n 1, 1), (5, .iaload, 1), (6, .istore 6, 2), (8, .iload_n 3, 1), (9, .tableswitch 421 21 31 #[59, 72, 82, 93, 121, 169, 182, 195, 242, 309, 401], 59), (68, .aload_n 0, 1), (69, .iload_n 1, 1), (70, .aload_n 0, 1), (71, .iload_n 1, 1), (72, .invokevirtual 494, 3), (75, .invokevirtual 607, 3), (78, .goto 371, 3), (81, .aload_n 0, 1), (82, .iload_n 1, 1), (83, .invokevirtual 494, 3), (86, .istore 7, 2), (88, .goto 361, 3), (91, .aload_n 0, 1), (92, .getfield 201, 3), (95, .iload_n 2, 1), (96, .iload 4, 2), (98, .iastore, 1), (99, .goto 350, 3), (102, .aload_n 0, 1), (103, .getfield 201, 3), (106, .iload_n 2, 1), (107, .aload_n 0, 1), (108, .iload_n 1, 1), (109, .invokevirtual 494, 3), (112, .ifCond .ne 8, 3), (115, .iload 4, 2), (117, .goto 9, 3), (120, .aload_n 0, 1), (121, .getfield 201, 3), (124, .iload_n 2, 1), (125, .iaload, 1), (126, .iastore, 1), (127, .goto 322, 3), (130, .aload_n 0, 1), (131, .iload_n 1, 1), (132, .aload_n 0, 1), (133, .iload 4, 2), (135, .aload_n 0, 1), (136, .iload_n 1, 1), (137, .invokevirtual 494, 3), (140, .iload_n 1, 1), (141, .aload_n 0, 1), (142, .getfield 204, 3), (145, .iload_n 2, 1), (146, .iaload, 1), (147, .iload 5, 2), (149, .ifCond .ge 8, 3), (152, .bipush (-9), 2), (154, .goto 15, 3), (157, .aload_n 0, 1), (158, .getfield 216, 3), (161, .bipush 25, 2), (163, .iload_n 2, 1), (164, .imul, 1), (165, .iload 5, 2), (167, .iadd, 1), (168, .iaload, 1), (169, .invokevirtual 525, 3), (172, .invokevirtual 529, 3), (175, .goto 274, 3), (178, .aload_n 0, 1), (179, .iload_n 1, 1), (180, .aload_n 0, 1), (181, .iload_n 1, 1), (182, .invokevirtual 494, 3), (185, .invokestatic 610, 3), (188, .goto 261, 3), (191, .aload_n 0, 1), (192, .iload_n 1, 1), (193, .aload_n 0, 1), (194, .iload_n 1, 1), (195, .invokevirtual 494, 3), (198, .invokevirtual 613, 3), (201, .goto 248, 3), (204, .sipush 1500, 3), (207, .iload 6, 2), (209, .imul, 1), (210, .aload_n 0, 1), (211, .getfield 219, 3), (214, .iload 6, 2), (216, .iaload, 1), (217, .iadd, 1), (218, .istore 8, 2), (220, .aload_n 0, 1), (221, .getfield 219, 3), (224, .iload 6, 2), (226, .dup2, 1), (227, .iaload, 1), (228, .iconst 1, 1), (229, .iadd, 1), (230, .iastore, 1), (231, .aload_n 0, 1), (232, .getfield 222, 3), (235, .iload 8, 2), (237, .iload 4, 2), (239, .iastore, 1), (240, .aload_n 0, 1), (241, .getfield 225, 3), (244, .iload 8, 2), (246, .iconst 0, 1), (247, .iastore, 1), (248, .goto 201, 3), (251, .sipush 1500, 3), (254, .iload 6, 2), (256, .imul, 1), (257, .aload_n 0, 1), (258, .getfield 219, 3), (261, .iload 6, 2), (263, .iaload, 1), (264, .iadd, 1), (265, .iconst 1, 1), (266, .isub, 1), (267, .istore 9, 2), (269, .aload_n 0, 1), (270, .getfield 125, 3), (273, .iload 4, 2), (275, .iaload, 1), (276, .ifCond .lt 15, 3), (279, .aload_n 0, 1), (280, .iload_n 1, 1), (281, .iload 9, 2), (283, .iconst 0, 1), (284, .iconst 0, 1), (285, .invokevirtual 539, 3), (288, .goto 161, 3), (291, .aload_n 0, 1), (292, .getfield 219, 3), (295, .iload 6, 2), (297, .dup2, 1), (298, .iaload, 1), (299, .iconst 1, 1), (300, .isub, 1), (301, .iastore, 1), (302, .aload_n 0, 1), (303, .getfield 201, 3), (306, .iload_n 2, 1), (307, .aload_n 0, 1), (308, .getfield 128, 3), (311, .iload 4, 2), (313, .iaload, 1), (314, .iastore, 1), (315, .goto 134, 3), (318, .sipush 1500, 3), (321, .iload 6, 2), (323, .imul, 1), (324, .aload_n 0, 1), (325, .getfield 219, 3), (328, .iload 6, 2), (330, .iaload, 1), (331, .iadd, 1), (332, .iconst 1, 1), (333, .isub, 1), (334, .istore 10, 2), (336, .aload_n 0, 1), (337, .getfield 228, 3), (340, .iload 10, 2), (342, .iaload, 1), (343, .istore 11, 2), (345, .aload_n 0, 1), (346, .getfield 231, 3), (349, .iload 10, 2), (351, .iaload, 1), (352, .istore 12, 2), (354, .aload_n 0, 1), (355, .getfield 219, 3), (358, .iload 6, 2), (360, .dup2, 1), (361, .iaload, 1), (362, .iconst 1, 1), (363, .isub, 1), (364, .iastore, 1), (365, .aload_n 0, 1), (366, .getfield 201, 3), (369, .iload_n 2, 1), (370, .aload_n 0, 1), (371, .getfield 128, 3), (374, .iload 4, 2), (376, .iaload, 1), (377, .iastore, 1), (378, .iload 11, 2), (380, .iconst 1, 1), (381, .if_icmp .ne 13, 3), (384, .aload_n 0, 1), (385, .iload_n 1, 1), (386, .iload 12, 2), (388, .invokevirtual 529, 3), (391, .goto 58, 3), (394, .iload 11, 2), (396, .iconst 2, 1), (397, .if_icmp .ne 52, 3), (400, .aload_n 0, 1), (401, .iload_n 1, 1), (402, .iload 12, 2), (404, .invokestatic 610, 3), (407, .goto 42, 3), (410, .aload_n 0, 1), (411, .getfield 213, 3), (414, .bipush 40, 2), (416, .iload_n 2, 1), (417, .imul, 1), (418, .iload 4, 2), (420, .iadd, 1), (421, .aload_n 0, 1), (422, .iload_n 1, 1), (423, .invokevirtual 494, 3), (426, .iastore, 1), (427, .goto 22, 3), (430, .aload_n 0, 1), (431, .iload_n 1, 1), (432, .aload_n 0, 1), (433, .getfield 213, 3), (436, .bipush 40, 2), (438, .iload_n 2, 1), (439, .imul, 1), (440, .iload 5, 2), (442, .iadd, 1), (443, .iaload, 1), (444, .iconst 0, 1), (445, .iconst 2, 1), (446, .invokevirtual 588, 3), (449, .return_, 1)]
theorem D_X13_controls : dOk cX13_controls L_X13_controls = true := by decide +kernel
set_option maxRecDepth 100000 in
theorem w_X13_controls_0 {X : Cx} {d : Nat} {S : Mem} {Q : Res → Mem → Prop} (r0 : Nat) (x1 : Int32) (x2 : Int32) (x3 : Int32) (x4 : Int32) (x5 : Int32) (h : (isK S r0 13) ∧ (isK S (gR S r0 58) 21) ∧ (vp_in x1 (gN S (gR S r0 58))) ∧ ((x3 = 21 → ∃ e18 : Nat, e18 + 1 ≤ d ∧ C X e18 MX13_pop [vR r0, vI x1] S (RI fun y21 S22 => (isK S22 r0 13) ∧ ∃ e23 : Nat, e23 + 1 ≤ d ∧ C X e23 MX13_tells [vR r0, vI x1, vI y21] S22 (RV fun  S26 => V X d MX13_controls 449 [(0, vR r0), (1, vI x1), (2, vI x2), (3, vI x3), (4, vI x4), (5, vI x5), (6, vI (gI S (gR S r0 58) (x1 : Int32).toNatClampNeg))] [] S26 Q))) ∧ (x3 = 22 → ∃ e28 : Nat, e28 + 1 ≤ d ∧ C X e28 MX13_pop [vR r0, vI x1] S (RI fun y31 S32 => V X d MX13_controls 449 [(0, vR r0), (1, vI x1), (2, vI x2), (3, vI x3), (4, vI x4), (5, vI x5), (6, vI (gI S (gR S r0 58) (x1 : Int32).toNatClampNeg))] [] S32 Q)) ∧ (x3 = 23 → (isK S (gR S r0 62) 21) ∧ (vp_in x2 (gN S (gR S r0 62))) ∧ ∀ S35 : Mem, S35 = uI S (gR S r0 62) ((x2 : Int32).toNatClampNeg) x4 → V X d MX13_controls 449 [(0, vR r0), (1, vI x1), (2, vI x2), (3, vI x3), (4, vI x4), (5, vI x5), (6, vI (gI S (gR S r0 58) (x1 : Int32).toNatClampNeg))] [] S35 Q) ∧ (x3 = 24 → ∃ e36 : Nat, e36 + 1 ≤ d ∧ C X e36 MX13_pop [vR r0, vI x1] S (RI fun y39 S40 => ((¬ y39 = 0 → (isK S40 r0 13) ∧ (isK S40 (gR S40 r0 62) 21) ∧ (vp_in x2 (gN S40 (gR S40 r0 62))) ∧ V X d MX13_controls 126 [(0, vR r0), (1, vI x1), (2, vI x2), (3, vI x3), (4, vI x4), (5, vI x5), (6, vI (gI S (gR S r0 58) (x1 : Int32).toNatClampNeg))] [vI (gI S40 (gR S40 r0 62) (x2 : Int32).toNatClampNeg), vI x2, vR (gR S r0 62)] S40 Q) ∧ (y39 = 0 → V X d MX13_controls 126 [(0, vR r0), (1, vI x1), (2, vI x2), (3, vI x3), (4, vI x4), (5, vI x5), (6, vI (gI S (gR S r0 58) (x1 : Int32).toNatClampNeg))] [vI x4, vI x2, vR (gR S r0 62)] S40 Q)))) ∧ (x3 = 25 → ∃ e45 : Nat, e45 + 1 ≤ d ∧ C X e45 MX13_pop [vR r0, vI x1] S (RI fun y48 S49 => (isK S49 r0 13) ∧ (isK S49 (gR S49 r0 63) 21) ∧ (vp_in x2 (gN S49 (gR S49 r0 63))) ∧ ((0 ≤ x5 → (isK S49 (gR S49 r0 67) 21) ∧ (vp_in ((25 * x2) + x5) (gN S49 (gR S49 r0 67))) ∧ V X d MX13_controls 169 [(0, vR r0), (1, vI x1), (2, vI x2), (3, vI x3), (4, vI x4), (5, vI x5), (6, vI (gI S (gR S r0 58) (x1 : Int32).toNatClampNeg))] [vI (gI S49 (gR S49 r0 67) (((25 * x2) + x5) : Int32).toNatClampNeg), vI (gI S49 (gR S49 r0 63) (x2 : Int32).toNatClampNeg), vI x1, vI y48, vI x4, vR r0, vI x1, vR r0] S49 Q) ∧ (¬ 0 ≤ x5 → V X d MX13_controls 169 [(0, vR r0), (1, vI x1), (2, vI x2), (3, vI x3), (4, vI x4), (5, vI x5), (6, vI (gI S (gR S r0 58) (x1 : Int32).toNatClampNeg))] [vI (-9), vI (gI S49 (gR S49 r0 63) (x2 : Int32).toNatClampNeg), vI x1, vI y48, vI x4, vR r0, vI x1, vR r0] S49 Q)))) ∧ (x3 = 26 → ∃ e56 : Nat, e56 + 1 ≤ d ∧ C X e56 MX13_pop [vR r0, vI x1] S (RI fun y59 S60 => ∃ e61 : Nat, e61 + 1 ≤ d ∧ C X e61 MX13_gives [vR r0, vI x1, vI y59] S60 (RV fun  S64 => V X d MX13_controls 449 [(0, vR r0), (1, vI x1), (2, vI x2), (3, vI x3), (4, vI x4), (5, vI x5), (6, vI (gI S (gR S r0 58) (x1 : Int32).toNatClampNeg))] [] S64 Q))) ∧ (x3 = 27 → ∃ e65 : Nat, e65 + 1 ≤ d ∧ C X e65 MX13_pop [vR r0, vI x1] S (RI fun y68 S69 => (isK S69 r0 13) ∧ ∃ e70 : Nat, e70 + 1 ≤ d ∧ C X e70 MX13_shuts [vR r0, vI x1, vI y68] S69 (RV fun  S73 => V X d MX13_controls 449 [(0, vR r0), (1, vI x1), (2, vI x2), (3, vI x3), (4, vI x4), (5, vI x5), (6, vI (gI S (gR S r0 58) (x1 : Int32).toNatClampNeg))] [] S73 Q))) ∧ (x3 = 28 → (isK S (gR S r0 68) 21) ∧ (vp_in (gI S (gR S r0 58) (x1 : Int32).toNatClampNeg) (gN S (gR S r0 68))) ∧ (vp_in (gI S (gR S r0 58) (x1 : Int32).toNatClampNeg) (gN S (gR S r0 68))) ∧ (vp_in (gI S (gR S r0 58) (x1 : Int32).toNatClampNeg) (gN S (gR S r0 68))) ∧ ∀ S79 : Mem, S79 = uI S (gR S r0 68) (((gI S (gR S r0 58) (x1 : Int32).toNatClampNeg) : Int32).toNatClampNeg) ((gI S (gR S r0 68) ((gI S (gR S r0 58) (x1 : Int32).toNatClampNeg) : Int32).toNatClampNeg) + 1) → (isK S (gR S r0 69) 21) ∧ (vp_in ((1500 * (gI S (gR S r0 58) (x1 : Int32).toNatClampNeg)) + (gI S (gR S r0 68) ((gI S (gR S r0 58) (x1 : Int32).toNatClampNeg) : Int32).toNatClampNeg)) (gN S (gR S r0 69))) ∧ ∀ S82 : Mem, S82 = uI S79 (gR S r0 69) ((((1500 * (gI S (gR S r0 58) (x1 : Int32).toNatClampNeg)) + (gI S (gR S r0 68) ((gI S (gR S r0 58) (x1 : Int32).toNatClampNeg) : Int32).toNatClampNeg)) : Int32).toNatClampNeg) x4 → (isK S (gR S r0 70) 21) ∧ (vp_in ((1500 * (gI S (gR S r0 58) (x1 : Int32).toNatClampNeg)) + (gI S (gR S r0 68) ((gI S (gR S r0 58) (x1 : Int32).toNatClampNeg) : Int32).toNatClampNeg)) (gN S (gR S r0 70))) ∧ ∀ S85 : Mem, S85 = uI S82 (gR S r0 70) ((((1500 * (gI S (gR S r0 58) (x1 : Int32).toNatClampNeg)) + (gI S (gR S r0 68) ((gI S (gR S r0 58) (x1 : Int32).toNatClampNeg) : Int32).toNatClampNeg)) : Int32).toNatClampNeg) 0 → V X d MX13_controls 449 [(0, vR r0), (1, vI x1), (2, vI x2), (3, vI x3), (4, vI x4), (5, vI x5), (6, vI (gI S (gR S r0 58) (x1 : Int32).toNatClampNeg))] [] S85 Q) ∧ (x3 = 29 → (isK S (gR S r0 68) 21) ∧ (vp_in (gI S (gR S r0 58) (x1 : Int32).toNatClampNeg) (gN S (gR S r0 68))) ∧ (isK S (gR S r0 27) 21) ∧ (vp_in x4 (gN S (gR S r0 27))) ∧ (((gI S (gR S r0 27) (x4 : Int32).toNatClampNeg) < 0 → (vp_in (gI S (gR S r0 58) (x1 : Int32).toNatClampNeg) (gN S (gR S r0 68))) ∧ (vp_in (gI S (gR S r0 58) (x1 : Int32).toNatClampNeg) (gN S (gR S r0 68))) ∧ ∀ S93 : Mem, S93 = uI S (gR S r0 68) (((gI S (gR S r0 58) (x1 : Int32).toNatClampNeg) : Int32).toNatClampNeg) ((gI S (gR S r0 68) ((gI S (gR S r0 58) (x1 : Int32).toNatClampNeg) : Int32).toNatClampNeg) - 1) → (isK S (gR S r0 28) 21) ∧ (vp_in x4 (gN S (gR S r0 28))) ∧ (isK S (gR S r0 62) 21) ∧ (vp_in x2 (gN S (gR S r0 62))) ∧ ∀ S98 : Mem, S98 = uI S93 (gR S r0 62) ((x2 : Int32).toNatClampNeg) (gI S93 (gR S r0 28) (x4 : Int32).toNatClampNeg) → V X d MX13_controls 449 [(0, vR r0), (1, vI x1), (2, vI x2), (3, vI x3), (4, vI x4), (5, vI x5), (6, vI (gI S (gR S r0 58) (x1 : Int32).toNatClampNeg))] [] S98 Q) ∧ (¬ (gI S (gR S r0 27) (x4 : Int32).toNatClampNeg) < 0 → ∃ e99 : Nat, e99 + 1 ≤ d ∧ C X e99 MX13_finishes [vR r0, vI x1, vI (((1500 * (gI S (gR S r0 58) (x1 : Int32).toNatClampNeg)) + (gI S (gR S r0 68) ((gI S (gR S r0 58) (x1 : Int32).toNatClampNeg) : Int32).toNatClampNeg)) - 1), vI 0, vI 0] S (RV fun  S102 => V X d MX13_controls 449 [(0, vR r0), (1, vI x1), (2, vI x2), (3, vI x3), (4, vI x4), (5, vI x5), (6, vI (gI S (gR S r0 58) (x1 : Int32).toNatClampNeg))] [] S102 Q)))) ∧ (x3 = 30 → (isK S (gR S r0 68) 21) ∧ (vp_in (gI S (gR S r0 58) (x1 : Int32).toNatClampNeg) (gN S (gR S r0 68))) ∧ (isK S (gR S r0 71) 21) ∧ (vp_in (((1500 * (gI S (gR S r0 58) (x1 : Int32).toNatClampNeg)) + (gI S (gR S r0 68) ((gI S (gR S r0 58) (x1 : Int32).toNatClampNeg) : Int32).toNatClampNeg)) - 1) (gN S (gR S r0 71))) ∧ (isK S (gR S r0 72) 21) ∧ (vp_in (((1500 * (gI S (gR S r0 58) (x1 : Int32).toNatClampNeg)) + (gI S (gR S r0 68) ((gI S (gR S r0 58) (x1 : Int32).toNatClampNeg) : Int32).toNatClampNeg)) - 1) (gN S (gR S r0 72))) ∧ (vp_in (gI S (gR S r0 58) (x1 : Int32).toNatClampNeg) (gN S (gR S r0 68))) ∧ (vp_in (gI S (gR S r0 58) (x1 : Int32).toNatClampNeg) (gN S (gR S r0 68))) ∧ ∀ S111 : Mem, S111 = uI S (gR S r0 68) (((gI S (gR S r0 58) (x1 : Int32).toNatClampNeg) : Int32).toNatClampNeg) ((gI S (gR S r0 68) ((gI S (gR S r0 58) (x1 : Int32).toNatClampNeg) : Int32).toNatClampNeg) - 1) → (isK S (gR S r0 28) 21) ∧ (vp_in x4 (gN S (gR S r0 28))) ∧ (isK S (gR S r0 62) 21) ∧ (vp_in x2 (gN S (gR S r0 62))) ∧ ∀ S116 : Mem, S116 = uI S111 (gR S r0 62) ((x2 : Int32).toNatClampNeg) (gI S111 (gR S r0 28) (x4 : Int32).toNatClampNeg) → ((¬ (gI S (gR S r0 71) ((((1500 * (gI S (gR S r0 58) (x1 : Int32).toNatClampNeg)) + (gI S (gR S r0 68) ((gI S (gR S r0 58) (x1 : Int32).toNatClampNeg) : Int32).toNatClampNeg)) - 1) : Int32).toNatClampNeg) = 1 → ((¬ (gI S (gR S r0 71) ((((1500 * (gI S (gR S r0 58) (x1 : Int32).toNatClampNeg)) + (gI S (gR S r0 68) ((gI S (gR S r0 58) (x1 : Int32).toNatClampNeg) : Int32).toNatClampNeg)) - 1) : Int32).toNatClampNeg) = 2 → V X d MX13_controls 449 [(0, vR r0), (1, vI x1), (2, vI x2), (3, vI x3), (4, vI x4), (5, vI x5), (6, vI (gI S (gR S r0 58) (x1 : Int32).toNatClampNeg))] [] S116 Q) ∧ ((gI S (gR S r0 71) ((((1500 * (gI S (gR S r0 58) (x1 : Int32).toNatClampNeg)) + (gI S (gR S r0 68) ((gI S (gR S r0 58) (x1 : Int32).toNatClampNeg) : Int32).toNatClampNeg)) - 1) : Int32).toNatClampNeg) = 2 → ∃ e119 : Nat, e119 + 1 ≤ d ∧ C X e119 MX13_gives [vR r0, vI x1, vI (gI S (gR S r0 72) ((((1500 * (gI S (gR S r0 58) (x1 : Int32).toNatClampNeg)) + (gI S (gR S r0 68) ((gI S (gR S r0 58) (x1 : Int32).toNatClampNeg) : Int32).toNatClampNeg)) - 1) : Int32).toNatClampNeg)] S116 (RV fun  S122 => V X d MX13_controls 449 [(0, vR r0), (1, vI x1), (2, vI x2), (3, vI x3), (4, vI x4), (5, vI x5), (6, vI (gI S (gR S r0 58) (x1 : Int32).toNatClampNeg))] [] S122 Q)))) ∧ ((gI S (gR S r0 71) ((((1500 * (gI S (gR S r0 58) (x1 : Int32).toNatClampNeg)) + (gI S (gR S r0 68) ((gI S (gR S r0 58) (x1 : Int32).toNatClampNeg) : Int32).toNatClampNeg)) - 1) : Int32).toNatClampNeg) = 1 → ∃ e123 : Nat, e123 + 1 ≤ d ∧ C X e123 MX13_raise [vR r0, vI x1, vI (gI S (gR S r0 72) ((((1500 * (gI S (gR S r0 58) (x1 : Int32).toNatClampNeg)) + (gI S (gR S r0 68) ((gI S (gR S r0 58) (x1 : Int32).toNatClampNeg) : Int32).toNatClampNeg)) - 1) : Int32).toNatClampNeg)] S116 (RV fun  S126 => V X d MX13_controls 449 [(0, vR r0), (1, vI x1), (2, vI x2), (3, vI x3), (4, vI x4), (5, vI x5), (6, vI (gI S (gR S r0 58) (x1 : Int32).toNatClampNeg))] [] S126 Q)))) ∧ (x3 = 31 → ∃ e127 : Nat, e127 + 1 ≤ d ∧ C X e127 MX13_pop [vR r0, vI x1] S (RI fun y130 S131 => (isK S131 (gR S r0 66) 21) ∧ (vp_in ((40 * x2) + x4) (gN S131 (gR S r0 66))) ∧ ∀ S134 : Mem, S134 = uI S131 (gR S r0 66) ((((40 * x2) + x4) : Int32).toNatClampNeg) y130 → V X d MX13_controls 449 [(0, vR r0), (1, vI x1), (2, vI x2), (3, vI x3), (4, vI x4), (5, vI x5), (6, vI (gI S (gR S r0 58) (x1 : Int32).toNatClampNeg))] [] S134 Q)) ∧ (¬ (x3 = 21 ∨ x3 = 22 ∨ x3 = 23 ∨ x3 = 24 ∨ x3 = 25 ∨ x3 = 26 ∨ x3 = 27 ∨ x3 = 28 ∨ x3 = 29 ∨ x3 = 30 ∨ x3 = 31) → (isK S (gR S r0 66) 21) ∧ (vp_in ((40 * x2) + x5) (gN S (gR S r0 66))) ∧ ∃ e8 : Nat, e8 + 1 ≤ d ∧ C X e8 MX13_resumes [vR r0, vI x1, vI (gI S (gR S r0 66) (((40 * x2) + x5) : Int32).toNatClampNeg), vI 0, vI 2] S (RV fun  S11 => V X d MX13_controls 449 [(0, vR r0), (1, vI x1), (2, vI x2), (3, vI x3), (4, vI x4), (5, vI x5), (6, vI (gI S (gR S r0 58) (x1 : Int32).toNatClampNeg))] [] S11 Q)))) : V X d MX13_controls 0 [(0, vR r0), (1, vI x1), (2, vI x2), (3, vI x3), (4, vI x4), (5, vI x5)] [] S Q := by
  refine V_aload_n (pc2 := 1) (dk D_X13_controls 0 rfl) rfl (V_lg 0 rfl) rfl ?_
  obtain ⟨h1, h⟩ := h
  refine V_getR kc13 (pc2 := 4) 58 (dk D_X13_controls 1 rfl) fl_13_189 (by decide) (fun _ => rfl) rfl h1 ?_
  refine V_iload_n (pc2 := 5) (dk D_X13_controls 2 rfl) rfl (V_lg 1 rfl) rfl ?_
  obtain ⟨h2, h⟩ := h
  obtain ⟨h3, h⟩ := h
  refine V_iald (pc2 := 6) (dk D_X13_controls 3 rfl) rfl h2 h3 ?_
  refine V_istore (pc2 := 8) (lv2 := [(0, _), (1, _), (2, _), (3, _), (4, _), (5, _), (6, _)]) (dk D_X13_controls 4 rfl) (by decide) rfl rfl ?_
  refine V_iload_n (pc2 := 9) (dk D_X13_controls 5 rfl) rfl (V_lg 3 rfl) rfl ?_
  refine V_table (dk D_X13_controls 6 rfl) [68, 81, 91, 102, 130, 178, 191, 204, 251, 318, 410] 430 (by decide) rfl (by decide) (fun q4 => ?_) (fun j5 hj q4 => ?_)
  · have h := h.2.2.2.2.2.2.2.2.2.2.2 (by rintro (hk | hk | hk | hk | hk | hk | hk | hk | hk | hk | hk) <;> (rw [hk] at q4; revert q4; decide))
    refine V_aload_n (pc2 := 431) (dk D_X13_controls 214 rfl) rfl (V_lg 0 rfl) rfl ?_
    refine V_iload_n (pc2 := 432) (dk D_X13_controls 215 rfl) rfl (V_lg 1 rfl) rfl ?_
    refine V_aload_n (pc2 := 433) (dk D_X13_controls 216 rfl) rfl (V_lg 0 rfl) rfl ?_
    refine V_getR kc13 (pc2 := 436) 66 (dk D_X13_controls 217 rfl) fl_13_213 (by decide) (fun _ => rfl) rfl h1 ?_
    refine V_bipush (x := 40) (pc2 := 438) (dk D_X13_controls 218 rfl) (by decide) rfl ?_
    refine V_iload_n (pc2 := 439) (dk D_X13_controls 219 rfl) rfl (V_lg 2 rfl) rfl ?_
    refine V_imul (pc2 := 440) (dk D_X13_controls 220 rfl) rfl ?_
    refine V_iload (pc2 := 442) (dk D_X13_controls 221 rfl) (V_lg 5 rfl) rfl ?_
    refine V_iadd (pc2 := 443) (dk D_X13_controls 222 rfl) rfl ?_
    obtain ⟨h12, h⟩ := h
    obtain ⟨h13, h⟩ := h
    refine V_iald (pc2 := 444) (dk D_X13_controls 223 rfl) rfl h12 h13 ?_
    refine V_iconst (x := 0) (pc2 := 445) (dk D_X13_controls 224 rfl) (by decide) rfl ?_
    refine V_iconst (x := 2) (pc2 := 446) (dk D_X13_controls 225 rfl) (by decide) rfl ?_
    obtain ⟨e14, he15, hc16⟩ := h
    refine V_callV (as := [_, _, _, _]) (st := []) (M' := MX13_resumes) (ci := 13) (pc2 := 449) (dk D_X13_controls 226 rfl) ml_13_588 mv_X13_resumes rfl rfl (by decide) rfl (Nat.le_of_ble_eq_true rfl) rfl he15 h1 hc16 (RV.k fun  S17 h => ?_)
    exact h
  · have hj2 : j5 = 0 ∨ j5 = 1 ∨ j5 = 2 ∨ j5 = 3 ∨ j5 = 4 ∨ j5 = 5 ∨ j5 = 6 ∨ j5 = 7 ∨ j5 = 8 ∨ j5 = 9 ∨ j5 = 10 := by simp at hj; omega
    clear hj
    rcases hj2 with rfl | rfl | rfl | rfl | rfl | rfl | rfl | rfl | rfl | rfl | rfl
    · have hx : x3 = 21 := Int32.toInt_inj.mp (by rw [q4]; decide)
      have h := h.1 hx
      refine V_aload_n (pc2 := 69) (dk D_X13_controls 7 rfl) rfl (V_lg 0 rfl) rfl ?_
      refine V_iload_n (pc2 := 70) (dk D_X13_controls 8 rfl) rfl (V_lg 1 rfl) rfl ?_
      refine V_aload_n (pc2 := 71) (dk D_X13_controls 9 rfl) rfl (V_lg 0 rfl) rfl ?_
      refine V_iload_n (pc2 := 72) (dk D_X13_controls 10 rfl) rfl (V_lg 1 rfl) rfl ?_
      obtain ⟨e18, he19, hc20⟩ := h
      refine V_callV (as := [_]) (st := [_, _]) (M' := MX13_pop) (ci := 13) (pc2 := 75) (dk D_X13_controls 11 rfl) ml_13_494 mv_X13_pop rfl rfl (by decide) rfl (Nat.le_of_ble_eq_true rfl) rfl he19 h1 hc20 (RI.k fun y21 S22 h => ?_)
      obtain ⟨h27, h⟩ := h
      obtain ⟨e23, he24, hc25⟩ := h
      refine V_callV (as := [_, _]) (st := []) (M' := MX13_tells) (ci := 13) (pc2 := 78) (dk D_X13_controls 12 rfl) ml_13_607 mv_X13_tells rfl rfl (by decide) rfl (Nat.le_of_ble_eq_true rfl) rfl he24 h27 hc25 (RV.k fun  S26 h => ?_)
      refine V_goto (tgt := 449) (dk D_X13_controls 13 rfl) (by decide) ?_
      exact h
    · have hx : x3 = 22 := Int32.toInt_inj.mp (by rw [q4]; decide)
      have h := h.2.1 hx
      refine V_aload_n (pc2 := 82) (dk D_X13_controls 14 rfl) rfl (V_lg 0 rfl) rfl ?_
      refine V_iload_n (pc2 := 83) (dk D_X13_controls 15 rfl) rfl (V_lg 1 rfl) rfl ?_
      obtain ⟨e28, he29, hc30⟩ := h
      refine V_callV (as := [_]) (st := []) (M' := MX13_pop) (ci := 13) (pc2 := 86) (dk D_X13_controls 16 rfl) ml_13_494 mv_X13_pop rfl rfl (by decide) rfl (Nat.le_of_ble_eq_true rfl) rfl he29 h1 hc30 (RI.k fun y31 S32 h => ?_)
      refine V_istore (pc2 := 88) (lv2 := [(0, _), (1, _), (2, _), (3, _), (4, _), (5, _), (6, _), (7, _)]) (dk D_X13_controls 17 rfl) (by decide) rfl rfl ?_
      refine V_goto (tgt := 449) (dk D_X13_controls 18 rfl) (by decide) ?_
      refine V_pick [0, 1, 2, 3, 4, 5, 6] (lv2 := [(0, _), (1, _), (2, _), (3, _), (4, _), (5, _), (6, _)]) rfl ?_
      exact h
    · have hx : x3 = 23 := Int32.toInt_inj.mp (by rw [q4]; decide)
      have h := h.2.2.1 hx
      refine V_aload_n (pc2 := 92) (dk D_X13_controls 19 rfl) rfl (V_lg 0 rfl) rfl ?_
      refine V_getR kc13 (pc2 := 95) 62 (dk D_X13_controls 20 rfl) fl_13_201 (by decide) (fun _ => rfl) rfl h1 ?_
      refine V_iload_n (pc2 := 96) (dk D_X13_controls 21 rfl) rfl (V_lg 2 rfl) rfl ?_
      refine V_iload (pc2 := 98) (dk D_X13_controls 22 rfl) (V_lg 4 rfl) rfl ?_
      obtain ⟨h33, h⟩ := h
      obtain ⟨h34, h⟩ := h
      refine V_iast (pc2 := 99) (dk D_X13_controls 23 rfl) rfl h33 h34 ?_
      have h := h _ rfl
      refine V_goto (tgt := 449) (dk D_X13_controls 24 rfl) (by decide) ?_
      exact h
    · have hx : x3 = 24 := Int32.toInt_inj.mp (by rw [q4]; decide)
      have h := h.2.2.2.1 hx
      refine V_aload_n (pc2 := 103) (dk D_X13_controls 25 rfl) rfl (V_lg 0 rfl) rfl ?_
      refine V_getR kc13 (pc2 := 106) 62 (dk D_X13_controls 26 rfl) fl_13_201 (by decide) (fun _ => rfl) rfl h1 ?_
      refine V_iload_n (pc2 := 107) (dk D_X13_controls 27 rfl) rfl (V_lg 2 rfl) rfl ?_
      refine V_aload_n (pc2 := 108) (dk D_X13_controls 28 rfl) rfl (V_lg 0 rfl) rfl ?_
      refine V_iload_n (pc2 := 109) (dk D_X13_controls 29 rfl) rfl (V_lg 1 rfl) rfl ?_
      obtain ⟨e36, he37, hc38⟩ := h
      refine V_callV (as := [_]) (st := [_, _]) (M' := MX13_pop) (ci := 13) (pc2 := 112) (dk D_X13_controls 30 rfl) ml_13_494 mv_X13_pop rfl rfl (by decide) rfl (Nat.le_of_ble_eq_true rfl) rfl he37 h1 hc38 (RI.k fun y39 S40 h => ?_)
      refine V_ifne (tgt := 120) (pc2 := 115) (dk D_X13_controls 31 rfl) (by decide) rfl (fun q41 => ?_) (fun q41 => ?_)
      · have h := h.1 q41
        refine V_aload_n (pc2 := 121) (dk D_X13_controls 34 rfl) rfl (V_lg 0 rfl) rfl ?_
        obtain ⟨h42, h⟩ := h
        refine V_getR kc13 (pc2 := 124) 62 (dk D_X13_controls 35 rfl) fl_13_201 (by decide) (fun _ => rfl) rfl h42 ?_
        refine V_iload_n (pc2 := 125) (dk D_X13_controls 36 rfl) rfl (V_lg 2 rfl) rfl ?_
        obtain ⟨h43, h⟩ := h
        obtain ⟨h44, h⟩ := h
        refine V_iald (pc2 := 126) (dk D_X13_controls 37 rfl) rfl h43 h44 ?_
        exact h
      · have h := h.2 q41
        refine V_iload (pc2 := 117) (dk D_X13_controls 32 rfl) (V_lg 4 rfl) rfl ?_
        refine V_goto (tgt := 126) (dk D_X13_controls 33 rfl) (by decide) ?_
        exact h
    · have hx : x3 = 25 := Int32.toInt_inj.mp (by rw [q4]; decide)
      have h := h.2.2.2.2.1 hx
      refine V_aload_n (pc2 := 131) (dk D_X13_controls 40 rfl) rfl (V_lg 0 rfl) rfl ?_
      refine V_iload_n (pc2 := 132) (dk D_X13_controls 41 rfl) rfl (V_lg 1 rfl) rfl ?_
      refine V_aload_n (pc2 := 133) (dk D_X13_controls 42 rfl) rfl (V_lg 0 rfl) rfl ?_
      refine V_iload (pc2 := 135) (dk D_X13_controls 43 rfl) (V_lg 4 rfl) rfl ?_
      refine V_aload_n (pc2 := 136) (dk D_X13_controls 44 rfl) rfl (V_lg 0 rfl) rfl ?_
      refine V_iload_n (pc2 := 137) (dk D_X13_controls 45 rfl) rfl (V_lg 1 rfl) rfl ?_
      obtain ⟨e45, he46, hc47⟩ := h
      refine V_callV (as := [_]) (st := [_, _, _, _]) (M' := MX13_pop) (ci := 13) (pc2 := 140) (dk D_X13_controls 46 rfl) ml_13_494 mv_X13_pop rfl rfl (by decide) rfl (Nat.le_of_ble_eq_true rfl) rfl he46 h1 hc47 (RI.k fun y48 S49 h => ?_)
      refine V_iload_n (pc2 := 141) (dk D_X13_controls 47 rfl) rfl (V_lg 1 rfl) rfl ?_
      refine V_aload_n (pc2 := 142) (dk D_X13_controls 48 rfl) rfl (V_lg 0 rfl) rfl ?_
      obtain ⟨h50, h⟩ := h
      refine V_getR kc13 (pc2 := 145) 63 (dk D_X13_controls 49 rfl) fl_13_204 (by decide) (fun _ => rfl) rfl h50 ?_
      refine V_iload_n (pc2 := 146) (dk D_X13_controls 50 rfl) rfl (V_lg 2 rfl) rfl ?_
      obtain ⟨h51, h⟩ := h
      obtain ⟨h52, h⟩ := h
      refine V_iald (pc2 := 147) (dk D_X13_controls 51 rfl) rfl h51 h52 ?_
      refine V_iload (pc2 := 149) (dk D_X13_controls 52 rfl) (V_lg 5 rfl) rfl ?_
      refine V_ifge (tgt := 157) (pc2 := 152) (dk D_X13_controls 53 rfl) (by decide) rfl (fun q53 => ?_) (fun q53 => ?_)
      · have h := h.1 q53
        refine V_aload_n (pc2 := 158) (dk D_X13_controls 56 rfl) rfl (V_lg 0 rfl) rfl ?_
        refine V_getR kc13 (pc2 := 161) 67 (dk D_X13_controls 57 rfl) fl_13_216 (by decide) (fun _ => rfl) rfl h50 ?_
        refine V_bipush (x := 25) (pc2 := 163) (dk D_X13_controls 58 rfl) (by decide) rfl ?_
        refine V_iload_n (pc2 := 164) (dk D_X13_controls 59 rfl) rfl (V_lg 2 rfl) rfl ?_
        refine V_imul (pc2 := 165) (dk D_X13_controls 60 rfl) rfl ?_
        refine V_iload (pc2 := 167) (dk D_X13_controls 61 rfl) (V_lg 5 rfl) rfl ?_
        refine V_iadd (pc2 := 168) (dk D_X13_controls 62 rfl) rfl ?_
        obtain ⟨h54, h⟩ := h
        obtain ⟨h55, h⟩ := h
        refine V_iald (pc2 := 169) (dk D_X13_controls 63 rfl) rfl h54 h55 ?_
        exact h
      · have h := h.2 q53
        refine V_bipush (x := (-9)) (pc2 := 154) (dk D_X13_controls 54 rfl) (by decide) rfl ?_
        refine V_goto (tgt := 169) (dk D_X13_controls 55 rfl) (by decide) ?_
        exact h
    · have hx : x3 = 26 := Int32.toInt_inj.mp (by rw [q4]; decide)
      have h := h.2.2.2.2.2.1 hx
      refine V_aload_n (pc2 := 179) (dk D_X13_controls 67 rfl) rfl (V_lg 0 rfl) rfl ?_
      refine V_iload_n (pc2 := 180) (dk D_X13_controls 68 rfl) rfl (V_lg 1 rfl) rfl ?_
      refine V_aload_n (pc2 := 181) (dk D_X13_controls 69 rfl) rfl (V_lg 0 rfl) rfl ?_
      refine V_iload_n (pc2 := 182) (dk D_X13_controls 70 rfl) rfl (V_lg 1 rfl) rfl ?_
      obtain ⟨e56, he57, hc58⟩ := h
      refine V_callV (as := [_]) (st := [_, _]) (M' := MX13_pop) (ci := 13) (pc2 := 185) (dk D_X13_controls 71 rfl) ml_13_494 mv_X13_pop rfl rfl (by decide) rfl (Nat.le_of_ble_eq_true rfl) rfl he57 h1 hc58 (RI.k fun y59 S60 h => ?_)
      obtain ⟨e61, he62, hc63⟩ := h
      refine V_callS (as := [_, _, _]) (st := []) (M' := MX13_gives) (pc2 := 188) (dk D_X13_controls 72 rfl) ml_13_610 mv_X13_gives rfl rfl (Nat.le_of_ble_eq_true rfl) rfl he62 hc63 (RV.k fun  S64 h => ?_)
      refine V_goto (tgt := 449) (dk D_X13_controls 73 rfl) (by decide) ?_
      exact h
    · have hx : x3 = 27 := Int32.toInt_inj.mp (by rw [q4]; decide)
      have h := h.2.2.2.2.2.2.1 hx
      refine V_aload_n (pc2 := 192) (dk D_X13_controls 74 rfl) rfl (V_lg 0 rfl) rfl ?_
      refine V_iload_n (pc2 := 193) (dk D_X13_controls 75 rfl) rfl (V_lg 1 rfl) rfl ?_
      refine V_aload_n (pc2 := 194) (dk D_X13_controls 76 rfl) rfl (V_lg 0 rfl) rfl ?_
      refine V_iload_n (pc2 := 195) (dk D_X13_controls 77 rfl) rfl (V_lg 1 rfl) rfl ?_
      obtain ⟨e65, he66, hc67⟩ := h
      refine V_callV (as := [_]) (st := [_, _]) (M' := MX13_pop) (ci := 13) (pc2 := 198) (dk D_X13_controls 78 rfl) ml_13_494 mv_X13_pop rfl rfl (by decide) rfl (Nat.le_of_ble_eq_true rfl) rfl he66 h1 hc67 (RI.k fun y68 S69 h => ?_)
      obtain ⟨h74, h⟩ := h
      obtain ⟨e70, he71, hc72⟩ := h
      refine V_callV (as := [_, _]) (st := []) (M' := MX13_shuts) (ci := 13) (pc2 := 201) (dk D_X13_controls 79 rfl) ml_13_613 mv_X13_shuts rfl rfl (by decide) rfl (Nat.le_of_ble_eq_true rfl) rfl he71 h74 hc72 (RV.k fun  S73 h => ?_)
      refine V_goto (tgt := 449) (dk D_X13_controls 80 rfl) (by decide) ?_
      exact h
    · have hx : x3 = 28 := Int32.toInt_inj.mp (by rw [q4]; decide)
      have h := h.2.2.2.2.2.2.2.1 hx
      refine V_sipush (x := 1500) (pc2 := 207) (dk D_X13_controls 81 rfl) (by decide) rfl ?_
      refine V_iload (pc2 := 209) (dk D_X13_controls 82 rfl) (V_lg 6 rfl) rfl ?_
      refine V_imul (pc2 := 210) (dk D_X13_controls 83 rfl) rfl ?_
      refine V_aload_n (pc2 := 211) (dk D_X13_controls 84 rfl) rfl (V_lg 0 rfl) rfl ?_
      refine V_getR kc13 (pc2 := 214) 68 (dk D_X13_controls 85 rfl) fl_13_219 (by decide) (fun _ => rfl) rfl h1 ?_
      refine V_iload (pc2 := 216) (dk D_X13_controls 86 rfl) (V_lg 6 rfl) rfl ?_
      obtain ⟨h75, h⟩ := h
      obtain ⟨h76, h⟩ := h
      refine V_iald (pc2 := 217) (dk D_X13_controls 87 rfl) rfl h75 h76 ?_
      refine V_iadd (pc2 := 218) (dk D_X13_controls 88 rfl) rfl ?_
      refine V_istore (pc2 := 220) (lv2 := [(0, _), (1, _), (2, _), (3, _), (4, _), (5, _), (6, _), (8, _)]) (dk D_X13_controls 89 rfl) (by decide) rfl rfl ?_
      refine V_aload_n (pc2 := 221) (dk D_X13_controls 90 rfl) rfl (V_lg 0 rfl) rfl ?_
      refine V_getR kc13 (pc2 := 224) 68 (dk D_X13_controls 91 rfl) fl_13_219 (by decide) (fun _ => rfl) rfl h1 ?_
      refine V_iload (pc2 := 226) (dk D_X13_controls 92 rfl) (V_lg 6 rfl) rfl ?_
      refine V_dup2 (pc2 := 227) (dk D_X13_controls 93 rfl) rfl rfl rfl ?_
      obtain ⟨h77, h⟩ := h
      refine V_iald (pc2 := 228) (dk D_X13_controls 94 rfl) rfl h75 h77 ?_
      refine V_iconst (x := 1) (pc2 := 229) (dk D_X13_controls 95 rfl) (by decide) rfl ?_
      refine V_iadd (pc2 := 230) (dk D_X13_controls 96 rfl) rfl ?_
      obtain ⟨h78, h⟩ := h
      refine V_iast (pc2 := 231) (dk D_X13_controls 97 rfl) rfl h75 h78 ?_
      have h := h _ rfl
      refine V_aload_n (pc2 := 232) (dk D_X13_controls 98 rfl) rfl (V_lg 0 rfl) rfl ?_
      refine V_getR kc13 (pc2 := 235) 69 (dk D_X13_controls 99 rfl) fl_13_222 (by decide) (fun _ => rfl) rfl h1 ?_
      refine V_iload (pc2 := 237) (dk D_X13_controls 100 rfl) (V_lg 7 rfl) rfl ?_
      refine V_iload (pc2 := 239) (dk D_X13_controls 101 rfl) (V_lg 4 rfl) rfl ?_
      obtain ⟨h80, h⟩ := h
      obtain ⟨h81, h⟩ := h
      refine V_iast (pc2 := 240) (dk D_X13_controls 102 rfl) rfl h80 h81 ?_
      have h := h _ rfl
      refine V_aload_n (pc2 := 241) (dk D_X13_controls 103 rfl) rfl (V_lg 0 rfl) rfl ?_
      refine V_getR kc13 (pc2 := 244) 70 (dk D_X13_controls 104 rfl) fl_13_225 (by decide) (fun _ => rfl) rfl h1 ?_
      refine V_iload (pc2 := 246) (dk D_X13_controls 105 rfl) (V_lg 7 rfl) rfl ?_
      refine V_iconst (x := 0) (pc2 := 247) (dk D_X13_controls 106 rfl) (by decide) rfl ?_
      obtain ⟨h83, h⟩ := h
      obtain ⟨h84, h⟩ := h
      refine V_iast (pc2 := 248) (dk D_X13_controls 107 rfl) rfl h83 h84 ?_
      have h := h _ rfl
      refine V_goto (tgt := 449) (dk D_X13_controls 108 rfl) (by decide) ?_
      refine V_pick [0, 1, 2, 3, 4, 5, 6] (lv2 := [(0, _), (1, _), (2, _), (3, _), (4, _), (5, _), (6, _)]) rfl ?_
      exact h
    · have hx : x3 = 29 := Int32.toInt_inj.mp (by rw [q4]; decide)
      have h := h.2.2.2.2.2.2.2.2.1 hx
      refine V_sipush (x := 1500) (pc2 := 254) (dk D_X13_controls 109 rfl) (by decide) rfl ?_
      refine V_iload (pc2 := 256) (dk D_X13_controls 110 rfl) (V_lg 6 rfl) rfl ?_
      refine V_imul (pc2 := 257) (dk D_X13_controls 111 rfl) rfl ?_
      refine V_aload_n (pc2 := 258) (dk D_X13_controls 112 rfl) rfl (V_lg 0 rfl) rfl ?_
      refine V_getR kc13 (pc2 := 261) 68 (dk D_X13_controls 113 rfl) fl_13_219 (by decide) (fun _ => rfl) rfl h1 ?_
      refine V_iload (pc2 := 263) (dk D_X13_controls 114 rfl) (V_lg 6 rfl) rfl ?_
      obtain ⟨h86, h⟩ := h
      obtain ⟨h87, h⟩ := h
      refine V_iald (pc2 := 264) (dk D_X13_controls 115 rfl) rfl h86 h87 ?_
      refine V_iadd (pc2 := 265) (dk D_X13_controls 116 rfl) rfl ?_
      refine V_iconst (x := 1) (pc2 := 266) (dk D_X13_controls 117 rfl) (by decide) rfl ?_
      refine V_isub (pc2 := 267) (dk D_X13_controls 118 rfl) rfl ?_
      refine V_istore (pc2 := 269) (lv2 := [(0, _), (1, _), (2, _), (3, _), (4, _), (5, _), (6, _), (9, _)]) (dk D_X13_controls 119 rfl) (by decide) rfl rfl ?_
      refine V_aload_n (pc2 := 270) (dk D_X13_controls 120 rfl) rfl (V_lg 0 rfl) rfl ?_
      refine V_getR kc13 (pc2 := 273) 27 (dk D_X13_controls 121 rfl) fl_13_125 (by decide) (fun _ => rfl) rfl h1 ?_
      refine V_iload (pc2 := 275) (dk D_X13_controls 122 rfl) (V_lg 4 rfl) rfl ?_
      obtain ⟨h88, h⟩ := h
      obtain ⟨h89, h⟩ := h
      refine V_iald (pc2 := 276) (dk D_X13_controls 123 rfl) rfl h88 h89 ?_
      refine V_iflt (tgt := 291) (pc2 := 279) (dk D_X13_controls 124 rfl) (by decide) rfl (fun q90 => ?_) (fun q90 => ?_)
      · have h := h.1 q90
        refine V_aload_n (pc2 := 292) (dk D_X13_controls 132 rfl) rfl (V_lg 0 rfl) rfl ?_
        refine V_getR kc13 (pc2 := 295) 68 (dk D_X13_controls 133 rfl) fl_13_219 (by decide) (fun _ => rfl) rfl h1 ?_
        refine V_iload (pc2 := 297) (dk D_X13_controls 134 rfl) (V_lg 6 rfl) rfl ?_
        refine V_dup2 (pc2 := 298) (dk D_X13_controls 135 rfl) rfl rfl rfl ?_
        obtain ⟨h91, h⟩ := h
        refine V_iald (pc2 := 299) (dk D_X13_controls 136 rfl) rfl h86 h91 ?_
        refine V_iconst (x := 1) (pc2 := 300) (dk D_X13_controls 137 rfl) (by decide) rfl ?_
        refine V_isub (pc2 := 301) (dk D_X13_controls 138 rfl) rfl ?_
        obtain ⟨h92, h⟩ := h
        refine V_iast (pc2 := 302) (dk D_X13_controls 139 rfl) rfl h86 h92 ?_
        have h := h _ rfl
        refine V_aload_n (pc2 := 303) (dk D_X13_controls 140 rfl) rfl (V_lg 0 rfl) rfl ?_
        refine V_getR kc13 (pc2 := 306) 62 (dk D_X13_controls 141 rfl) fl_13_201 (by decide) (fun _ => rfl) rfl h1 ?_
        refine V_iload_n (pc2 := 307) (dk D_X13_controls 142 rfl) rfl (V_lg 2 rfl) rfl ?_
        refine V_aload_n (pc2 := 308) (dk D_X13_controls 143 rfl) rfl (V_lg 0 rfl) rfl ?_
        refine V_getR kc13 (pc2 := 311) 28 (dk D_X13_controls 144 rfl) fl_13_128 (by decide) (fun _ => rfl) rfl h1 ?_
        refine V_iload (pc2 := 313) (dk D_X13_controls 145 rfl) (V_lg 4 rfl) rfl ?_
        obtain ⟨h94, h⟩ := h
        obtain ⟨h95, h⟩ := h
        refine V_iald (pc2 := 314) (dk D_X13_controls 146 rfl) rfl h94 h95 ?_
        obtain ⟨h96, h⟩ := h
        obtain ⟨h97, h⟩ := h
        refine V_iast (pc2 := 315) (dk D_X13_controls 147 rfl) rfl h96 h97 ?_
        have h := h _ rfl
        refine V_goto (tgt := 449) (dk D_X13_controls 148 rfl) (by decide) ?_
        refine V_pick [0, 1, 2, 3, 4, 5, 6] (lv2 := [(0, _), (1, _), (2, _), (3, _), (4, _), (5, _), (6, _)]) rfl ?_
        exact h
      · have h := h.2 q90
        refine V_aload_n (pc2 := 280) (dk D_X13_controls 125 rfl) rfl (V_lg 0 rfl) rfl ?_
        refine V_iload_n (pc2 := 281) (dk D_X13_controls 126 rfl) rfl (V_lg 1 rfl) rfl ?_
        refine V_iload (pc2 := 283) (dk D_X13_controls 127 rfl) (V_lg 7 rfl) rfl ?_
        refine V_iconst (x := 0) (pc2 := 284) (dk D_X13_controls 128 rfl) (by decide) rfl ?_
        refine V_iconst (x := 0) (pc2 := 285) (dk D_X13_controls 129 rfl) (by decide) rfl ?_
        obtain ⟨e99, he100, hc101⟩ := h
        refine V_callV (as := [_, _, _, _]) (st := []) (M' := MX13_finishes) (ci := 13) (pc2 := 288) (dk D_X13_controls 130 rfl) ml_13_539 mv_X13_finishes rfl rfl (by decide) rfl (Nat.le_of_ble_eq_true rfl) rfl he100 h1 hc101 (RV.k fun  S102 h => ?_)
        refine V_goto (tgt := 449) (dk D_X13_controls 131 rfl) (by decide) ?_
        refine V_pick [0, 1, 2, 3, 4, 5, 6] (lv2 := [(0, _), (1, _), (2, _), (3, _), (4, _), (5, _), (6, _)]) rfl ?_
        exact h
    · have hx : x3 = 30 := Int32.toInt_inj.mp (by rw [q4]; decide)
      have h := h.2.2.2.2.2.2.2.2.2.1 hx
      refine V_sipush (x := 1500) (pc2 := 321) (dk D_X13_controls 149 rfl) (by decide) rfl ?_
      refine V_iload (pc2 := 323) (dk D_X13_controls 150 rfl) (V_lg 6 rfl) rfl ?_
      refine V_imul (pc2 := 324) (dk D_X13_controls 151 rfl) rfl ?_
      refine V_aload_n (pc2 := 325) (dk D_X13_controls 152 rfl) rfl (V_lg 0 rfl) rfl ?_
      refine V_getR kc13 (pc2 := 328) 68 (dk D_X13_controls 153 rfl) fl_13_219 (by decide) (fun _ => rfl) rfl h1 ?_
      refine V_iload (pc2 := 330) (dk D_X13_controls 154 rfl) (V_lg 6 rfl) rfl ?_
      obtain ⟨h103, h⟩ := h
      obtain ⟨h104, h⟩ := h
      refine V_iald (pc2 := 331) (dk D_X13_controls 155 rfl) rfl h103 h104 ?_
      refine V_iadd (pc2 := 332) (dk D_X13_controls 156 rfl) rfl ?_
      refine V_iconst (x := 1) (pc2 := 333) (dk D_X13_controls 157 rfl) (by decide) rfl ?_
      refine V_isub (pc2 := 334) (dk D_X13_controls 158 rfl) rfl ?_
      refine V_istore (pc2 := 336) (lv2 := [(0, _), (1, _), (2, _), (3, _), (4, _), (5, _), (6, _), (10, _)]) (dk D_X13_controls 159 rfl) (by decide) rfl rfl ?_
      refine V_aload_n (pc2 := 337) (dk D_X13_controls 160 rfl) rfl (V_lg 0 rfl) rfl ?_
      refine V_getR kc13 (pc2 := 340) 71 (dk D_X13_controls 161 rfl) fl_13_228 (by decide) (fun _ => rfl) rfl h1 ?_
      refine V_iload (pc2 := 342) (dk D_X13_controls 162 rfl) (V_lg 7 rfl) rfl ?_
      obtain ⟨h105, h⟩ := h
      obtain ⟨h106, h⟩ := h
      refine V_iald (pc2 := 343) (dk D_X13_controls 163 rfl) rfl h105 h106 ?_
      refine V_istore (pc2 := 345) (lv2 := [(0, _), (1, _), (2, _), (3, _), (4, _), (5, _), (6, _), (10, _), (11, _)]) (dk D_X13_controls 164 rfl) (by decide) rfl rfl ?_
      refine V_aload_n (pc2 := 346) (dk D_X13_controls 165 rfl) rfl (V_lg 0 rfl) rfl ?_
      refine V_getR kc13 (pc2 := 349) 72 (dk D_X13_controls 166 rfl) fl_13_231 (by decide) (fun _ => rfl) rfl h1 ?_
      refine V_iload (pc2 := 351) (dk D_X13_controls 167 rfl) (V_lg 7 rfl) rfl ?_
      obtain ⟨h107, h⟩ := h
      obtain ⟨h108, h⟩ := h
      refine V_iald (pc2 := 352) (dk D_X13_controls 168 rfl) rfl h107 h108 ?_
      refine V_istore (pc2 := 354) (lv2 := [(0, _), (1, _), (2, _), (3, _), (4, _), (5, _), (6, _), (10, _), (11, _), (12, _)]) (dk D_X13_controls 169 rfl) (by decide) rfl rfl ?_
      refine V_aload_n (pc2 := 355) (dk D_X13_controls 170 rfl) rfl (V_lg 0 rfl) rfl ?_
      refine V_getR kc13 (pc2 := 358) 68 (dk D_X13_controls 171 rfl) fl_13_219 (by decide) (fun _ => rfl) rfl h1 ?_
      refine V_iload (pc2 := 360) (dk D_X13_controls 172 rfl) (V_lg 6 rfl) rfl ?_
      refine V_dup2 (pc2 := 361) (dk D_X13_controls 173 rfl) rfl rfl rfl ?_
      obtain ⟨h109, h⟩ := h
      refine V_iald (pc2 := 362) (dk D_X13_controls 174 rfl) rfl h103 h109 ?_
      refine V_iconst (x := 1) (pc2 := 363) (dk D_X13_controls 175 rfl) (by decide) rfl ?_
      refine V_isub (pc2 := 364) (dk D_X13_controls 176 rfl) rfl ?_
      obtain ⟨h110, h⟩ := h
      refine V_iast (pc2 := 365) (dk D_X13_controls 177 rfl) rfl h103 h110 ?_
      have h := h _ rfl
      refine V_aload_n (pc2 := 366) (dk D_X13_controls 178 rfl) rfl (V_lg 0 rfl) rfl ?_
      refine V_getR kc13 (pc2 := 369) 62 (dk D_X13_controls 179 rfl) fl_13_201 (by decide) (fun _ => rfl) rfl h1 ?_
      refine V_iload_n (pc2 := 370) (dk D_X13_controls 180 rfl) rfl (V_lg 2 rfl) rfl ?_
      refine V_aload_n (pc2 := 371) (dk D_X13_controls 181 rfl) rfl (V_lg 0 rfl) rfl ?_
      refine V_getR kc13 (pc2 := 374) 28 (dk D_X13_controls 182 rfl) fl_13_128 (by decide) (fun _ => rfl) rfl h1 ?_
      refine V_iload (pc2 := 376) (dk D_X13_controls 183 rfl) (V_lg 4 rfl) rfl ?_
      obtain ⟨h112, h⟩ := h
      obtain ⟨h113, h⟩ := h
      refine V_iald (pc2 := 377) (dk D_X13_controls 184 rfl) rfl h112 h113 ?_
      obtain ⟨h114, h⟩ := h
      obtain ⟨h115, h⟩ := h
      refine V_iast (pc2 := 378) (dk D_X13_controls 185 rfl) rfl h114 h115 ?_
      have h := h _ rfl
      refine V_iload (pc2 := 380) (dk D_X13_controls 186 rfl) (V_lg 8 rfl) rfl ?_
      refine V_iconst (x := 1) (pc2 := 381) (dk D_X13_controls 187 rfl) (by decide) rfl ?_
      refine V_cmpne (tgt := 394) (pc2 := 384) (dk D_X13_controls 188 rfl) (by decide) rfl (fun q117 => ?_) (fun q117 => ?_)
      · have h := h.1 q117
        refine V_iload (pc2 := 396) (dk D_X13_controls 194 rfl) (V_lg 8 rfl) rfl ?_
        refine V_iconst (x := 2) (pc2 := 397) (dk D_X13_controls 195 rfl) (by decide) rfl ?_
        refine V_cmpne (tgt := 449) (pc2 := 400) (dk D_X13_controls 196 rfl) (by decide) rfl (fun q118 => ?_) (fun q118 => ?_)
        · have h := h.1 q118
          refine V_pick [0, 1, 2, 3, 4, 5, 6] (lv2 := [(0, _), (1, _), (2, _), (3, _), (4, _), (5, _), (6, _)]) rfl ?_
          exact h
        · have h := h.2 q118
          refine V_aload_n (pc2 := 401) (dk D_X13_controls 197 rfl) rfl (V_lg 0 rfl) rfl ?_
          refine V_iload_n (pc2 := 402) (dk D_X13_controls 198 rfl) rfl (V_lg 1 rfl) rfl ?_
          refine V_iload (pc2 := 404) (dk D_X13_controls 199 rfl) (V_lg 9 rfl) rfl ?_
          obtain ⟨e119, he120, hc121⟩ := h
          refine V_callS (as := [_, _, _]) (st := []) (M' := MX13_gives) (pc2 := 407) (dk D_X13_controls 200 rfl) ml_13_610 mv_X13_gives rfl rfl (Nat.le_of_ble_eq_true rfl) rfl he120 hc121 (RV.k fun  S122 h => ?_)
          refine V_goto (tgt := 449) (dk D_X13_controls 201 rfl) (by decide) ?_
          refine V_pick [0, 1, 2, 3, 4, 5, 6] (lv2 := [(0, _), (1, _), (2, _), (3, _), (4, _), (5, _), (6, _)]) rfl ?_
          exact h
      · have h := h.2 q117
        refine V_aload_n (pc2 := 385) (dk D_X13_controls 189 rfl) rfl (V_lg 0 rfl) rfl ?_
        refine V_iload_n (pc2 := 386) (dk D_X13_controls 190 rfl) rfl (V_lg 1 rfl) rfl ?_
        refine V_iload (pc2 := 388) (dk D_X13_controls 191 rfl) (V_lg 9 rfl) rfl ?_
        obtain ⟨e123, he124, hc125⟩ := h
        refine V_callV (as := [_, _]) (st := []) (M' := MX13_raise) (ci := 13) (pc2 := 391) (dk D_X13_controls 192 rfl) ml_13_529 mv_X13_raise rfl rfl (by decide) rfl (Nat.le_of_ble_eq_true rfl) rfl he124 h1 hc125 (RV.k fun  S126 h => ?_)
        refine V_goto (tgt := 449) (dk D_X13_controls 193 rfl) (by decide) ?_
        refine V_pick [0, 1, 2, 3, 4, 5, 6] (lv2 := [(0, _), (1, _), (2, _), (3, _), (4, _), (5, _), (6, _)]) rfl ?_
        exact h
    · have hx : x3 = 31 := Int32.toInt_inj.mp (by rw [q4]; decide)
      have h := h.2.2.2.2.2.2.2.2.2.2.1 hx
      refine V_aload_n (pc2 := 411) (dk D_X13_controls 202 rfl) rfl (V_lg 0 rfl) rfl ?_
      refine V_getR kc13 (pc2 := 414) 66 (dk D_X13_controls 203 rfl) fl_13_213 (by decide) (fun _ => rfl) rfl h1 ?_
      refine V_bipush (x := 40) (pc2 := 416) (dk D_X13_controls 204 rfl) (by decide) rfl ?_
      refine V_iload_n (pc2 := 417) (dk D_X13_controls 205 rfl) rfl (V_lg 2 rfl) rfl ?_
      refine V_imul (pc2 := 418) (dk D_X13_controls 206 rfl) rfl ?_
      refine V_iload (pc2 := 420) (dk D_X13_controls 207 rfl) (V_lg 4 rfl) rfl ?_
      refine V_iadd (pc2 := 421) (dk D_X13_controls 208 rfl) rfl ?_
      refine V_aload_n (pc2 := 422) (dk D_X13_controls 209 rfl) rfl (V_lg 0 rfl) rfl ?_
      refine V_iload_n (pc2 := 423) (dk D_X13_controls 210 rfl) rfl (V_lg 1 rfl) rfl ?_
      obtain ⟨e127, he128, hc129⟩ := h
      refine V_callV (as := [_]) (st := [_, _]) (M' := MX13_pop) (ci := 13) (pc2 := 426) (dk D_X13_controls 211 rfl) ml_13_494 mv_X13_pop rfl rfl (by decide) rfl (Nat.le_of_ble_eq_true rfl) rfl he128 h1 hc129 (RI.k fun y130 S131 h => ?_)
      obtain ⟨h132, h⟩ := h
      obtain ⟨h133, h⟩ := h
      refine V_iast (pc2 := 427) (dk D_X13_controls 212 rfl) rfl h132 h133 ?_
      have h := h _ rfl
      refine V_goto (tgt := 449) (dk D_X13_controls 213 rfl) (by decide) ?_
      exact h
theorem w_X13_controls_126 {X : Cx} {d : Nat} {S : Mem} {Q : Res → Mem → Prop} (r0 : Nat) (x1 : Int32) (x2 : Int32) (x3 : Int32) (x4 : Int32) (x5 : Int32) (x6 : Int32) (t0 : Nat) (t1 : Int32) (t2 : Int32) (h : (isK S t0 21) ∧ (vp_in t1 (gN S t0)) ∧ ∀ S3 : Mem, S3 = uI S t0 ((t1 : Int32).toNatClampNeg) t2 → V X d MX13_controls 449 [(0, vR r0), (1, vI x1), (2, vI x2), (3, vI x3), (4, vI x4), (5, vI x5), (6, vI x6)] [] S3 Q) : V X d MX13_controls 126 [(0, vR r0), (1, vI x1), (2, vI x2), (3, vI x3), (4, vI x4), (5, vI x5), (6, vI x6)] [vI t2, vI t1, vR t0] S Q := by
  obtain ⟨h1, h⟩ := h
  obtain ⟨h2, h⟩ := h
  refine V_iast (pc2 := 127) (dk D_X13_controls 38 rfl) rfl h1 h2 ?_
  have h := h _ rfl
  refine V_goto (tgt := 449) (dk D_X13_controls 39 rfl) (by decide) ?_
  exact h
theorem w_X13_controls_169 {X : Cx} {d : Nat} {S : Mem} {Q : Res → Mem → Prop} (r0 : Nat) (x1 : Int32) (x2 : Int32) (x3 : Int32) (x4 : Int32) (x5 : Int32) (x6 : Int32) (t0 : Nat) (t1 : Int32) (t2 : Nat) (t3 : Int32) (t4 : Int32) (t5 : Int32) (t6 : Int32) (t7 : Int32) (h : (isK S t2 13) ∧ ∃ e1 : Nat, e1 + 1 ≤ d ∧ C X e1 MX13_failure [vR t2, vI t3, vI t4, vI t5, vI t6, vI t7] S (RI fun y4 S5 => (isK S5 t0 13) ∧ ∃ e7 : Nat, e7 + 1 ≤ d ∧ C X e7 MX13_raise [vR t0, vI t1, vI y4] S5 (RV fun  S10 => V X d MX13_controls 449 [(0, vR r0), (1, vI x1), (2, vI x2), (3, vI x3), (4, vI x4), (5, vI x5), (6, vI x6)] [] S10 Q))) : V X d MX13_controls 169 [(0, vR r0), (1, vI x1), (2, vI x2), (3, vI x3), (4, vI x4), (5, vI x5), (6, vI x6)] [vI t7, vI t6, vI t5, vI t4, vI t3, vR t2, vI t1, vR t0] S Q := by
  obtain ⟨h6, h⟩ := h
  obtain ⟨e1, he2, hc3⟩ := h
  refine V_callV (as := [_, _, _, _, _]) (st := [_, _]) (M' := MX13_failure) (ci := 13) (pc2 := 172) (dk D_X13_controls 64 rfl) ml_13_525 mv_X13_failure rfl rfl (by decide) rfl (Nat.le_of_ble_eq_true rfl) rfl he2 h6 hc3 (RI.k fun y4 S5 h => ?_)
  obtain ⟨h11, h⟩ := h
  obtain ⟨e7, he8, hc9⟩ := h
  refine V_callV (as := [_, _]) (st := []) (M' := MX13_raise) (ci := 13) (pc2 := 175) (dk D_X13_controls 65 rfl) ml_13_529 mv_X13_raise rfl rfl (by decide) rfl (Nat.le_of_ble_eq_true rfl) rfl he8 h11 hc9 (RV.k fun  S10 h => ?_)
  refine V_goto (tgt := 449) (dk D_X13_controls 66 rfl) (by decide) ?_
  exact h
theorem w_X13_controls_449 {X : Cx} {d : Nat} {S : Mem} {Q : Res → Mem → Prop} (r0 : Nat) (x1 : Int32) (x2 : Int32) (x3 : Int32) (x4 : Int32) (x5 : Int32) (x6 : Int32) (h : Q (.inl none) S) : V X d MX13_controls 449 [(0, vR r0), (1, vI x1), (2, vI x2), (3, vI x3), (4, vI x4), (5, vI x5), (6, vI x6)] [] S Q := by
  exact V_return (dk D_X13_controls 227 rfl) rfl h
