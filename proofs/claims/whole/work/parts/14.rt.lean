def L_X13_mustSign : List (Nat × Instr × Nat) := [(0, .aload_n 0, 1), (1, .iload_n 1, 1), (2, .invokevirtual 334, 3), (5, .ifCond .ne 16, 3), (8, .aload_n 0, 1), (9, .aload_n 0, 1), (10, .getfield 27, 3), (13, .aload_n 0, 1), (14, .getfield 331, 3), (17, .iaload, 1), (18, .invokevirtual 337, 3), (21, .aload_n 0, 1), (22, .dup, 1), (23, .getfield 331, 3), (26, .iconst 1, 1), (27, .iadd, 1), (28, .putfield 331, 3), (31, .return_, 1)]
theorem D_X13_mustSign : dOk cX13_mustSign L_X13_mustSign = true := by decide +kernel
theorem w_X13_mustSign_0 {X : Cx} {d : Nat} {S : Mem} {Q : Res → Mem → Prop} (r0 : Nat) (x1 : Int32) (h : (isK S r0 13) ∧ ∃ e1 : Nat, e1 + 1 ≤ d ∧ C X e1 MX13_isSign [vR r0, vI x1] S (RI fun y4 S5 => ((¬ y4 = 0 → V X d MX13_mustSign 21 [(0, vR r0), (1, vI x1)] [] S5 Q) ∧ (y4 = 0 → (isK S5 r0 13) ∧ (isK S5 (gR S5 r0 6) 21) ∧ (vp_in (gI S5 r0 10) (gN S5 (gR S5 r0 6))) ∧ ∃ e11 : Nat, e11 + 1 ≤ d ∧ C X e11 MX13_fail [vR r0, vI (gI S5 (gR S5 r0 6) ((gI S5 r0 10) : Int32).toNatClampNeg)] S5 (TV Q fun  S14 => V X d MX13_mustSign 21 [(0, vR r0), (1, vI x1)] [] S14 Q))))) : V X d MX13_mustSign 0 [(0, vR r0), (1, vI x1)] [] S Q := by
  refine V_aload_n (pc2 := 1) (dk D_X13_mustSign 0 rfl) rfl (V_lg 0 rfl) rfl ?_
  refine V_iload_n (pc2 := 2) (dk D_X13_mustSign 1 rfl) rfl (V_lg 1 rfl) rfl ?_
  obtain ⟨h6, h⟩ := h
  obtain ⟨e1, he2, hc3⟩ := h
  refine V_callV (as := [_]) (st := []) (M' := MX13_isSign) (ci := 13) (pc2 := 5) (dk D_X13_mustSign 2 rfl) ml_13_334 mv_X13_isSign rfl rfl (by decide) rfl (Nat.le_of_ble_eq_true rfl) rfl he2 h6 hc3 (RI.k fun y4 S5 h => ?_)
  refine V_ifne (tgt := 21) (pc2 := 8) (dk D_X13_mustSign 3 rfl) (by decide) rfl (fun q7 => ?_) (fun q7 => ?_)
  · have h := h.1 q7
    exact h
  · have h := h.2 q7
    refine V_aload_n (pc2 := 9) (dk D_X13_mustSign 4 rfl) rfl (V_lg 0 rfl) rfl ?_
    refine V_aload_n (pc2 := 10) (dk D_X13_mustSign 5 rfl) rfl (V_lg 0 rfl) rfl ?_
    obtain ⟨h8, h⟩ := h
    refine V_getR kc13 (pc2 := 13) 6 (dk D_X13_mustSign 6 rfl) fl_13_27 (by decide) (fun _ => rfl) rfl h8 ?_
    refine V_aload_n (pc2 := 14) (dk D_X13_mustSign 7 rfl) rfl (V_lg 0 rfl) rfl ?_
    refine V_getI kc13 (pc2 := 17) 10 (dk D_X13_mustSign 8 rfl) fl_13_331 (by decide) (fun _ => rfl) rfl h8 ?_
    obtain ⟨h9, h⟩ := h
    obtain ⟨h10, h⟩ := h
    refine V_iald (pc2 := 18) (dk D_X13_mustSign 9 rfl) rfl h9 h10 ?_
    obtain ⟨e11, he12, hc13⟩ := h
    refine V_callVT (as := [_]) (st := []) (M' := MX13_fail) (ci := 13) (pc2 := 21) (dk D_X13_mustSign 10 rfl) ml_13_337 mv_X13_fail rfl rfl (by decide) rfl (Nat.le_of_ble_eq_true rfl) rfl (by decide) he12 h8 hc13 (TV.k fun  S14 h => ?_)
    exact h
theorem w_X13_mustSign_21 {X : Cx} {d : Nat} {S : Mem} {Q : Res → Mem → Prop} (r0 : Nat) (x1 : Int32) (h : (isK S r0 13) ∧ ∀ S2 : Mem, S2 = uI S r0 10 ((gI S r0 10) + 1) → Q (.inl none) S2) : V X d MX13_mustSign 21 [(0, vR r0), (1, vI x1)] [] S Q := by
  refine V_aload_n (pc2 := 22) (dk D_X13_mustSign 11 rfl) rfl (V_lg 0 rfl) rfl ?_
  refine V_dup (pc2 := 23) (dk D_X13_mustSign 12 rfl) rfl rfl ?_
  obtain ⟨h1, h⟩ := h
  refine V_getI kc13 (pc2 := 26) 10 (dk D_X13_mustSign 13 rfl) fl_13_331 (by decide) (fun _ => rfl) rfl h1 ?_
  refine V_iconst (x := 1) (pc2 := 27) (dk D_X13_mustSign 14 rfl) (by decide) rfl ?_
  refine V_iadd (pc2 := 28) (dk D_X13_mustSign 15 rfl) rfl ?_
  refine V_putI kc13 (pc2 := 31) 10 (dk D_X13_mustSign 16 rfl) fl_13_331 (by decide) (Or.inl rfl) rfl rfl h1 ?_
  have h := h _ rfl
  exact V_return (dk D_X13_mustSign 17 rfl) rfl h
def L_X13_mustWord : List (Nat × Instr × Nat) := [(0, .aload_n 0, 1), (1, .aload_n 1, 1), (2, .invokevirtual 341, 3), (5, .ifCond .ne 16, 3), (8, .aload_n 0, 1), (9, .aload_n 0, 1), (10, .getfield 27, 3), (13, .aload_n 0, 1), (14, .getfield 331, 3), (17, .iaload, 1), (18, .invokevirtual 337, 3), (21, .aload_n 0, 1), (22, .dup, 1), (23, .getfield 331, 3), (26, .iconst 1, 1), (27, .iadd, 1), (28, .putfield 331, 3), (31, .return_, 1)]
theorem D_X13_mustWord : dOk cX13_mustWord L_X13_mustWord = true := by decide +kernel
theorem w_X13_mustWord_0 {X : Cx} {d : Nat} {S : Mem} {Q : Res → Mem → Prop} (r0 : Nat) (r1 : Nat) (h : (isK S r0 13) ∧ ∃ e1 : Nat, e1 + 1 ≤ d ∧ C X e1 MX13_isWord [vR r0, vR r1] S (RI fun y4 S5 => ((¬ y4 = 0 → V X d MX13_mustWord 21 [(0, vR r0), (1, vR r1)] [] S5 Q) ∧ (y4 = 0 → (isK S5 r0 13) ∧ (isK S5 (gR S5 r0 6) 21) ∧ (vp_in (gI S5 r0 10) (gN S5 (gR S5 r0 6))) ∧ ∃ e11 : Nat, e11 + 1 ≤ d ∧ C X e11 MX13_fail [vR r0, vI (gI S5 (gR S5 r0 6) ((gI S5 r0 10) : Int32).toNatClampNeg)] S5 (TV Q fun  S14 => V X d MX13_mustWord 21 [(0, vR r0), (1, vR r1)] [] S14 Q))))) : V X d MX13_mustWord 0 [(0, vR r0), (1, vR r1)] [] S Q := by
  refine V_aload_n (pc2 := 1) (dk D_X13_mustWord 0 rfl) rfl (V_lg 0 rfl) rfl ?_
  refine V_aload_n (pc2 := 2) (dk D_X13_mustWord 1 rfl) rfl (V_lg 1 rfl) rfl ?_
  obtain ⟨h6, h⟩ := h
  obtain ⟨e1, he2, hc3⟩ := h
  refine V_callV (as := [_]) (st := []) (M' := MX13_isWord) (ci := 13) (pc2 := 5) (dk D_X13_mustWord 2 rfl) ml_13_341 mv_X13_isWord rfl rfl (by decide) rfl (Nat.le_of_ble_eq_true rfl) rfl he2 h6 hc3 (RI.k fun y4 S5 h => ?_)
  refine V_ifne (tgt := 21) (pc2 := 8) (dk D_X13_mustWord 3 rfl) (by decide) rfl (fun q7 => ?_) (fun q7 => ?_)
  · have h := h.1 q7
    exact h
  · have h := h.2 q7
    refine V_aload_n (pc2 := 9) (dk D_X13_mustWord 4 rfl) rfl (V_lg 0 rfl) rfl ?_
    refine V_aload_n (pc2 := 10) (dk D_X13_mustWord 5 rfl) rfl (V_lg 0 rfl) rfl ?_
    obtain ⟨h8, h⟩ := h
    refine V_getR kc13 (pc2 := 13) 6 (dk D_X13_mustWord 6 rfl) fl_13_27 (by decide) (fun _ => rfl) rfl h8 ?_
    refine V_aload_n (pc2 := 14) (dk D_X13_mustWord 7 rfl) rfl (V_lg 0 rfl) rfl ?_
    refine V_getI kc13 (pc2 := 17) 10 (dk D_X13_mustWord 8 rfl) fl_13_331 (by decide) (fun _ => rfl) rfl h8 ?_
    obtain ⟨h9, h⟩ := h
    obtain ⟨h10, h⟩ := h
    refine V_iald (pc2 := 18) (dk D_X13_mustWord 9 rfl) rfl h9 h10 ?_
    obtain ⟨e11, he12, hc13⟩ := h
    refine V_callVT (as := [_]) (st := []) (M' := MX13_fail) (ci := 13) (pc2 := 21) (dk D_X13_mustWord 10 rfl) ml_13_337 mv_X13_fail rfl rfl (by decide) rfl (Nat.le_of_ble_eq_true rfl) rfl (by decide) he12 h8 hc13 (TV.k fun  S14 h => ?_)
    exact h
theorem w_X13_mustWord_21 {X : Cx} {d : Nat} {S : Mem} {Q : Res → Mem → Prop} (r0 : Nat) (r1 : Nat) (h : (isK S r0 13) ∧ ∀ S2 : Mem, S2 = uI S r0 10 ((gI S r0 10) + 1) → Q (.inl none) S2) : V X d MX13_mustWord 21 [(0, vR r0), (1, vR r1)] [] S Q := by
  refine V_aload_n (pc2 := 22) (dk D_X13_mustWord 11 rfl) rfl (V_lg 0 rfl) rfl ?_
  refine V_dup (pc2 := 23) (dk D_X13_mustWord 12 rfl) rfl rfl ?_
  obtain ⟨h1, h⟩ := h
  refine V_getI kc13 (pc2 := 26) 10 (dk D_X13_mustWord 13 rfl) fl_13_331 (by decide) (fun _ => rfl) rfl h1 ?_
  refine V_iconst (x := 1) (pc2 := 27) (dk D_X13_mustWord 14 rfl) (by decide) rfl ?_
  refine V_iadd (pc2 := 28) (dk D_X13_mustWord 15 rfl) rfl ?_
  refine V_putI kc13 (pc2 := 31) 10 (dk D_X13_mustWord 16 rfl) fl_13_331 (by decide) (Or.inl rfl) rfl rfl h1 ?_
  have h := h _ rfl
  exact V_return (dk D_X13_mustWord 17 rfl) rfl h
def L_X13_mustName : List (Nat × Instr × Nat) := [(0, .aload_n 0, 1), (1, .getfield 23, 3), (4, .aload_n 0, 1), (5, .getfield 331, 3), (8, .iaload, 1), (9, .iconst 1, 1), (10, .if_icmp .eq 16, 3), (13, .aload_n 0, 1), (14, .aload_n 0, 1), (15, .getfield 27, 3), (18, .aload_n 0, 1), (19, .getfield 331, 3), (22, .iaload, 1), (23, .invokevirtual 337, 3), (26, .aload_n 0, 1), (27, .getfield 30, 3), (30, .aload_n 0, 1), (31, .getfield 331, 3), (34, .iaload, 1), (35, .aload_n 0, 1), (36, .getfield 27, 3), (39, .aload_n 0, 1), (40, .getfield 331, 3), (43, .iaload, 1), (44, .isub, 1), (45, .bipush 8, 2), (47, .if_icmp .le 19, 3), (50, .aload_n 0, 1), (51, .aload_n 0, 1), (52, .getfield 27, 3), (55, .aload_n 0, 1), (56, .getfield 331, 3), (59, .iaload, 1), (60, .bipush 8, 2), (62, .iadd, 1), (63, .invokevirtual 337, 3), (66, .aload_n 0, 1), (67, .dup, 1), (68, .getfield 331, 3), (71, .iconst 1, 1), (72, .iadd, 1), (73, .putfield 331, 3), (76, .aload_n 0, 1), (77, .getfield 331, 3), (80, .iconst 1, 1), (81, .isub, 1), (82, .ireturn, 1)]
theorem D_X13_mustName : dOk cX13_mustName L_X13_mustName = true := by decide +kernel
theorem w_X13_mustName_0 {X : Cx} {d : Nat} {S : Mem} {Q : Res → Mem → Prop} (r0 : Nat) (h : (isK S r0 13) ∧ (isK S (gR S r0 5) 21) ∧ (vp_in (gI S r0 10) (gN S (gR S r0 5))) ∧ (((gI S (gR S r0 5) ((gI S r0 10) : Int32).toNatClampNeg) = 1 → V X d MX13_mustName 26 [(0, vR r0)] [] S Q) ∧ (¬ (gI S (gR S r0 5) ((gI S r0 10) : Int32).toNatClampNeg) = 1 → (isK S (gR S r0 6) 21) ∧ (vp_in (gI S r0 10) (gN S (gR S r0 6))) ∧ ∃ e7 : Nat, e7 + 1 ≤ d ∧ C X e7 MX13_fail [vR r0, vI (gI S (gR S r0 6) ((gI S r0 10) : Int32).toNatClampNeg)] S (TV Q fun  S10 => V X d MX13_mustName 26 [(0, vR r0)] [] S10 Q)))) : V X d MX13_mustName 0 [(0, vR r0)] [] S Q := by
  refine V_aload_n (pc2 := 1) (dk D_X13_mustName 0 rfl) rfl (V_lg 0 rfl) rfl ?_
  obtain ⟨h1, h⟩ := h
  refine V_getR kc13 (pc2 := 4) 5 (dk D_X13_mustName 1 rfl) fl_13_23 (by decide) (fun _ => rfl) rfl h1 ?_
  refine V_aload_n (pc2 := 5) (dk D_X13_mustName 2 rfl) rfl (V_lg 0 rfl) rfl ?_
  refine V_getI kc13 (pc2 := 8) 10 (dk D_X13_mustName 3 rfl) fl_13_331 (by decide) (fun _ => rfl) rfl h1 ?_
  obtain ⟨h2, h⟩ := h
  obtain ⟨h3, h⟩ := h
  refine V_iald (pc2 := 9) (dk D_X13_mustName 4 rfl) rfl h2 h3 ?_
  refine V_iconst (x := 1) (pc2 := 10) (dk D_X13_mustName 5 rfl) (by decide) rfl ?_
  refine V_cmpeq (tgt := 26) (pc2 := 13) (dk D_X13_mustName 6 rfl) (by decide) rfl (fun q4 => ?_) (fun q4 => ?_)
  · have h := h.1 q4
    exact h
  · have h := h.2 q4
    refine V_aload_n (pc2 := 14) (dk D_X13_mustName 7 rfl) rfl (V_lg 0 rfl) rfl ?_
    refine V_aload_n (pc2 := 15) (dk D_X13_mustName 8 rfl) rfl (V_lg 0 rfl) rfl ?_
    refine V_getR kc13 (pc2 := 18) 6 (dk D_X13_mustName 9 rfl) fl_13_27 (by decide) (fun _ => rfl) rfl h1 ?_
    refine V_aload_n (pc2 := 19) (dk D_X13_mustName 10 rfl) rfl (V_lg 0 rfl) rfl ?_
    refine V_getI kc13 (pc2 := 22) 10 (dk D_X13_mustName 11 rfl) fl_13_331 (by decide) (fun _ => rfl) rfl h1 ?_
    obtain ⟨h5, h⟩ := h
    obtain ⟨h6, h⟩ := h
    refine V_iald (pc2 := 23) (dk D_X13_mustName 12 rfl) rfl h5 h6 ?_
    obtain ⟨e7, he8, hc9⟩ := h
    refine V_callVT (as := [_]) (st := []) (M' := MX13_fail) (ci := 13) (pc2 := 26) (dk D_X13_mustName 13 rfl) ml_13_337 mv_X13_fail rfl rfl (by decide) rfl (Nat.le_of_ble_eq_true rfl) rfl (by decide) he8 h1 hc9 (TV.k fun  S10 h => ?_)
    exact h
theorem w_X13_mustName_26 {X : Cx} {d : Nat} {S : Mem} {Q : Res → Mem → Prop} (r0 : Nat) (h : (isK S r0 13) ∧ (isK S (gR S r0 7) 21) ∧ (vp_in (gI S r0 10) (gN S (gR S r0 7))) ∧ (isK S (gR S r0 6) 21) ∧ (vp_in (gI S r0 10) (gN S (gR S r0 6))) ∧ ((((gI S (gR S r0 7) ((gI S r0 10) : Int32).toNatClampNeg) - (gI S (gR S r0 6) ((gI S r0 10) : Int32).toNatClampNeg)) ≤ 8 → V X d MX13_mustName 66 [(0, vR r0)] [] S Q) ∧ (¬ ((gI S (gR S r0 7) ((gI S r0 10) : Int32).toNatClampNeg) - (gI S (gR S r0 6) ((gI S r0 10) : Int32).toNatClampNeg)) ≤ 8 → (vp_in (gI S r0 10) (gN S (gR S r0 6))) ∧ ∃ e8 : Nat, e8 + 1 ≤ d ∧ C X e8 MX13_fail [vR r0, vI ((gI S (gR S r0 6) ((gI S r0 10) : Int32).toNatClampNeg) + 8)] S (TV Q fun  S11 => V X d MX13_mustName 66 [(0, vR r0)] [] S11 Q)))) : V X d MX13_mustName 26 [(0, vR r0)] [] S Q := by
  refine V_aload_n (pc2 := 27) (dk D_X13_mustName 14 rfl) rfl (V_lg 0 rfl) rfl ?_
  obtain ⟨h1, h⟩ := h
  refine V_getR kc13 (pc2 := 30) 7 (dk D_X13_mustName 15 rfl) fl_13_30 (by decide) (fun _ => rfl) rfl h1 ?_
  refine V_aload_n (pc2 := 31) (dk D_X13_mustName 16 rfl) rfl (V_lg 0 rfl) rfl ?_
  refine V_getI kc13 (pc2 := 34) 10 (dk D_X13_mustName 17 rfl) fl_13_331 (by decide) (fun _ => rfl) rfl h1 ?_
  obtain ⟨h2, h⟩ := h
  obtain ⟨h3, h⟩ := h
  refine V_iald (pc2 := 35) (dk D_X13_mustName 18 rfl) rfl h2 h3 ?_
  refine V_aload_n (pc2 := 36) (dk D_X13_mustName 19 rfl) rfl (V_lg 0 rfl) rfl ?_
  refine V_getR kc13 (pc2 := 39) 6 (dk D_X13_mustName 20 rfl) fl_13_27 (by decide) (fun _ => rfl) rfl h1 ?_
  refine V_aload_n (pc2 := 40) (dk D_X13_mustName 21 rfl) rfl (V_lg 0 rfl) rfl ?_
  refine V_getI kc13 (pc2 := 43) 10 (dk D_X13_mustName 22 rfl) fl_13_331 (by decide) (fun _ => rfl) rfl h1 ?_
  obtain ⟨h4, h⟩ := h
  obtain ⟨h5, h⟩ := h
  refine V_iald (pc2 := 44) (dk D_X13_mustName 23 rfl) rfl h4 h5 ?_
  refine V_isub (pc2 := 45) (dk D_X13_mustName 24 rfl) rfl ?_
  refine V_bipush (x := 8) (pc2 := 47) (dk D_X13_mustName 25 rfl) (by decide) rfl ?_
  refine V_cmple (tgt := 66) (pc2 := 50) (dk D_X13_mustName 26 rfl) (by decide) rfl (fun q6 => ?_) (fun q6 => ?_)
  · have h := h.1 q6
    exact h
  · have h := h.2 q6
    refine V_aload_n (pc2 := 51) (dk D_X13_mustName 27 rfl) rfl (V_lg 0 rfl) rfl ?_
    refine V_aload_n (pc2 := 52) (dk D_X13_mustName 28 rfl) rfl (V_lg 0 rfl) rfl ?_
    refine V_getR kc13 (pc2 := 55) 6 (dk D_X13_mustName 29 rfl) fl_13_27 (by decide) (fun _ => rfl) rfl h1 ?_
    refine V_aload_n (pc2 := 56) (dk D_X13_mustName 30 rfl) rfl (V_lg 0 rfl) rfl ?_
    refine V_getI kc13 (pc2 := 59) 10 (dk D_X13_mustName 31 rfl) fl_13_331 (by decide) (fun _ => rfl) rfl h1 ?_
    obtain ⟨h7, h⟩ := h
    refine V_iald (pc2 := 60) (dk D_X13_mustName 32 rfl) rfl h4 h7 ?_
    refine V_bipush (x := 8) (pc2 := 62) (dk D_X13_mustName 33 rfl) (by decide) rfl ?_
    refine V_iadd (pc2 := 63) (dk D_X13_mustName 34 rfl) rfl ?_
    obtain ⟨e8, he9, hc10⟩ := h
    refine V_callVT (as := [_]) (st := []) (M' := MX13_fail) (ci := 13) (pc2 := 66) (dk D_X13_mustName 35 rfl) ml_13_337 mv_X13_fail rfl rfl (by decide) rfl (Nat.le_of_ble_eq_true rfl) rfl (by decide) he9 h1 hc10 (TV.k fun  S11 h => ?_)
    exact h
theorem w_X13_mustName_66 {X : Cx} {d : Nat} {S : Mem} {Q : Res → Mem → Prop} (r0 : Nat) (h : (isK S r0 13) ∧ ∀ S2 : Mem, S2 = uI S r0 10 ((gI S r0 10) + 1) → Q (.inl (some (vI ((gI S2 r0 10) - 1)))) S2) : V X d MX13_mustName 66 [(0, vR r0)] [] S Q := by
  refine V_aload_n (pc2 := 67) (dk D_X13_mustName 36 rfl) rfl (V_lg 0 rfl) rfl ?_
  refine V_dup (pc2 := 68) (dk D_X13_mustName 37 rfl) rfl rfl ?_
  obtain ⟨h1, h⟩ := h
  refine V_getI kc13 (pc2 := 71) 10 (dk D_X13_mustName 38 rfl) fl_13_331 (by decide) (fun _ => rfl) rfl h1 ?_
  refine V_iconst (x := 1) (pc2 := 72) (dk D_X13_mustName 39 rfl) (by decide) rfl ?_
  refine V_iadd (pc2 := 73) (dk D_X13_mustName 40 rfl) rfl ?_
  refine V_putI kc13 (pc2 := 76) 10 (dk D_X13_mustName 41 rfl) fl_13_331 (by decide) (Or.inl rfl) rfl rfl h1 ?_
  have h := h _ rfl
  refine V_aload_n (pc2 := 77) (dk D_X13_mustName 42 rfl) rfl (V_lg 0 rfl) rfl ?_
  refine V_getI kc13 (pc2 := 80) 10 (dk D_X13_mustName 43 rfl) fl_13_331 (by decide) (fun _ => rfl) rfl h1 ?_
  refine V_iconst (x := 1) (pc2 := 81) (dk D_X13_mustName 44 rfl) (by decide) rfl ?_
  refine V_isub (pc2 := 82) (dk D_X13_mustName 45 rfl) rfl ?_
  exact V_ireturn (dk D_X13_mustName 46 rfl) rfl h
def L_X13_mustNumber : List (Nat × Instr × Nat) := [(0, .aload_n 0, 1), (1, .getfield 23, 3), (4, .aload_n 0, 1), (5, .getfield 331, 3), (8, .iaload, 1), (9, .iconst 2, 1), (10, .if_icmp .eq 16, 3), (13, .aload_n 0, 1), (14, .aload_n 0, 1), (15, .getfield 27, 3), (18, .aload_n 0, 1), (19, .getfield 331, 3), (22, .iaload, 1), (23, .invokevirtual 337, 3), (26, .aload_n 0, 1), (27, .getfield 30, 3), (30, .aload_n 0, 1), (31, .getfield 331, 3), (34, .iaload, 1), (35, .aload_n 0, 1), (36, .getfield 27, 3), (39, .aload_n 0, 1), (40, .getfield 331, 3), (43, .iaload, 1), (44, .isub, 1), (45, .bipush 9, 2), (47, .if_icmp .le 19, 3), (50, .aload_n 0, 1), (51, .aload_n 0, 1), (52, .getfield 27, 3), (55, .aload_n 0, 1), (56, .getfield 331, 3), (59, .iaload, 1), (60, .bipush 9, 2), (62, .iadd, 1), (63, .invokevirtual 337, 3), (66, .aload_n 0, 1), (67, .dup, 1), (68, .getfield 331, 3), (71, .iconst 1, 1), (72, .iadd, 1), (73, .putfield 331, 3), (76, .aload_n 0, 1), (77, .getfield 33, 3), (80, .aload_n 0, 1), (81, .getfield 331, 3), (84, .iconst 1, 1), (85, .isub, 1), (86, .iaload, 1), (87, .ireturn, 1)]
theorem D_X13_mustNumber : dOk cX13_mustNumber L_X13_mustNumber = true := by decide +kernel
theorem w_X13_mustNumber_0 {X : Cx} {d : Nat} {S : Mem} {Q : Res → Mem → Prop} (r0 : Nat) (h : (isK S r0 13) ∧ (isK S (gR S r0 5) 21) ∧ (vp_in (gI S r0 10) (gN S (gR S r0 5))) ∧ (((gI S (gR S r0 5) ((gI S r0 10) : Int32).toNatClampNeg) = 2 → V X d MX13_mustNumber 26 [(0, vR r0)] [] S Q) ∧ (¬ (gI S (gR S r0 5) ((gI S r0 10) : Int32).toNatClampNeg) = 2 → (isK S (gR S r0 6) 21) ∧ (vp_in (gI S r0 10) (gN S (gR S r0 6))) ∧ ∃ e7 : Nat, e7 + 1 ≤ d ∧ C X e7 MX13_fail [vR r0, vI (gI S (gR S r0 6) ((gI S r0 10) : Int32).toNatClampNeg)] S (TV Q fun  S10 => V X d MX13_mustNumber 26 [(0, vR r0)] [] S10 Q)))) : V X d MX13_mustNumber 0 [(0, vR r0)] [] S Q := by
  refine V_aload_n (pc2 := 1) (dk D_X13_mustNumber 0 rfl) rfl (V_lg 0 rfl) rfl ?_
  obtain ⟨h1, h⟩ := h
  refine V_getR kc13 (pc2 := 4) 5 (dk D_X13_mustNumber 1 rfl) fl_13_23 (by decide) (fun _ => rfl) rfl h1 ?_
  refine V_aload_n (pc2 := 5) (dk D_X13_mustNumber 2 rfl) rfl (V_lg 0 rfl) rfl ?_
  refine V_getI kc13 (pc2 := 8) 10 (dk D_X13_mustNumber 3 rfl) fl_13_331 (by decide) (fun _ => rfl) rfl h1 ?_
  obtain ⟨h2, h⟩ := h
  obtain ⟨h3, h⟩ := h
  refine V_iald (pc2 := 9) (dk D_X13_mustNumber 4 rfl) rfl h2 h3 ?_
  refine V_iconst (x := 2) (pc2 := 10) (dk D_X13_mustNumber 5 rfl) (by decide) rfl ?_
  refine V_cmpeq (tgt := 26) (pc2 := 13) (dk D_X13_mustNumber 6 rfl) (by decide) rfl (fun q4 => ?_) (fun q4 => ?_)
  · have h := h.1 q4
    exact h
  · have h := h.2 q4
    refine V_aload_n (pc2 := 14) (dk D_X13_mustNumber 7 rfl) rfl (V_lg 0 rfl) rfl ?_
    refine V_aload_n (pc2 := 15) (dk D_X13_mustNumber 8 rfl) rfl (V_lg 0 rfl) rfl ?_
    refine V_getR kc13 (pc2 := 18) 6 (dk D_X13_mustNumber 9 rfl) fl_13_27 (by decide) (fun _ => rfl) rfl h1 ?_
    refine V_aload_n (pc2 := 19) (dk D_X13_mustNumber 10 rfl) rfl (V_lg 0 rfl) rfl ?_
    refine V_getI kc13 (pc2 := 22) 10 (dk D_X13_mustNumber 11 rfl) fl_13_331 (by decide) (fun _ => rfl) rfl h1 ?_
    obtain ⟨h5, h⟩ := h
    obtain ⟨h6, h⟩ := h
    refine V_iald (pc2 := 23) (dk D_X13_mustNumber 12 rfl) rfl h5 h6 ?_
    obtain ⟨e7, he8, hc9⟩ := h
    refine V_callVT (as := [_]) (st := []) (M' := MX13_fail) (ci := 13) (pc2 := 26) (dk D_X13_mustNumber 13 rfl) ml_13_337 mv_X13_fail rfl rfl (by decide) rfl (Nat.le_of_ble_eq_true rfl) rfl (by decide) he8 h1 hc9 (TV.k fun  S10 h => ?_)
    exact h
theorem w_X13_mustNumber_26 {X : Cx} {d : Nat} {S : Mem} {Q : Res → Mem → Prop} (r0 : Nat) (h : (isK S r0 13) ∧ (isK S (gR S r0 7) 21) ∧ (vp_in (gI S r0 10) (gN S (gR S r0 7))) ∧ (isK S (gR S r0 6) 21) ∧ (vp_in (gI S r0 10) (gN S (gR S r0 6))) ∧ ((((gI S (gR S r0 7) ((gI S r0 10) : Int32).toNatClampNeg) - (gI S (gR S r0 6) ((gI S r0 10) : Int32).toNatClampNeg)) ≤ 9 → V X d MX13_mustNumber 66 [(0, vR r0)] [] S Q) ∧ (¬ ((gI S (gR S r0 7) ((gI S r0 10) : Int32).toNatClampNeg) - (gI S (gR S r0 6) ((gI S r0 10) : Int32).toNatClampNeg)) ≤ 9 → (vp_in (gI S r0 10) (gN S (gR S r0 6))) ∧ ∃ e8 : Nat, e8 + 1 ≤ d ∧ C X e8 MX13_fail [vR r0, vI ((gI S (gR S r0 6) ((gI S r0 10) : Int32).toNatClampNeg) + 9)] S (TV Q fun  S11 => V X d MX13_mustNumber 66 [(0, vR r0)] [] S11 Q)))) : V X d MX13_mustNumber 26 [(0, vR r0)] [] S Q := by
  refine V_aload_n (pc2 := 27) (dk D_X13_mustNumber 14 rfl) rfl (V_lg 0 rfl) rfl ?_
  obtain ⟨h1, h⟩ := h
  refine V_getR kc13 (pc2 := 30) 7 (dk D_X13_mustNumber 15 rfl) fl_13_30 (by decide) (fun _ => rfl) rfl h1 ?_
  refine V_aload_n (pc2 := 31) (dk D_X13_mustNumber 16 rfl) rfl (V_lg 0 rfl) rfl ?_
  refine V_getI kc13 (pc2 := 34) 10 (dk D_X13_mustNumber 17 rfl) fl_13_331 (by decide) (fun _ => rfl) rfl h1 ?_
  obtain ⟨h2, h⟩ := h
  obtain ⟨h3, h⟩ := h
  refine V_iald (pc2 := 35) (dk D_X13_mustNumber 18 rfl) rfl h2 h3 ?_
  refine V_aload_n (pc2 := 36) (dk D_X13_mustNumber 19 rfl) rfl (V_lg 0 rfl) rfl ?_
  refine V_getR kc13 (pc2 := 39) 6 (dk D_X13_mustNumber 20 rfl) fl_13_27 (by decide) (fun _ => rfl) rfl h1 ?_
  refine V_aload_n (pc2 := 40) (dk D_X13_mustNumber 21 rfl) rfl (V_lg 0 rfl) rfl ?_
  refine V_getI kc13 (pc2 := 43) 10 (dk D_X13_mustNumber 22 rfl) fl_13_331 (by decide) (fun _ => rfl) rfl h1 ?_
  obtain ⟨h4, h⟩ := h
  obtain ⟨h5, h⟩ := h
  refine V_iald (pc2 := 44) (dk D_X13_mustNumber 23 rfl) rfl h4 h5 ?_
  refine V_isub (pc2 := 45) (dk D_X13_mustNumber 24 rfl) rfl ?_
  refine V_bipush (x := 9) (pc2 := 47) (dk D_X13_mustNumber 25 rfl) (by decide) rfl ?_
  refine V_cmple (tgt := 66) (pc2 := 50) (dk D_X13_mustNumber 26 rfl) (by decide) rfl (fun q6 => ?_) (fun q6 => ?_)
  · have h := h.1 q6
    exact h
  · have h := h.2 q6
    refine V_aload_n (pc2 := 51) (dk D_X13_mustNumber 27 rfl) rfl (V_lg 0 rfl) rfl ?_
    refine V_aload_n (pc2 := 52) (dk D_X13_mustNumber 28 rfl) rfl (V_lg 0 rfl) rfl ?_
    refine V_getR kc13 (pc2 := 55) 6 (dk D_X13_mustNumber 29 rfl) fl_13_27 (by decide) (fun _ => rfl) rfl h1 ?_
    refine V_aload_n (pc2 := 56) (dk D_X13_mustNumber 30 rfl) rfl (V_lg 0 rfl) rfl ?_
    refine V_getI kc13 (pc2 := 59) 10 (dk D_X13_mustNumber 31 rfl) fl_13_331 (by decide) (fun _ => rfl) rfl h1 ?_
    obtain ⟨h7, h⟩ := h
    refine V_iald (pc2 := 60) (dk D_X13_mustNumber 32 rfl) rfl h4 h7 ?_
    refine V_bipush (x := 9) (pc2 := 62) (dk D_X13_mustNumber 33 rfl) (by decide) rfl ?_
    refine V_iadd (pc2 := 63) (dk D_X13_mustNumber 34 rfl) rfl ?_
    obtain ⟨e8, he9, hc10⟩ := h
    refine V_callVT (as := [_]) (st := []) (M' := MX13_fail) (ci := 13) (pc2 := 66) (dk D_X13_mustNumber 35 rfl) ml_13_337 mv_X13_fail rfl rfl (by decide) rfl (Nat.le_of_ble_eq_true rfl) rfl (by decide) he9 h1 hc10 (TV.k fun  S11 h => ?_)
    exact h
theorem w_X13_mustNumber_66 {X : Cx} {d : Nat} {S : Mem} {Q : Res → Mem → Prop} (r0 : Nat) (h : (isK S r0 13) ∧ ∀ S2 : Mem, S2 = uI S r0 10 ((gI S r0 10) + 1) → (isK S (gR S r0 8) 21) ∧ (vp_in ((gI S2 r0 10) - 1) (gN S (gR S r0 8))) ∧ Q (.inl (some (vI (gI S2 (gR S r0 8) (((gI S2 r0 10) - 1) : Int32).toNatClampNeg)))) S2) : V X d MX13_mustNumber 66 [(0, vR r0)] [] S Q := by
  refine V_aload_n (pc2 := 67) (dk D_X13_mustNumber 36 rfl) rfl (V_lg 0 rfl) rfl ?_
  refine V_dup (pc2 := 68) (dk D_X13_mustNumber 37 rfl) rfl rfl ?_
  obtain ⟨h1, h⟩ := h
  refine V_getI kc13 (pc2 := 71) 10 (dk D_X13_mustNumber 38 rfl) fl_13_331 (by decide) (fun _ => rfl) rfl h1 ?_
  refine V_iconst (x := 1) (pc2 := 72) (dk D_X13_mustNumber 39 rfl) (by decide) rfl ?_
  refine V_iadd (pc2 := 73) (dk D_X13_mustNumber 40 rfl) rfl ?_
  refine V_putI kc13 (pc2 := 76) 10 (dk D_X13_mustNumber 41 rfl) fl_13_331 (by decide) (Or.inl rfl) rfl rfl h1 ?_
  have h := h _ rfl
  refine V_aload_n (pc2 := 77) (dk D_X13_mustNumber 42 rfl) rfl (V_lg 0 rfl) rfl ?_
  refine V_getR kc13 (pc2 := 80) 8 (dk D_X13_mustNumber 43 rfl) fl_13_33 (by decide) (fun _ => rfl) rfl h1 ?_
  refine V_aload_n (pc2 := 81) (dk D_X13_mustNumber 44 rfl) rfl (V_lg 0 rfl) rfl ?_
  refine V_getI kc13 (pc2 := 84) 10 (dk D_X13_mustNumber 45 rfl) fl_13_331 (by decide) (fun _ => rfl) rfl h1 ?_
  refine V_iconst (x := 1) (pc2 := 85) (dk D_X13_mustNumber 46 rfl) (by decide) rfl ?_
  refine V_isub (pc2 := 86) (dk D_X13_mustNumber 47 rfl) rfl ?_
  obtain ⟨h3, h⟩ := h
  obtain ⟨h4, h⟩ := h
  refine V_iald (pc2 := 87) (dk D_X13_mustNumber 48 rfl) rfl h3 h4 ?_
  exact V_ireturn (dk D_X13_mustNumber 49 rfl) rfl h
def L_X13_opens : List (Nat × Instr × Nat) := [(0, .aload_n 0, 1), (1, .getfield 345, 3), (4, .bipush 24, 2), (6, .if_icmp .ne 16, 3), (9, .aload_n 0, 1), (10, .aload_n 0, 1), (11, .getfield 27, 3), (14, .aload_n 0, 1), (15, .getfield 331, 3), (18, .iaload, 1), (19, .invokevirtual 337, 3), (22, .aload_n 0, 1), (23, .dup, 1), (24, .getfield 345, 3), (27, .iconst 1, 1), (28, .iadd, 1), (29, .putfield 345, 3), (32, .aload_n 0, 1), (33, .dup, 1), (34, .getfield 331, 3), (37, .iconst 1, 1), (38, .iadd, 1), (39, .putfield 331, 3), (42, .return_, 1)]
theorem D_X13_opens : dOk cX13_opens L_X13_opens = true := by decide +kernel
theorem w_X13_opens_0 {X : Cx} {d : Nat} {S : Mem} {Q : Res → Mem → Prop} (r0 : Nat) (h : (isK S r0 13) ∧ ((¬ (gI S r0 12) = 24 → V X d MX13_opens 22 [(0, vR r0)] [] S Q) ∧ ((gI S r0 12) = 24 → (isK S (gR S r0 6) 21) ∧ (vp_in (gI S r0 10) (gN S (gR S r0 6))) ∧ ∃ e5 : Nat, e5 + 1 ≤ d ∧ C X e5 MX13_fail [vR r0, vI (gI S (gR S r0 6) ((gI S r0 10) : Int32).toNatClampNeg)] S (TV Q fun  S8 => V X d MX13_opens 22 [(0, vR r0)] [] S8 Q)))) : V X d MX13_opens 0 [(0, vR r0)] [] S Q := by
  refine V_aload_n (pc2 := 1) (dk D_X13_opens 0 rfl) rfl (V_lg 0 rfl) rfl ?_
  obtain ⟨h1, h⟩ := h
  refine V_getI kc13 (pc2 := 4) 12 (dk D_X13_opens 1 rfl) fl_13_345 (by decide) (fun _ => rfl) rfl h1 ?_
  refine V_bipush (x := 24) (pc2 := 6) (dk D_X13_opens 2 rfl) (by decide) rfl ?_
  refine V_cmpne (tgt := 22) (pc2 := 9) (dk D_X13_opens 3 rfl) (by decide) rfl (fun q2 => ?_) (fun q2 => ?_)
  · have h := h.1 q2
    exact h
  · have h := h.2 q2
    refine V_aload_n (pc2 := 10) (dk D_X13_opens 4 rfl) rfl (V_lg 0 rfl) rfl ?_
    refine V_aload_n (pc2 := 11) (dk D_X13_opens 5 rfl) rfl (V_lg 0 rfl) rfl ?_
    refine V_getR kc13 (pc2 := 14) 6 (dk D_X13_opens 6 rfl) fl_13_27 (by decide) (fun _ => rfl) rfl h1 ?_
    refine V_aload_n (pc2 := 15) (dk D_X13_opens 7 rfl) rfl (V_lg 0 rfl) rfl ?_
    refine V_getI kc13 (pc2 := 18) 10 (dk D_X13_opens 8 rfl) fl_13_331 (by decide) (fun _ => rfl) rfl h1 ?_
    obtain ⟨h3, h⟩ := h
    obtain ⟨h4, h⟩ := h
    refine V_iald (pc2 := 19) (dk D_X13_opens 9 rfl) rfl h3 h4 ?_
    obtain ⟨e5, he6, hc7⟩ := h
    refine V_callVT (as := [_]) (st := []) (M' := MX13_fail) (ci := 13) (pc2 := 22) (dk D_X13_opens 10 rfl) ml_13_337 mv_X13_fail rfl rfl (by decide) rfl (Nat.le_of_ble_eq_true rfl) rfl (by decide) he6 h1 hc7 (TV.k fun  S8 h => ?_)
    exact h
theorem w_X13_opens_22 {X : Cx} {d : Nat} {S : Mem} {Q : Res → Mem → Prop} (r0 : Nat) (h : (isK S r0 13) ∧ ∀ S2 : Mem, S2 = uI S r0 12 ((gI S r0 12) + 1) → ∀ S3 : Mem, S3 = uI S2 r0 10 ((gI S2 r0 10) + 1) → Q (.inl none) S3) : V X d MX13_opens 22 [(0, vR r0)] [] S Q := by
  refine V_aload_n (pc2 := 23) (dk D_X13_opens 11 rfl) rfl (V_lg 0 rfl) rfl ?_
  refine V_dup (pc2 := 24) (dk D_X13_opens 12 rfl) rfl rfl ?_
  obtain ⟨h1, h⟩ := h
  refine V_getI kc13 (pc2 := 27) 12 (dk D_X13_opens 13 rfl) fl_13_345 (by decide) (fun _ => rfl) rfl h1 ?_
  refine V_iconst (x := 1) (pc2 := 28) (dk D_X13_opens 14 rfl) (by decide) rfl ?_
  refine V_iadd (pc2 := 29) (dk D_X13_opens 15 rfl) rfl ?_
  refine V_putI kc13 (pc2 := 32) 12 (dk D_X13_opens 16 rfl) fl_13_345 (by decide) (Or.inl rfl) rfl rfl h1 ?_
  have h := h _ rfl
  refine V_aload_n (pc2 := 33) (dk D_X13_opens 17 rfl) rfl (V_lg 0 rfl) rfl ?_
  refine V_dup (pc2 := 34) (dk D_X13_opens 18 rfl) rfl rfl ?_
  refine V_getI kc13 (pc2 := 37) 10 (dk D_X13_opens 19 rfl) fl_13_331 (by decide) (fun _ => rfl) rfl h1 ?_
  refine V_iconst (x := 1) (pc2 := 38) (dk D_X13_opens 20 rfl) (by decide) rfl ?_
  refine V_iadd (pc2 := 39) (dk D_X13_opens 21 rfl) rfl ?_
  refine V_putI kc13 (pc2 := 42) 10 (dk D_X13_opens 22 rfl) fl_13_331 (by decide) (Or.inl rfl) rfl rfl h1 ?_
  have h := h _ rfl
  exact V_return (dk D_X13_opens 23 rfl) rfl h
def L_X13_closes : List (Nat × Instr × Nat) := [(0, .aload_n 0, 1), (1, .iload_n 1, 1), (2, .invokevirtual 348, 3), (5, .aload_n 0, 1), (6, .dup, 1), (7, .getfield 345, 3), (10, .iconst 1, 1), (11, .isub, 1), (12, .putfield 345, 3), (15, .return_, 1)]
theorem D_X13_closes : dOk cX13_closes L_X13_closes = true := by decide +kernel
theorem w_X13_closes_0 {X : Cx} {d : Nat} {S : Mem} {Q : Res → Mem → Prop} (r0 : Nat) (x1 : Int32) (h : (isK S r0 13) ∧ ∃ e1 : Nat, e1 + 1 ≤ d ∧ C X e1 MX13_mustSign [vR r0, vI x1] S (TV Q fun  S4 => (isK S4 r0 13) ∧ ∀ S7 : Mem, S7 = uI S4 r0 12 ((gI S4 r0 12) - 1) → Q (.inl none) S7)) : V X d MX13_closes 0 [(0, vR r0), (1, vI x1)] [] S Q := by
  refine V_aload_n (pc2 := 1) (dk D_X13_closes 0 rfl) rfl (V_lg 0 rfl) rfl ?_
  refine V_iload_n (pc2 := 2) (dk D_X13_closes 1 rfl) rfl (V_lg 1 rfl) rfl ?_
  obtain ⟨h5, h⟩ := h
  obtain ⟨e1, he2, hc3⟩ := h
  refine V_callVT (as := [_]) (st := []) (M' := MX13_mustSign) (ci := 13) (pc2 := 5) (dk D_X13_closes 2 rfl) ml_13_348 mv_X13_mustSign rfl rfl (by decide) rfl (Nat.le_of_ble_eq_true rfl) rfl (by decide) he2 h5 hc3 (TV.k fun  S4 h => ?_)
  refine V_aload_n (pc2 := 6) (dk D_X13_closes 3 rfl) rfl (V_lg 0 rfl) rfl ?_
  refine V_dup (pc2 := 7) (dk D_X13_closes 4 rfl) rfl rfl ?_
  obtain ⟨h6, h⟩ := h
  refine V_getI kc13 (pc2 := 10) 12 (dk D_X13_closes 5 rfl) fl_13_345 (by decide) (fun _ => rfl) rfl h6 ?_
  refine V_iconst (x := 1) (pc2 := 11) (dk D_X13_closes 6 rfl) (by decide) rfl ?_
  refine V_isub (pc2 := 12) (dk D_X13_closes 7 rfl) rfl ?_
  refine V_putI kc13 (pc2 := 15) 12 (dk D_X13_closes 8 rfl) fl_13_345 (by decide) (Or.inl rfl) rfl rfl h6 ?_
  have h := h _ rfl
  exact V_return (dk D_X13_closes 9 rfl) rfl h
def L_X13_readBlock : List (Nat × Instr × Nat) := [(0, .aload_n 0, 1), (1, .bipush 123, 2), (3, .invokevirtual 334, 3), (6, .ifCond .ne 16, 3), (9, .aload_n 0, 1), (10, .aload_n 0, 1), (11, .getfield 27, 3), (14, .aload_n 0, 1), (15, .getfield 331, 3), (18, .iaload, 1), (19, .invokevirtual 337, 3), (22, .aload_n 0, 1), (23, .invokevirtual 363, 3), (26, .aload_n 0, 1), (27, .bipush 125, 2), (29, .invokevirtual 334, 3), (32, .ifCond .ne 10, 3), (35, .aload_n 0, 1), (36, .invokestatic 366, 3), (39, .goto (-13), 3), (42, .aload_n 0, 1), (43, .bipush 125, 2), (45, .invokevirtual 370, 3), (48, .return_, 1)]
theorem D_X13_readBlock : dOk cX13_readBlock L_X13_readBlock = true := by decide +kernel
theorem w_X13_readBlock_0 {X : Cx} {d : Nat} {S : Mem} {Q : Res → Mem → Prop} (r0 : Nat) (h : (isK S r0 13) ∧ ∃ e1 : Nat, e1 + 1 ≤ d ∧ C X e1 MX13_isSign [vR r0, vI 123] S (RI fun y4 S5 => ((¬ y4 = 0 → V X d MX13_readBlock 22 [(0, vR r0)] [] S5 Q) ∧ (y4 = 0 → (isK S5 r0 13) ∧ (isK S5 (gR S5 r0 6) 21) ∧ (vp_in (gI S5 r0 10) (gN S5 (gR S5 r0 6))) ∧ ∃ e11 : Nat, e11 + 1 ≤ d ∧ C X e11 MX13_fail [vR r0, vI (gI S5 (gR S5 r0 6) ((gI S5 r0 10) : Int32).toNatClampNeg)] S5 (TV Q fun  S14 => V X d MX13_readBlock 22 [(0, vR r0)] [] S14 Q))))) : V X d MX13_readBlock 0 [(0, vR r0)] [] S Q := by
  refine V_aload_n (pc2 := 1) (dk D_X13_readBlock 0 rfl) rfl (V_lg 0 rfl) rfl ?_
  refine V_bipush (x := 123) (pc2 := 3) (dk D_X13_readBlock 1 rfl) (by decide) rfl ?_
  obtain ⟨h6, h⟩ := h
  obtain ⟨e1, he2, hc3⟩ := h
  refine V_callV (as := [_]) (st := []) (M' := MX13_isSign) (ci := 13) (pc2 := 6) (dk D_X13_readBlock 2 rfl) ml_13_334 mv_X13_isSign rfl rfl (by decide) rfl (Nat.le_of_ble_eq_true rfl) rfl he2 h6 hc3 (RI.k fun y4 S5 h => ?_)
  refine V_ifne (tgt := 22) (pc2 := 9) (dk D_X13_readBlock 3 rfl) (by decide) rfl (fun q7 => ?_) (fun q7 => ?_)
  · have h := h.1 q7
    exact h
  · have h := h.2 q7
    refine V_aload_n (pc2 := 10) (dk D_X13_readBlock 4 rfl) rfl (V_lg 0 rfl) rfl ?_
    refine V_aload_n (pc2 := 11) (dk D_X13_readBlock 5 rfl) rfl (V_lg 0 rfl) rfl ?_
    obtain ⟨h8, h⟩ := h
    refine V_getR kc13 (pc2 := 14) 6 (dk D_X13_readBlock 6 rfl) fl_13_27 (by decide) (fun _ => rfl) rfl h8 ?_
    refine V_aload_n (pc2 := 15) (dk D_X13_readBlock 7 rfl) rfl (V_lg 0 rfl) rfl ?_
    refine V_getI kc13 (pc2 := 18) 10 (dk D_X13_readBlock 8 rfl) fl_13_331 (by decide) (fun _ => rfl) rfl h8 ?_
    obtain ⟨h9, h⟩ := h
    obtain ⟨h10, h⟩ := h
    refine V_iald (pc2 := 19) (dk D_X13_readBlock 9 rfl) rfl h9 h10 ?_
    obtain ⟨e11, he12, hc13⟩ := h
    refine V_callVT (as := [_]) (st := []) (M' := MX13_fail) (ci := 13) (pc2 := 22) (dk D_X13_readBlock 10 rfl) ml_13_337 mv_X13_fail rfl rfl (by decide) rfl (Nat.le_of_ble_eq_true rfl) rfl (by decide) he12 h8 hc13 (TV.k fun  S14 h => ?_)
    exact h
theorem w_X13_readBlock_22 {X : Cx} {d : Nat} {S : Mem} {Q : Res → Mem → Prop} (r0 : Nat) (h : (isK S r0 13) ∧ ∃ e1 : Nat, e1 + 1 ≤ d ∧ C X e1 MX13_opens [vR r0] S (TV Q fun  S4 => V X d MX13_readBlock 26 [(0, vR r0)] [] S4 Q)) : V X d MX13_readBlock 22 [(0, vR r0)] [] S Q := by
  refine V_aload_n (pc2 := 23) (dk D_X13_readBlock 11 rfl) rfl (V_lg 0 rfl) rfl ?_
  obtain ⟨h5, h⟩ := h
  obtain ⟨e1, he2, hc3⟩ := h
  refine V_callVT (as := []) (st := []) (M' := MX13_opens) (ci := 13) (pc2 := 26) (dk D_X13_readBlock 12 rfl) ml_13_363 mv_X13_opens rfl rfl (by decide) rfl (Nat.le_of_ble_eq_true rfl) rfl (by decide) he2 h5 hc3 (TV.k fun  S4 h => ?_)
  exact h
theorem w_X13_readBlock_26 {X : Cx} {d : Nat} {S : Mem} {Q : Res → Mem → Prop} (r0 : Nat) (h : (isK S r0 13) ∧ ∃ e1 : Nat, e1 + 1 ≤ d ∧ C X e1 MX13_isSign [vR r0, vI 125] S (RI fun y4 S5 => ((¬ y4 = 0 → (isK S5 r0 13) ∧ ∃ e8 : Nat, e8 + 1 ≤ d ∧ C X e8 MX13_closes [vR r0, vI 125] S5 (TV Q fun  S11 => Q (.inl none) S11)) ∧ (y4 = 0 → ∃ e13 : Nat, e13 + 1 ≤ d ∧ C X e13 MX13_readStatement [vR r0] S5 (TV Q fun  S16 => V X d MX13_readBlock 26 [(0, vR r0)] [] S16 Q))))) : V X d MX13_readBlock 26 [(0, vR r0)] [] S Q := by
  refine V_aload_n (pc2 := 27) (dk D_X13_readBlock 13 rfl) rfl (V_lg 0 rfl) rfl ?_
  refine V_bipush (x := 125) (pc2 := 29) (dk D_X13_readBlock 14 rfl) (by decide) rfl ?_
  obtain ⟨h6, h⟩ := h
  obtain ⟨e1, he2, hc3⟩ := h
  refine V_callV (as := [_]) (st := []) (M' := MX13_isSign) (ci := 13) (pc2 := 32) (dk D_X13_readBlock 15 rfl) ml_13_334 mv_X13_isSign rfl rfl (by decide) rfl (Nat.le_of_ble_eq_true rfl) rfl he2 h6 hc3 (RI.k fun y4 S5 h => ?_)
  refine V_ifne (tgt := 42) (pc2 := 35) (dk D_X13_readBlock 16 rfl) (by decide) rfl (fun q7 => ?_) (fun q7 => ?_)
  · have h := h.1 q7
    refine V_aload_n (pc2 := 43) (dk D_X13_readBlock 20 rfl) rfl (V_lg 0 rfl) rfl ?_
    refine V_bipush (x := 125) (pc2 := 45) (dk D_X13_readBlock 21 rfl) (by decide) rfl ?_
    obtain ⟨h12, h⟩ := h
    obtain ⟨e8, he9, hc10⟩ := h
    refine V_callVT (as := [_]) (st := []) (M' := MX13_closes) (ci := 13) (pc2 := 48) (dk D_X13_readBlock 22 rfl) ml_13_370 mv_X13_closes rfl rfl (by decide) rfl (Nat.le_of_ble_eq_true rfl) rfl (by decide) he9 h12 hc10 (TV.k fun  S11 h => ?_)
    exact V_return (dk D_X13_readBlock 23 rfl) rfl h
  · have h := h.2 q7
    refine V_aload_n (pc2 := 36) (dk D_X13_readBlock 17 rfl) rfl (V_lg 0 rfl) rfl ?_
    obtain ⟨e13, he14, hc15⟩ := h
    refine V_callST (as := [_]) (st := []) (M' := MX13_readStatement) (pc2 := 39) (dk D_X13_readBlock 18 rfl) ml_13_366 mv_X13_readStatement rfl rfl (Nat.le_of_ble_eq_true rfl) rfl (by decide) he14 hc15 (TV.k fun  S16 h => ?_)
    refine V_goto (tgt := 26) (dk D_X13_readBlock 19 rfl) (by decide) ?_
    exact h
def L_X13_readStatement : List (Nat × Instr × Nat) := [(0, .aload_n 0, 1), (1, .getfield 27, 3), (4, .aload_n 0, 1), (5, .getfield 331, 3), (8, .iaload, 1), (9, .istore_n 1, 1), (10, .aload_n 0, 1), (11, .iconst 0, 1), (12, .iload_n 1, 1), (13, .iconst 0, 1), (14, .invokevirtual 373, 3), (17, .istore_n 2, 1), (18, .aload_n 0, 1), (19, .ldc 62, 2), (21, .invokevirtual 341, 3), (24, .ifCond .eq 35, 3), (27, .aload_n 0, 1), (28, .dup, 1), (29, .getfield 331, 3), (32, .iconst 1, 1), (33, .iadd, 1), (34, .putfield 331, 3), (37, .aload_n 0, 1), (38, .invokestatic 377, 3), (41, .aload_n 0, 1), (42, .bipush 59, 2), (44, .invokevirtual 348, 3), (47, .aload_n 0, 1), (48, .bipush 21, 2), (50, .iconst 0, 1), (51, .iconst 0, 1), (52, .invokevirtual 373, 3), (55, .istore_n 2, 1), (56, .goto 470, 3), (59, .aload_n 0, 1), (60, .ldc 46, 2), (62, .invokevirtual 341, 3), (65, .ifCond .eq 100, 3), (68, .aload_n 0, 1), (69, .dup, 1), (70, .getfield 331, 3), (73, .iconst 1, 1), (74, .iadd, 1), (75, .putfield 331, 3), (78, .aload_n 0, 1), (79, .invokestatic 380, 3), (82, .aload_n 0, 1), (83, .bipush 24, 2), (85, .iconst 0, 1), (86, .iconst 0, 1), (87, .invokevirtual 373, 3), (90, .istore_n 3, 1), (91, .aload_n 0, 1), (92, .invokestatic 383, 3), (95, .aload_n 0, 1), (96, .ldc 48, 2), (98, .invokevirtual 341, 3), (101, .ifCond .eq 51, 3), (104, .aload_n 0, 1), (105, .dup, 1), (106, .getfield 331, 3), (109, .iconst 1, 1), (110, .iadd, 1), (111, .putfield 331, 3), (114, .aload_n 0, 1), (115, .bipush 23, 2), (117, .iconst 0, 1), (118, .iconst 0, 1), (119, .invokevirtual 373, 3), (122, .istore 4, 2), (124, .aload_n 0, 1), (125, .getfield 95, 3), (128, .iload_n 3, 1), (129, .aload_n 0, 1), (130, .getfield 351, 3), (133, .iastore, 1), (134, .aload_n 0, 1), (135, .invokestatic 383, 3), (138, .aload_n 0, 1), (139, .getfield 95, 3), (142, .iload 4, 2), (144, .aload_n 0, 1), (145, .getfield 351, 3), (148, .iastore, 1), (149, .goto 13, 3), (152, .aload_n 0, 1), (153, .getfield 95, 3), (156, .iload_n 3, 1), (157, .aload_n 0, 1), (158, .getfield 351, 3), (161, .iastore, 1), (162, .goto 364, 3), (165, .aload_n 0, 1), (166, .ldc 50, 2), (168, .invokevirtual 341, 3), (171, .ifCond .eq 67, 3), (174, .aload_n 0, 1), (175, .dup, 1), (176, .getfield 331, 3), (179, .iconst 1, 1), (180, .iadd, 1), (181, .putfield 331, 3), (184, .aload_n 0, 1), (185, .getfield 351, 3), (188, .istore_n 3, 1), (189, .aload_n 0, 1), (190, .invokestatic 380, 3), (193, .aload_n 0, 1), (194, .bipush 24, 2), (196, .iconst 0, 1), (197, .iconst 0, 1), (198, .invokevirtual 373, 3), (201, .istore 4, 2), (203, .aload_n 0, 1), (204, .invokestatic 383, 3), (207, .aload_n 0, 1), (208, .iconst 0, 1), (209, .iload_n 1, 1), (210, .iconst 0, 1), (211, .invokevirtual 373, 3), (214, .istore_n 2, 1), (215, .aload_n 0, 1), (216, .bipush 23, 2), (218, .iload_n 3, 1), (219, .iconst 0, 1), (220, .invokevirtual 373, 3), (223, .istore_n 2, 1), (224, .aload_n 0, 1), (225, .getfield 95, 3), (228, .iload 4, 2), (230, .aload_n 0, 1), (231, .getfield 351, 3), (234, .iastore, 1), (235, .goto 291, 3), (238, .aload_n 0, 1), (239, .ldc 58, 2), (241, .invokevirtual 341, 3), (244, .ifCond .eq 48, 3), (247, .aload_n 0, 1), (248, .dup, 1), (249, .getfield 331, 3), (252, .iconst 1, 1), (253, .iadd, 1), (254, .putfield 331, 3), (257, .aload_n 0, 1), (258, .invokevirtual 386, 3), (261, .istore_n 3, 1), (262, .aload_n 0, 1), (263, .invokestatic 377, 3), (266, .aload_n 0, 1), (267, .bipush 59, 2), (269, .invokevirtual 348, 3), (272, .aload_n 0, 1), (273, .bipush 25, 2), (275, .iload_n 3, 1), (276, .bipush 10, 2), (278, .irem, 1), (279, .aload_n 0, 1), (280, .getfield 389, 3), (283, .iconst 1, 1), (284, .isub, 1), (285, .invokevirtual 373, 3), (288, .istore_n 2, 1), (289, .goto 237, 3), (292, .aload_n 0, 1), (293, .ldc 60, 2), (295, .invokevirtual 341, 3), (298, .ifCond .eq 55, 3), (301, .aload_n 0, 1), (302, .dup, 1), (303, .getfield 331, 3), (306, .iconst 1, 1), (307, .iadd, 1), (308, .putfield 331, 3), (311, .aload_n 0, 1), (312, .bipush 59, 2), (314, .invokevirtual 334, 3), (317, .ifCond .eq 14, 3), (320, .aload_n 0, 1), (321, .iconst 1, 1), (322, .iconst 0, 1), (323, .iconst 0, 1), (324, .invokevirtual 373, 3), (327, .istore_n 2, 1), (328, .goto 7, 3), (331, .aload_n 0, 1), (332, .invokestatic 377, 3), (335, .aload_n 0, 1), (336, .bipush 59, 2), (338, .invokevirtual 348, 3), (341, .aload_n 0, 1), (342, .bipush 26, 2), (344, .iconst 0, 1), (345, .iconst 0, 1), (346, .invokevirtual 373, 3), (349, .istore_n 2, 1), (350, .goto 176, 3), (353, .aload_n 0, 1), (354, .ldc 72, 2), (356, .invokevirtual 341, 3), (359, .ifCond .eq 35, 3), (362, .aload_n 0, 1), (363, .dup, 1), (364, .getfield 331, 3), (367, .iconst 1, 1), (368, .iadd, 1), (369, .putfield 331, 3), (372, .aload_n 0, 1), (373, .invokestatic 377, 3), (376, .aload_n 0, 1), (377, .bipush 59, 2), (379, .invokevirtual 348, 3), (382, .aload_n 0, 1), (383, .bipush 27, 2), (385, .iconst 0, 1), (386, .iconst 0, 1), (387, .invokevirtual 373, 3), (390, .istore_n 2, 1), (391, .goto 135, 3), (394, .aload_n 0, 1), (395, .ldc 84, 2), (397, .invokevirtual 341, 3), (400, .ifCond .eq 11, 3), (403, .aload_n 0, 1), (404, .iload_n 1, 1), (405, .invokestatic 392, 3), (408, .goto 118, 3), (411, .aload_n 0, 1), (412, .ldc 52, 2), (414, .invokevirtual 341, 3), (417, .ifCond .eq 10, 3), (420, .aload_n 0, 1), (421, .invokestatic 396, 3), (424, .goto 102, 3), (427, .aload_n 0, 1), (428, .getfield 23, 3), (431, .aload_n 0, 1), (432, .getfield 331, 3), (435, .iaload, 1), (436, .iconst 1, 1), (437, .if_icmp .ne 70, 3), (440, .aload_n 0, 1), (441, .getfield 23, 3), (444, .aload_n 0, 1), (445, .getfield 331, 3), (448, .iconst 1, 1), (449, .iadd, 1), (450, .iaload, 1), (451, .iconst 3, 1), (452, .if_icmp .ne 55, 3), (455, .aload_n 0, 1), (456, .getfield 33, 3), (459, .aload_n 0, 1), (460, .getfield 331, 3), (463, .iconst 1, 1), (464, .iadd, 1), (465, .iaload, 1), (466, .bipush 61, 2), (468, .if_icmp .ne 39, 3), (471, .aload_n 0, 1), (472, .aload_n 0, 1), (473, .invokevirtual 399, 3), (476, .invokevirtual 402, 3), (479, .istore_n 3, 1), (480, .aload_n 0, 1), (481, .bipush 61, 2), (483, .invokevirtual 348, 3), (486, .aload_n 0, 1), (487, .invokestatic 377, 3), (490, .aload_n 0, 1), (491, .bipush 59, 2), (493, .invokevirtual 348, 3), (496, .aload_n 0, 1), (497, .iconst 3, 1), (498, .iload_n 3, 1), (499, .iconst 0, 1), (500, .invokevirtual 373, 3), (503, .istore_n 2, 1), (504, .goto 22, 3), (507, .aload_n 0, 1), (508, .invokestatic 377, 3), (511, .aload_n 0, 1), (512, .bipush 59, 2), (514, .invokevirtual 348, 3), (517, .aload_n 0, 1), (518, .bipush 22, 2), (520, .iconst 0, 1), (521, .iconst 0, 1), (522, .invokevirtual 373, 3), (525, .istore_n 2, 1), (526, .return_, 1)]
theorem D_X13_readStatement : dOk cX13_readStatement L_X13_readStatement = true := by decide +kernel
set_option maxRecDepth 100000 in
theorem w_X13_readStatement_0 {X : Cx} {d : Nat} {S : Mem} {Q : Res → Mem → Prop} (r0 : Nat) (h : (isK S r0 13) ∧ (isK S (gR S r0 6) 21) ∧ (vp_in (gI S r0 10) (gN S (gR S r0 6))) ∧ ∃ e4 : Nat, e4 + 1 ≤ d ∧ C X e4 MX13_emit [vR r0, vI 0, vI (gI S (gR S r0 6) ((gI S r0 10) : Int32).toNatClampNeg), vI 0] S (RI fun y7 S8 => (isK S8 r0 13) ∧ ∃ e9 : Nat, e9 + 1 ≤ d ∧ C X e9 MX13_isWord [vR r0, vR 14] S8 (RI fun y12 S13 => ((y12 = 0 → (isK S13 r0 13) ∧ ∃ e16 : Nat, e16 + 1 ≤ d ∧ C X e16 MX13_isWord [vR r0, vR 6] S13 (RI fun y19 S20 => ((y19 = 0 → (isK S20 r0 13) ∧ ∃ e23 : Nat, e23 + 1 ≤ d ∧ C X e23 MX13_isWord [vR r0, vR 8] S20 (RI fun y26 S27 => ((y26 = 0 → (isK S27 r0 13) ∧ ∃ e30 : Nat, e30 + 1 ≤ d ∧ C X e30 MX13_isWord [vR r0, vR 12] S27 (RI fun y33 S34 => ((y33 = 0 → (isK S34 r0 13) ∧ ∃ e37 : Nat, e37 + 1 ≤ d ∧ C X e37 MX13_isWord [vR r0, vR 13] S34 (RI fun y40 S41 => ((y40 = 0 → (isK S41 r0 13) ∧ ∃ e44 : Nat, e44 + 1 ≤ d ∧ C X e44 MX13_isWord [vR r0, vR 19] S41 (RI fun y47 S48 => ((y47 = 0 → (isK S48 r0 13) ∧ ∃ e51 : Nat, e51 + 1 ≤ d ∧ C X e51 MX13_isWord [vR r0, vR 25] S48 (RI fun y54 S55 => ((y54 = 0 → (isK S55 r0 13) ∧ ∃ e58 : Nat, e58 + 1 ≤ d ∧ C X e58 MX13_isWord [vR r0, vR 9] S55 (RI fun y61 S62 => ((y61 = 0 → (isK S62 r0 13) ∧ (isK S62 (gR S62 r0 5) 21) ∧ (vp_in (gI S62 r0 10) (gN S62 (gR S62 r0 5))) ∧ ((¬ (gI S62 (gR S62 r0 5) ((gI S62 r0 10) : Int32).toNatClampNeg) = 1 → V X d MX13_readStatement 507 [(0, vR r0), (1, vI (gI S (gR S r0 6) ((gI S r0 10) : Int32).toNatClampNeg)), (2, vI y7)] [] S62 Q) ∧ ((gI S62 (gR S62 r0 5) ((gI S62 r0 10) : Int32).toNatClampNeg) = 1 → (vp_in ((gI S62 r0 10) + 1) (gN S62 (gR S62 r0 5))) ∧ ((¬ (gI S62 (gR S62 r0 5) (((gI S62 r0 10) + 1) : Int32).toNatClampNeg) = 3 → V X d MX13_readStatement 507 [(0, vR r0), (1, vI (gI S (gR S r0 6) ((gI S r0 10) : Int32).toNatClampNeg)), (2, vI y7)] [] S62 Q) ∧ ((gI S62 (gR S62 r0 5) (((gI S62 r0 10) + 1) : Int32).toNatClampNeg) = 3 → (isK S62 (gR S62 r0 8) 21) ∧ (vp_in ((gI S62 r0 10) + 1) (gN S62 (gR S62 r0 8))) ∧ ((¬ (gI S62 (gR S62 r0 8) (((gI S62 r0 10) + 1) : Int32).toNatClampNeg) = 61 → V X d MX13_readStatement 507 [(0, vR r0), (1, vI (gI S (gR S r0 6) ((gI S r0 10) : Int32).toNatClampNeg)), (2, vI y7)] [] S62 Q) ∧ ((gI S62 (gR S62 r0 8) (((gI S62 r0 10) + 1) : Int32).toNatClampNeg) = 61 → ∃ e74 : Nat, e74 + 1 ≤ d ∧ C X e74 MX13_mustName [vR r0] S62 (TI Q fun y77 S78 => (isK S78 r0 13) ∧ ∃ e79 : Nat, e79 + 1 ≤ d ∧ C X e79 MX13_variable [vR r0, vI y77] S78 (RI fun y82 S83 => (isK S83 r0 13) ∧ ∃ e85 : Nat, e85 + 1 ≤ d ∧ C X e85 MX13_mustSign [vR r0, vI 61] S83 (TV Q fun  S88 => ∃ e90 : Nat, e90 + 1 ≤ d ∧ C X e90 MX13_readE [vR r0] S88 (TV Q fun  S93 => (isK S93 r0 13) ∧ ∃ e94 : Nat, e94 + 1 ≤ d ∧ C X e94 MX13_mustSign [vR r0, vI 59] S93 (TV Q fun  S97 => (isK S97 r0 13) ∧ ∃ e99 : Nat, e99 + 1 ≤ d ∧ C X e99 MX13_emit [vR r0, vI 3, vI y82, vI 0] S97 (RI fun y102 S103 => V X d MX13_readStatement 526 [(0, vR r0), (1, vI (gI S (gR S r0 6) ((gI S r0 10) : Int32).toNatClampNeg)), (2, vI y102)] [] S103 Q))))))))))))) ∧ (¬ y61 = 0 → ∃ e105 : Nat, e105 + 1 ≤ d ∧ C X e105 MX13_readTry [vR r0] S62 (TV Q fun  S108 => V X d MX13_readStatement 526 [(0, vR r0), (1, vI (gI S (gR S r0 6) ((gI S r0 10) : Int32).toNatClampNeg)), (2, vI y7)] [] S108 Q))))) ∧ (¬ y54 = 0 → ∃ e109 : Nat, e109 + 1 ≤ d ∧ C X e109 MX13_readEach [vR r0, vI (gI S (gR S r0 6) ((gI S r0 10) : Int32).toNatClampNeg)] S55 (TV Q fun  S112 => V X d MX13_readStatement 526 [(0, vR r0), (1, vI (gI S (gR S r0 6) ((gI S r0 10) : Int32).toNatClampNeg)), (2, vI y7)] [] S112 Q))))) ∧ (¬ y47 = 0 → (isK S48 r0 13) ∧ ∀ S114 : Mem, S114 = uI S48 r0 10 ((gI S48 r0 10) + 1) → ∃ e115 : Nat, e115 + 1 ≤ d ∧ C X e115 MX13_readE [vR r0] S114 (TV Q fun  S118 => (isK S118 r0 13) ∧ ∃ e119 : Nat, e119 + 1 ≤ d ∧ C X e119 MX13_mustSign [vR r0, vI 59] S118 (TV Q fun  S122 => (isK S122 r0 13) ∧ ∃ e124 : Nat, e124 + 1 ≤ d ∧ C X e124 MX13_emit [vR r0, vI 27, vI 0, vI 0] S122 (RI fun y127 S128 => V X d MX13_readStatement 526 [(0, vR r0), (1, vI (gI S (gR S r0 6) ((gI S r0 10) : Int32).toNatClampNeg)), (2, vI y127)] [] S128 Q))))))) ∧ (¬ y40 = 0 → (isK S41 r0 13) ∧ ∀ S131 : Mem, S131 = uI S41 r0 10 ((gI S41 r0 10) + 1) → ∃ e132 : Nat, e132 + 1 ≤ d ∧ C X e132 MX13_isSign [vR r0, vI 59] S131 (RI fun y135 S136 => ((y135 = 0 → ∃ e138 : Nat, e138 + 1 ≤ d ∧ C X e138 MX13_readE [vR r0] S136 (TV Q fun  S141 => V X d MX13_readStatement 335 [(0, vR r0), (1, vI (gI S (gR S r0 6) ((gI S r0 10) : Int32).toNatClampNeg)), (2, vI y7)] [] S141 Q)) ∧ (¬ y135 = 0 → (isK S136 r0 13) ∧ ∃ e142 : Nat, e142 + 1 ≤ d ∧ C X e142 MX13_emit [vR r0, vI 1, vI 0, vI 0] S136 (RI fun y145 S146 => V X d MX13_readStatement 335 [(0, vR r0), (1, vI (gI S (gR S r0 6) ((gI S r0 10) : Int32).toNatClampNeg)), (2, vI y145)] [] S146 Q)))))))) ∧ (¬ y33 = 0 → (isK S34 r0 13) ∧ ∀ S149 : Mem, S149 = uI S34 r0 10 ((gI S34 r0 10) + 1) → ∃ e150 : Nat, e150 + 1 ≤ d ∧ C X e150 MX13_mustNumber [vR r0] S149 (TI Q fun y153 S154 => ∃ e155 : Nat, e155 + 1 ≤ d ∧ C X e155 MX13_readE [vR r0] S154 (TV Q fun  S158 => (isK S158 r0 13) ∧ ∃ e159 : Nat, e159 + 1 ≤ d ∧ C X e159 MX13_mustSign [vR r0, vI 59] S158 (TV Q fun  S162 => (isK S162 r0 13) ∧ ∃ e165 : Nat, e165 + 1 ≤ d ∧ C X e165 MX13_emit [vR r0, vI 25, vI (y153 - y153 / 10 * 10), vI ((gI S162 r0 35) - 1)] S162 (RI fun y168 S169 => V X d MX13_readStatement 526 [(0, vR r0), (1, vI (gI S (gR S r0 6) ((gI S r0 10) : Int32).toNatClampNeg)), (2, vI y168)] [] S169 Q)))))))) ∧ (¬ y26 = 0 → (isK S27 r0 13) ∧ ∀ S171 : Mem, S171 = uI S27 r0 10 ((gI S27 r0 10) + 1) → ∃ e172 : Nat, e172 + 1 ≤ d ∧ C X e172 MX13_readTest [vR r0] S171 (TV Q fun  S175 => (isK S175 r0 13) ∧ ∃ e176 : Nat, e176 + 1 ≤ d ∧ C X e176 MX13_emit [vR r0, vI 24, vI 0, vI 0] S175 (RI fun y179 S180 => ∃ e182 : Nat, e182 + 1 ≤ d ∧ C X e182 MX13_readBlock [vR r0] S180 (TV Q fun  S185 => (isK S185 r0 13) ∧ ∃ e186 : Nat, e186 + 1 ≤ d ∧ C X e186 MX13_emit [vR r0, vI 0, vI (gI S (gR S r0 6) ((gI S r0 10) : Int32).toNatClampNeg), vI 0] S185 (RI fun y189 S190 => (isK S190 r0 13) ∧ ∃ e192 : Nat, e192 + 1 ≤ d ∧ C X e192 MX13_emit [vR r0, vI 23, vI (gI S171 r0 17), vI 0] S190 (RI fun y195 S196 => (isK S196 r0 13) ∧ (isK S196 (gR S196 r0 14) 21) ∧ (vp_in y179 (gN S196 (gR S196 r0 14))) ∧ ∀ S201 : Mem, S201 = uI S196 (gR S196 r0 14) ((y179 : Int32).toNatClampNeg) (gI S196 r0 17) → V X d MX13_readStatement 526 [(0, vR r0), (1, vI (gI S (gR S r0 6) ((gI S r0 10) : Int32).toNatClampNeg)), (2, vI y195)] [] S201 Q))))))))) ∧ (¬ y19 = 0 → (isK S20 r0 13) ∧ ∀ S203 : Mem, S203 = uI S20 r0 10 ((gI S20 r0 10) + 1) → ∃ e204 : Nat, e204 + 1 ≤ d ∧ C X e204 MX13_readTest [vR r0] S203 (TV Q fun  S207 => (isK S207 r0 13) ∧ ∃ e208 : Nat, e208 + 1 ≤ d ∧ C X e208 MX13_emit [vR r0, vI 24, vI 0, vI 0] S207 (RI fun y211 S212 => ∃ e214 : Nat, e214 + 1 ≤ d ∧ C X e214 MX13_readBlock [vR r0] S212 (TV Q fun  S217 => (isK S217 r0 13) ∧ ∃ e218 : Nat, e218 + 1 ≤ d ∧ C X e218 MX13_isWord [vR r0, vR 7] S217 (RI fun y221 S222 => ((y221 = 0 → (isK S222 r0 13) ∧ (isK S222 (gR S222 r0 14) 21) ∧ (vp_in y211 (gN S222 (gR S222 r0 14))) ∧ ∀ S228 : Mem, S228 = uI S222 (gR S222 r0 14) ((y211 : Int32).toNatClampNeg) (gI S222 r0 17) → V X d MX13_readStatement 162 [(0, vR r0), (1, vI (gI S (gR S r0 6) ((gI S r0 10) : Int32).toNatClampNeg)), (2, vI y7), (3, vI y211)] [] S228 Q) ∧ (¬ y221 = 0 → (isK S222 r0 13) ∧ ∀ S230 : Mem, S230 = uI S222 r0 10 ((gI S222 r0 10) + 1) → ∃ e231 : Nat, e231 + 1 ≤ d ∧ C X e231 MX13_emit [vR r0, vI 23, vI 0, vI 0] S230 (RI fun y234 S235 => (isK S235 r0 13) ∧ (isK S235 (gR S235 r0 14) 21) ∧ (vp_in y211 (gN S235 (gR S235 r0 14))) ∧ ∀ S239 : Mem, S239 = uI S235 (gR S235 r0 14) ((y211 : Int32).toNatClampNeg) (gI S235 r0 17) → ∃ e240 : Nat, e240 + 1 ≤ d ∧ C X e240 MX13_readBlock [vR r0] S239 (TV Q fun  S243 => (isK S243 r0 13) ∧ (isK S243 (gR S243 r0 14) 21) ∧ (vp_in y234 (gN S243 (gR S243 r0 14))) ∧ ∀ S247 : Mem, S247 = uI S243 (gR S243 r0 14) ((y234 : Int32).toNatClampNeg) (gI S243 r0 17) → V X d MX13_readStatement 162 [(0, vR r0), (1, vI (gI S (gR S r0 6) ((gI S r0 10) : Int32).toNatClampNeg)), (2, vI y7), (3, vI y211)] [] S247 Q)))))))))))) ∧ (¬ y12 = 0 → (isK S13 r0 13) ∧ ∀ S249 : Mem, S249 = uI S13 r0 10 ((gI S13 r0 10) + 1) → ∃ e250 : Nat, e250 + 1 ≤ d ∧ C X e250 MX13_readE [vR r0] S249 (TV Q fun  S253 => (isK S253 r0 13) ∧ ∃ e254 : Nat, e254 + 1 ≤ d ∧ C X e254 MX13_mustSign [vR r0, vI 59] S253 (TV Q fun  S257 => (isK S257 r0 13) ∧ ∃ e259 : Nat, e259 + 1 ≤ d ∧ C X e259 MX13_emit [vR r0, vI 21, vI 0, vI 0] S257 (RI fun y262 S263 => V X d MX13_readStatement 526 [(0, vR r0), (1, vI (gI S (gR S r0 6) ((gI S r0 10) : Int32).toNatClampNeg)), (2, vI y262)] [] S263 Q)))))))) : V X d MX13_readStatement 0 [(0, vR r0)] [] S Q := by
  refine V_aload_n (pc2 := 1) (dk D_X13_readStatement 0 rfl) rfl (V_lg 0 rfl) rfl ?_
  obtain ⟨h1, h⟩ := h
  refine V_getR kc13 (pc2 := 4) 6 (dk D_X13_readStatement 1 rfl) fl_13_27 (by decide) (fun _ => rfl) rfl h1 ?_
  refine V_aload_n (pc2 := 5) (dk D_X13_readStatement 2 rfl) rfl (V_lg 0 rfl) rfl ?_
  refine V_getI kc13 (pc2 := 8) 10 (dk D_X13_readStatement 3 rfl) fl_13_331 (by decide) (fun _ => rfl) rfl h1 ?_
  obtain ⟨h2, h⟩ := h
  obtain ⟨h3, h⟩ := h
  refine V_iald (pc2 := 9) (dk D_X13_readStatement 4 rfl) rfl h2 h3 ?_
  refine V_istore_n (pc2 := 10) (lv2 := [(0, _), (1, _)]) (dk D_X13_readStatement 5 rfl) rfl (by decide) rfl rfl ?_
  refine V_aload_n (pc2 := 11) (dk D_X13_readStatement 6 rfl) rfl (V_lg 0 rfl) rfl ?_
  refine V_iconst (x := 0) (pc2 := 12) (dk D_X13_readStatement 7 rfl) (by decide) rfl ?_
  refine V_iload_n (pc2 := 13) (dk D_X13_readStatement 8 rfl) rfl (V_lg 1 rfl) rfl ?_
  refine V_iconst (x := 0) (pc2 := 14) (dk D_X13_readStatement 9 rfl) (by decide) rfl ?_
  obtain ⟨e4, he5, hc6⟩ := h
  refine V_callV (as := [_, _, _]) (st := []) (M' := MX13_emit) (ci := 13) (pc2 := 17) (dk D_X13_readStatement 10 rfl) ml_13_373 mv_X13_emit rfl rfl (by decide) rfl (Nat.le_of_ble_eq_true rfl) rfl he5 h1 hc6 (RI.k fun y7 S8 h => ?_)
  refine V_istore_n (pc2 := 18) (lv2 := [(0, _), (1, _), (2, _)]) (dk D_X13_readStatement 11 rfl) rfl (by decide) rfl rfl ?_
  refine V_aload_n (pc2 := 19) (dk D_X13_readStatement 12 rfl) rfl (V_lg 0 rfl) rfl ?_
  refine V_ldcs 12 (pc2 := 21) (dk D_X13_readStatement 13 rfl) rfl rfl ?_
  obtain ⟨h14, h⟩ := h
  obtain ⟨e9, he10, hc11⟩ := h
  refine V_callV (as := [_]) (st := []) (M' := MX13_isWord) (ci := 13) (pc2 := 24) (dk D_X13_readStatement 14 rfl) ml_13_341 mv_X13_isWord rfl rfl (by decide) rfl (Nat.le_of_ble_eq_true rfl) rfl he10 h14 hc11 (RI.k fun y12 S13 h => ?_)
  refine V_ifeq (tgt := 59) (pc2 := 27) (dk D_X13_readStatement 15 rfl) (by decide) rfl (fun q15 => ?_) (fun q15 => ?_)
  · have h := h.1 q15
    refine V_aload_n (pc2 := 60) (dk D_X13_readStatement 34 rfl) rfl (V_lg 0 rfl) rfl ?_
    refine V_ldcs 4 (pc2 := 62) (dk D_X13_readStatement 35 rfl) rfl rfl ?_
    obtain ⟨h21, h⟩ := h
    obtain ⟨e16, he17, hc18⟩ := h
    refine V_callV (as := [_]) (st := []) (M' := MX13_isWord) (ci := 13) (pc2 := 65) (dk D_X13_readStatement 36 rfl) ml_13_341 mv_X13_isWord rfl rfl (by decide) rfl (Nat.le_of_ble_eq_true rfl) rfl he17 h21 hc18 (RI.k fun y19 S20 h => ?_)
    refine V_ifeq (tgt := 165) (pc2 := 68) (dk D_X13_readStatement 37 rfl) (by decide) rfl (fun q22 => ?_) (fun q22 => ?_)
    · have h := h.1 q22
      refine V_aload_n (pc2 := 166) (dk D_X13_readStatement 92 rfl) rfl (V_lg 0 rfl) rfl ?_
      refine V_ldcs 6 (pc2 := 168) (dk D_X13_readStatement 93 rfl) rfl rfl ?_
      obtain ⟨h28, h⟩ := h
      obtain ⟨e23, he24, hc25⟩ := h
      refine V_callV (as := [_]) (st := []) (M' := MX13_isWord) (ci := 13) (pc2 := 171) (dk D_X13_readStatement 94 rfl) ml_13_341 mv_X13_isWord rfl rfl (by decide) rfl (Nat.le_of_ble_eq_true rfl) rfl he24 h28 hc25 (RI.k fun y26 S27 h => ?_)
      refine V_ifeq (tgt := 238) (pc2 := 174) (dk D_X13_readStatement 95 rfl) (by decide) rfl (fun q29 => ?_) (fun q29 => ?_)
      · have h := h.1 q29
        refine V_aload_n (pc2 := 239) (dk D_X13_readStatement 134 rfl) rfl (V_lg 0 rfl) rfl ?_
        refine V_ldcs 10 (pc2 := 241) (dk D_X13_readStatement 135 rfl) rfl rfl ?_
        obtain ⟨h35, h⟩ := h
        obtain ⟨e30, he31, hc32⟩ := h
        refine V_callV (as := [_]) (st := []) (M' := MX13_isWord) (ci := 13) (pc2 := 244) (dk D_X13_readStatement 136 rfl) ml_13_341 mv_X13_isWord rfl rfl (by decide) rfl (Nat.le_of_ble_eq_true rfl) rfl he31 h35 hc32 (RI.k fun y33 S34 h => ?_)
        refine V_ifeq (tgt := 292) (pc2 := 247) (dk D_X13_readStatement 137 rfl) (by decide) rfl (fun q36 => ?_) (fun q36 => ?_)
        · have h := h.1 q36
          refine V_aload_n (pc2 := 293) (dk D_X13_readStatement 164 rfl) rfl (V_lg 0 rfl) rfl ?_
          refine V_ldcs 11 (pc2 := 295) (dk D_X13_readStatement 165 rfl) rfl rfl ?_
          obtain ⟨h42, h⟩ := h
          obtain ⟨e37, he38, hc39⟩ := h
          refine V_callV (as := [_]) (st := []) (M' := MX13_isWord) (ci := 13) (pc2 := 298) (dk D_X13_readStatement 166 rfl) ml_13_341 mv_X13_isWord rfl rfl (by decide) rfl (Nat.le_of_ble_eq_true rfl) rfl he38 h42 hc39 (RI.k fun y40 S41 h => ?_)
          refine V_ifeq (tgt := 353) (pc2 := 301) (dk D_X13_readStatement 167 rfl) (by decide) rfl (fun q43 => ?_) (fun q43 => ?_)
          · have h := h.1 q43
            refine V_aload_n (pc2 := 354) (dk D_X13_readStatement 197 rfl) rfl (V_lg 0 rfl) rfl ?_
            refine V_ldcs 17 (pc2 := 356) (dk D_X13_readStatement 198 rfl) rfl rfl ?_
            obtain ⟨h49, h⟩ := h
            obtain ⟨e44, he45, hc46⟩ := h
            refine V_callV (as := [_]) (st := []) (M' := MX13_isWord) (ci := 13) (pc2 := 359) (dk D_X13_readStatement 199 rfl) ml_13_341 mv_X13_isWord rfl rfl (by decide) rfl (Nat.le_of_ble_eq_true rfl) rfl he45 h49 hc46 (RI.k fun y47 S48 h => ?_)
            refine V_ifeq (tgt := 394) (pc2 := 362) (dk D_X13_readStatement 200 rfl) (by decide) rfl (fun q50 => ?_) (fun q50 => ?_)
            · have h := h.1 q50
              refine V_aload_n (pc2 := 395) (dk D_X13_readStatement 219 rfl) rfl (V_lg 0 rfl) rfl ?_
              refine V_ldcs 23 (pc2 := 397) (dk D_X13_readStatement 220 rfl) rfl rfl ?_
              obtain ⟨h56, h⟩ := h
              obtain ⟨e51, he52, hc53⟩ := h
              refine V_callV (as := [_]) (st := []) (M' := MX13_isWord) (ci := 13) (pc2 := 400) (dk D_X13_readStatement 221 rfl) ml_13_341 mv_X13_isWord rfl rfl (by decide) rfl (Nat.le_of_ble_eq_true rfl) rfl he52 h56 hc53 (RI.k fun y54 S55 h => ?_)
              refine V_ifeq (tgt := 411) (pc2 := 403) (dk D_X13_readStatement 222 rfl) (by decide) rfl (fun q57 => ?_) (fun q57 => ?_)
              · have h := h.1 q57
                refine V_aload_n (pc2 := 412) (dk D_X13_readStatement 227 rfl) rfl (V_lg 0 rfl) rfl ?_
                refine V_ldcs 7 (pc2 := 414) (dk D_X13_readStatement 228 rfl) rfl rfl ?_
                obtain ⟨h63, h⟩ := h
                obtain ⟨e58, he59, hc60⟩ := h
                refine V_callV (as := [_]) (st := []) (M' := MX13_isWord) (ci := 13) (pc2 := 417) (dk D_X13_readStatement 229 rfl) ml_13_341 mv_X13_isWord rfl rfl (by decide) rfl (Nat.le_of_ble_eq_true rfl) rfl he59 h63 hc60 (RI.k fun y61 S62 h => ?_)
                refine V_ifeq (tgt := 427) (pc2 := 420) (dk D_X13_readStatement 230 rfl) (by decide) rfl (fun q64 => ?_) (fun q64 => ?_)
                · have h := h.1 q64
                  refine V_aload_n (pc2 := 428) (dk D_X13_readStatement 234 rfl) rfl (V_lg 0 rfl) rfl ?_
                  obtain ⟨h65, h⟩ := h
                  refine V_getR kc13 (pc2 := 431) 5 (dk D_X13_readStatement 235 rfl) fl_13_23 (by decide) (fun _ => rfl) rfl h65 ?_
                  refine V_aload_n (pc2 := 432) (dk D_X13_readStatement 236 rfl) rfl (V_lg 0 rfl) rfl ?_
                  refine V_getI kc13 (pc2 := 435) 10 (dk D_X13_readStatement 237 rfl) fl_13_331 (by decide) (fun _ => rfl) rfl h65 ?_
                  obtain ⟨h66, h⟩ := h
                  obtain ⟨h67, h⟩ := h
                  refine V_iald (pc2 := 436) (dk D_X13_readStatement 238 rfl) rfl h66 h67 ?_
                  refine V_iconst (x := 1) (pc2 := 437) (dk D_X13_readStatement 239 rfl) (by decide) rfl ?_
                  refine V_cmpne (tgt := 507) (pc2 := 440) (dk D_X13_readStatement 240 rfl) (by decide) rfl (fun q68 => ?_) (fun q68 => ?_)
                  · have h := h.1 q68
                    exact h
                  · have h := h.2 q68
                    refine V_aload_n (pc2 := 441) (dk D_X13_readStatement 241 rfl) rfl (V_lg 0 rfl) rfl ?_
                    refine V_getR kc13 (pc2 := 444) 5 (dk D_X13_readStatement 242 rfl) fl_13_23 (by decide) (fun _ => rfl) rfl h65 ?_
                    refine V_aload_n (pc2 := 445) (dk D_X13_readStatement 243 rfl) rfl (V_lg 0 rfl) rfl ?_
                    refine V_getI kc13 (pc2 := 448) 10 (dk D_X13_readStatement 244 rfl) fl_13_331 (by decide) (fun _ => rfl) rfl h65 ?_
                    refine V_iconst (x := 1) (pc2 := 449) (dk D_X13_readStatement 245 rfl) (by decide) rfl ?_
                    refine V_iadd (pc2 := 450) (dk D_X13_readStatement 246 rfl) rfl ?_
                    obtain ⟨h69, h⟩ := h
                    refine V_iald (pc2 := 451) (dk D_X13_readStatement 247 rfl) rfl h66 h69 ?_
                    refine V_iconst (x := 3) (pc2 := 452) (dk D_X13_readStatement 248 rfl) (by decide) rfl ?_
                    refine V_cmpne (tgt := 507) (pc2 := 455) (dk D_X13_readStatement 249 rfl) (by decide) rfl (fun q70 => ?_) (fun q70 => ?_)
                    · have h := h.1 q70
                      exact h
                    · have h := h.2 q70
                      refine V_aload_n (pc2 := 456) (dk D_X13_readStatement 250 rfl) rfl (V_lg 0 rfl) rfl ?_
                      refine V_getR kc13 (pc2 := 459) 8 (dk D_X13_readStatement 251 rfl) fl_13_33 (by decide) (fun _ => rfl) rfl h65 ?_
                      refine V_aload_n (pc2 := 460) (dk D_X13_readStatement 252 rfl) rfl (V_lg 0 rfl) rfl ?_
                      refine V_getI kc13 (pc2 := 463) 10 (dk D_X13_readStatement 253 rfl) fl_13_331 (by decide) (fun _ => rfl) rfl h65 ?_
                      refine V_iconst (x := 1) (pc2 := 464) (dk D_X13_readStatement 254 rfl) (by decide) rfl ?_
                      refine V_iadd (pc2 := 465) (dk D_X13_readStatement 255 rfl) rfl ?_
                      obtain ⟨h71, h⟩ := h
                      obtain ⟨h72, h⟩ := h
                      refine V_iald (pc2 := 466) (dk D_X13_readStatement 256 rfl) rfl h71 h72 ?_
                      refine V_bipush (x := 61) (pc2 := 468) (dk D_X13_readStatement 257 rfl) (by decide) rfl ?_
                      refine V_cmpne (tgt := 507) (pc2 := 471) (dk D_X13_readStatement 258 rfl) (by decide) rfl (fun q73 => ?_) (fun q73 => ?_)
                      · have h := h.1 q73
                        exact h
                      · have h := h.2 q73
                        refine V_aload_n (pc2 := 472) (dk D_X13_readStatement 259 rfl) rfl (V_lg 0 rfl) rfl ?_
                        refine V_aload_n (pc2 := 473) (dk D_X13_readStatement 260 rfl) rfl (V_lg 0 rfl) rfl ?_
                        obtain ⟨e74, he75, hc76⟩ := h
                        refine V_callVT (as := []) (st := [_]) (M' := MX13_mustName) (ci := 13) (pc2 := 476) (dk D_X13_readStatement 261 rfl) ml_13_399 mv_X13_mustName rfl rfl (by decide) rfl (Nat.le_of_ble_eq_true rfl) rfl (by decide) he75 h65 hc76 (TI.k fun y77 S78 h => ?_)
                        obtain ⟨h84, h⟩ := h
                        obtain ⟨e79, he80, hc81⟩ := h
                        refine V_callV (as := [_]) (st := []) (M' := MX13_variable) (ci := 13) (pc2 := 479) (dk D_X13_readStatement 262 rfl) ml_13_402 mv_X13_variable rfl rfl (by decide) rfl (Nat.le_of_ble_eq_true rfl) rfl he80 h84 hc81 (RI.k fun y82 S83 h => ?_)
                        refine V_istore_n (pc2 := 480) (lv2 := [(0, _), (1, _), (2, _), (3, _)]) (dk D_X13_readStatement 263 rfl) rfl (by decide) rfl rfl ?_
                        refine V_aload_n (pc2 := 481) (dk D_X13_readStatement 264 rfl) rfl (V_lg 0 rfl) rfl ?_
                        refine V_bipush (x := 61) (pc2 := 483) (dk D_X13_readStatement 265 rfl) (by decide) rfl ?_
                        obtain ⟨h89, h⟩ := h
                        obtain ⟨e85, he86, hc87⟩ := h
                        refine V_callVT (as := [_]) (st := []) (M' := MX13_mustSign) (ci := 13) (pc2 := 486) (dk D_X13_readStatement 266 rfl) ml_13_348 mv_X13_mustSign rfl rfl (by decide) rfl (Nat.le_of_ble_eq_true rfl) rfl (by decide) he86 h89 hc87 (TV.k fun  S88 h => ?_)
                        refine V_aload_n (pc2 := 487) (dk D_X13_readStatement 267 rfl) rfl (V_lg 0 rfl) rfl ?_
                        obtain ⟨e90, he91, hc92⟩ := h
                        refine V_callST (as := [_]) (st := []) (M' := MX13_readE) (pc2 := 490) (dk D_X13_readStatement 268 rfl) ml_13_377 mv_X13_readE rfl rfl (Nat.le_of_ble_eq_true rfl) rfl (by decide) he91 hc92 (TV.k fun  S93 h => ?_)
                        refine V_aload_n (pc2 := 491) (dk D_X13_readStatement 269 rfl) rfl (V_lg 0 rfl) rfl ?_
                        refine V_bipush (x := 59) (pc2 := 493) (dk D_X13_readStatement 270 rfl) (by decide) rfl ?_
                        obtain ⟨h98, h⟩ := h
                        obtain ⟨e94, he95, hc96⟩ := h
                        refine V_callVT (as := [_]) (st := []) (M' := MX13_mustSign) (ci := 13) (pc2 := 496) (dk D_X13_readStatement 271 rfl) ml_13_348 mv_X13_mustSign rfl rfl (by decide) rfl (Nat.le_of_ble_eq_true rfl) rfl (by decide) he95 h98 hc96 (TV.k fun  S97 h => ?_)
                        refine V_aload_n (pc2 := 497) (dk D_X13_readStatement 272 rfl) rfl (V_lg 0 rfl) rfl ?_
                        refine V_iconst (x := 3) (pc2 := 498) (dk D_X13_readStatement 273 rfl) (by decide) rfl ?_
                        refine V_iload_n (pc2 := 499) (dk D_X13_readStatement 274 rfl) rfl (V_lg 3 rfl) rfl ?_
                        refine V_iconst (x := 0) (pc2 := 500) (dk D_X13_readStatement 275 rfl) (by decide) rfl ?_
                        obtain ⟨h104, h⟩ := h
                        obtain ⟨e99, he100, hc101⟩ := h
                        refine V_callV (as := [_, _, _]) (st := []) (M' := MX13_emit) (ci := 13) (pc2 := 503) (dk D_X13_readStatement 276 rfl) ml_13_373 mv_X13_emit rfl rfl (by decide) rfl (Nat.le_of_ble_eq_true rfl) rfl he100 h104 hc101 (RI.k fun y102 S103 h => ?_)
                        refine V_istore_n (pc2 := 504) (lv2 := [(0, _), (1, _), (2, _), (3, _)]) (dk D_X13_readStatement 277 rfl) rfl (by decide) rfl rfl ?_
                        refine V_goto (tgt := 526) (dk D_X13_readStatement 278 rfl) (by decide) ?_
                        refine V_pick [0, 1, 2] (lv2 := [(0, _), (1, _), (2, _)]) rfl ?_
                        exact h
                · have h := h.2 q64
                  refine V_aload_n (pc2 := 421) (dk D_X13_readStatement 231 rfl) rfl (V_lg 0 rfl) rfl ?_
                  obtain ⟨e105, he106, hc107⟩ := h
                  refine V_callST (as := [_]) (st := []) (M' := MX13_readTry) (pc2 := 424) (dk D_X13_readStatement 232 rfl) ml_13_396 mv_X13_readTry rfl rfl (Nat.le_of_ble_eq_true rfl) rfl (by decide) he106 hc107 (TV.k fun  S108 h => ?_)
                  refine V_goto (tgt := 526) (dk D_X13_readStatement 233 rfl) (by decide) ?_
                  exact h
              · have h := h.2 q57
                refine V_aload_n (pc2 := 404) (dk D_X13_readStatement 223 rfl) rfl (V_lg 0 rfl) rfl ?_
                refine V_iload_n (pc2 := 405) (dk D_X13_readStatement 224 rfl) rfl (V_lg 1 rfl) rfl ?_
                obtain ⟨e109, he110, hc111⟩ := h
                refine V_callST (as := [_, _]) (st := []) (M' := MX13_readEach) (pc2 := 408) (dk D_X13_readStatement 225 rfl) ml_13_392 mv_X13_readEach rfl rfl (Nat.le_of_ble_eq_true rfl) rfl (by decide) he110 hc111 (TV.k fun  S112 h => ?_)
                refine V_goto (tgt := 526) (dk D_X13_readStatement 226 rfl) (by decide) ?_
                exact h
            · have h := h.2 q50
              refine V_aload_n (pc2 := 363) (dk D_X13_readStatement 201 rfl) rfl (V_lg 0 rfl) rfl ?_
              refine V_dup (pc2 := 364) (dk D_X13_readStatement 202 rfl) rfl rfl ?_
              obtain ⟨h113, h⟩ := h
              refine V_getI kc13 (pc2 := 367) 10 (dk D_X13_readStatement 203 rfl) fl_13_331 (by decide) (fun _ => rfl) rfl h113 ?_
              refine V_iconst (x := 1) (pc2 := 368) (dk D_X13_readStatement 204 rfl) (by decide) rfl ?_
              refine V_iadd (pc2 := 369) (dk D_X13_readStatement 205 rfl) rfl ?_
              refine V_putI kc13 (pc2 := 372) 10 (dk D_X13_readStatement 206 rfl) fl_13_331 (by decide) (Or.inl rfl) rfl rfl h113 ?_
              have h := h _ rfl
              refine V_aload_n (pc2 := 373) (dk D_X13_readStatement 207 rfl) rfl (V_lg 0 rfl) rfl ?_
              obtain ⟨e115, he116, hc117⟩ := h
              refine V_callST (as := [_]) (st := []) (M' := MX13_readE) (pc2 := 376) (dk D_X13_readStatement 208 rfl) ml_13_377 mv_X13_readE rfl rfl (Nat.le_of_ble_eq_true rfl) rfl (by decide) he116 hc117 (TV.k fun  S118 h => ?_)
              refine V_aload_n (pc2 := 377) (dk D_X13_readStatement 209 rfl) rfl (V_lg 0 rfl) rfl ?_
              refine V_bipush (x := 59) (pc2 := 379) (dk D_X13_readStatement 210 rfl) (by decide) rfl ?_
              obtain ⟨h123, h⟩ := h
              obtain ⟨e119, he120, hc121⟩ := h
              refine V_callVT (as := [_]) (st := []) (M' := MX13_mustSign) (ci := 13) (pc2 := 382) (dk D_X13_readStatement 211 rfl) ml_13_348 mv_X13_mustSign rfl rfl (by decide) rfl (Nat.le_of_ble_eq_true rfl) rfl (by decide) he120 h123 hc121 (TV.k fun  S122 h => ?_)
              refine V_aload_n (pc2 := 383) (dk D_X13_readStatement 212 rfl) rfl (V_lg 0 rfl) rfl ?_
              refine V_bipush (x := 27) (pc2 := 385) (dk D_X13_readStatement 213 rfl) (by decide) rfl ?_
              refine V_iconst (x := 0) (pc2 := 386) (dk D_X13_readStatement 214 rfl) (by decide) rfl ?_
              refine V_iconst (x := 0) (pc2 := 387) (dk D_X13_readStatement 215 rfl) (by decide) rfl ?_
              obtain ⟨h129, h⟩ := h
              obtain ⟨e124, he125, hc126⟩ := h
              refine V_callV (as := [_, _, _]) (st := []) (M' := MX13_emit) (ci := 13) (pc2 := 390) (dk D_X13_readStatement 216 rfl) ml_13_373 mv_X13_emit rfl rfl (by decide) rfl (Nat.le_of_ble_eq_true rfl) rfl he125 h129 hc126 (RI.k fun y127 S128 h => ?_)
              refine V_istore_n (pc2 := 391) (lv2 := [(0, _), (1, _), (2, _)]) (dk D_X13_readStatement 217 rfl) rfl (by decide) rfl rfl ?_
              refine V_goto (tgt := 526) (dk D_X13_readStatement 218 rfl) (by decide) ?_
              exact h
          · have h := h.2 q43
            refine V_aload_n (pc2 := 302) (dk D_X13_readStatement 168 rfl) rfl (V_lg 0 rfl) rfl ?_
            refine V_dup (pc2 := 303) (dk D_X13_readStatement 169 rfl) rfl rfl ?_
            obtain ⟨h130, h⟩ := h
            refine V_getI kc13 (pc2 := 306) 10 (dk D_X13_readStatement 170 rfl) fl_13_331 (by decide) (fun _ => rfl) rfl h130 ?_
            refine V_iconst (x := 1) (pc2 := 307) (dk D_X13_readStatement 171 rfl) (by decide) rfl ?_
            refine V_iadd (pc2 := 308) (dk D_X13_readStatement 172 rfl) rfl ?_
            refine V_putI kc13 (pc2 := 311) 10 (dk D_X13_readStatement 173 rfl) fl_13_331 (by decide) (Or.inl rfl) rfl rfl h130 ?_
            have h := h _ rfl
            refine V_aload_n (pc2 := 312) (dk D_X13_readStatement 174 rfl) rfl (V_lg 0 rfl) rfl ?_
            refine V_bipush (x := 59) (pc2 := 314) (dk D_X13_readStatement 175 rfl) (by decide) rfl ?_
            obtain ⟨e132, he133, hc134⟩ := h
            refine V_callV (as := [_]) (st := []) (M' := MX13_isSign) (ci := 13) (pc2 := 317) (dk D_X13_readStatement 176 rfl) ml_13_334 mv_X13_isSign rfl rfl (by decide) rfl (Nat.le_of_ble_eq_true rfl) rfl he133 h130 hc134 (RI.k fun y135 S136 h => ?_)
            refine V_ifeq (tgt := 331) (pc2 := 320) (dk D_X13_readStatement 177 rfl) (by decide) rfl (fun q137 => ?_) (fun q137 => ?_)
            · have h := h.1 q137
              refine V_aload_n (pc2 := 332) (dk D_X13_readStatement 185 rfl) rfl (V_lg 0 rfl) rfl ?_
              obtain ⟨e138, he139, hc140⟩ := h
              refine V_callST (as := [_]) (st := []) (M' := MX13_readE) (pc2 := 335) (dk D_X13_readStatement 186 rfl) ml_13_377 mv_X13_readE rfl rfl (Nat.le_of_ble_eq_true rfl) rfl (by decide) he139 hc140 (TV.k fun  S141 h => ?_)
              exact h
            · have h := h.2 q137
              refine V_aload_n (pc2 := 321) (dk D_X13_readStatement 178 rfl) rfl (V_lg 0 rfl) rfl ?_
              refine V_iconst (x := 1) (pc2 := 322) (dk D_X13_readStatement 179 rfl) (by decide) rfl ?_
              refine V_iconst (x := 0) (pc2 := 323) (dk D_X13_readStatement 180 rfl) (by decide) rfl ?_
              refine V_iconst (x := 0) (pc2 := 324) (dk D_X13_readStatement 181 rfl) (by decide) rfl ?_
              obtain ⟨h147, h⟩ := h
              obtain ⟨e142, he143, hc144⟩ := h
              refine V_callV (as := [_, _, _]) (st := []) (M' := MX13_emit) (ci := 13) (pc2 := 327) (dk D_X13_readStatement 182 rfl) ml_13_373 mv_X13_emit rfl rfl (by decide) rfl (Nat.le_of_ble_eq_true rfl) rfl he143 h147 hc144 (RI.k fun y145 S146 h => ?_)
              refine V_istore_n (pc2 := 328) (lv2 := [(0, _), (1, _), (2, _)]) (dk D_X13_readStatement 183 rfl) rfl (by decide) rfl rfl ?_
              refine V_goto (tgt := 335) (dk D_X13_readStatement 184 rfl) (by decide) ?_
              exact h
        · have h := h.2 q36
          refine V_aload_n (pc2 := 248) (dk D_X13_readStatement 138 rfl) rfl (V_lg 0 rfl) rfl ?_
          refine V_dup (pc2 := 249) (dk D_X13_readStatement 139 rfl) rfl rfl ?_
          obtain ⟨h148, h⟩ := h
          refine V_getI kc13 (pc2 := 252) 10 (dk D_X13_readStatement 140 rfl) fl_13_331 (by decide) (fun _ => rfl) rfl h148 ?_
          refine V_iconst (x := 1) (pc2 := 253) (dk D_X13_readStatement 141 rfl) (by decide) rfl ?_
          refine V_iadd (pc2 := 254) (dk D_X13_readStatement 142 rfl) rfl ?_
          refine V_putI kc13 (pc2 := 257) 10 (dk D_X13_readStatement 143 rfl) fl_13_331 (by decide) (Or.inl rfl) rfl rfl h148 ?_
          have h := h _ rfl
          refine V_aload_n (pc2 := 258) (dk D_X13_readStatement 144 rfl) rfl (V_lg 0 rfl) rfl ?_
          obtain ⟨e150, he151, hc152⟩ := h
          refine V_callVT (as := []) (st := []) (M' := MX13_mustNumber) (ci := 13) (pc2 := 261) (dk D_X13_readStatement 145 rfl) ml_13_386 mv_X13_mustNumber rfl rfl (by decide) rfl (Nat.le_of_ble_eq_true rfl) rfl (by decide) he151 h148 hc152 (TI.k fun y153 S154 h => ?_)
          refine V_istore_n (pc2 := 262) (lv2 := [(0, _), (1, _), (2, _), (3, _)]) (dk D_X13_readStatement 146 rfl) rfl (by decide) rfl rfl ?_
          refine V_aload_n (pc2 := 263) (dk D_X13_readStatement 147 rfl) rfl (V_lg 0 rfl) rfl ?_
          obtain ⟨e155, he156, hc157⟩ := h
          refine V_callST (as := [_]) (st := []) (M' := MX13_readE) (pc2 := 266) (dk D_X13_readStatement 148 rfl) ml_13_377 mv_X13_readE rfl rfl (Nat.le_of_ble_eq_true rfl) rfl (by decide) he156 hc157 (TV.k fun  S158 h => ?_)
          refine V_aload_n (pc2 := 267) (dk D_X13_readStatement 149 rfl) rfl (V_lg 0 rfl) rfl ?_
          refine V_bipush (x := 59) (pc2 := 269) (dk D_X13_readStatement 150 rfl) (by decide) rfl ?_
          obtain ⟨h163, h⟩ := h
          obtain ⟨e159, he160, hc161⟩ := h
          refine V_callVT (as := [_]) (st := []) (M' := MX13_mustSign) (ci := 13) (pc2 := 272) (dk D_X13_readStatement 151 rfl) ml_13_348 mv_X13_mustSign rfl rfl (by decide) rfl (Nat.le_of_ble_eq_true rfl) rfl (by decide) he160 h163 hc161 (TV.k fun  S162 h => ?_)
          refine V_aload_n (pc2 := 273) (dk D_X13_readStatement 152 rfl) rfl (V_lg 0 rfl) rfl ?_
          refine V_bipush (x := 25) (pc2 := 275) (dk D_X13_readStatement 153 rfl) (by decide) rfl ?_
          refine V_iload_n (pc2 := 276) (dk D_X13_readStatement 154 rfl) rfl (V_lg 3 rfl) rfl ?_
          refine V_bipush (x := 10) (pc2 := 278) (dk D_X13_readStatement 155 rfl) (by decide) rfl ?_
          refine V_irem (pc2 := 279) (dk D_X13_readStatement 156 rfl) rfl (by decide) ?_
          refine V_aload_n (pc2 := 280) (dk D_X13_readStatement 157 rfl) rfl (V_lg 0 rfl) rfl ?_
          obtain ⟨h164, h⟩ := h
          refine V_getI kc13 (pc2 := 283) 35 (dk D_X13_readStatement 158 rfl) fl_13_389 (by decide) (fun _ => rfl) rfl h164 ?_
          refine V_iconst (x := 1) (pc2 := 284) (dk D_X13_readStatement 159 rfl) (by decide) rfl ?_
          refine V_isub (pc2 := 285) (dk D_X13_readStatement 160 rfl) rfl ?_
          obtain ⟨e165, he166, hc167⟩ := h
          refine V_callV (as := [_, _, _]) (st := []) (M' := MX13_emit) (ci := 13) (pc2 := 288) (dk D_X13_readStatement 161 rfl) ml_13_373 mv_X13_emit rfl rfl (by decide) rfl (Nat.le_of_ble_eq_true rfl) rfl he166 h164 hc167 (RI.k fun y168 S169 h => ?_)
          refine V_istore_n (pc2 := 289) (lv2 := [(0, _), (1, _), (2, _), (3, _)]) (dk D_X13_readStatement 162 rfl) rfl (by decide) rfl rfl ?_
          refine V_goto (tgt := 526) (dk D_X13_readStatement 163 rfl) (by decide) ?_
          refine V_pick [0, 1, 2] (lv2 := [(0, _), (1, _), (2, _)]) rfl ?_
          exact h
      · have h := h.2 q29
        refine V_aload_n (pc2 := 175) (dk D_X13_readStatement 96 rfl) rfl (V_lg 0 rfl) rfl ?_
        refine V_dup (pc2 := 176) (dk D_X13_readStatement 97 rfl) rfl rfl ?_
        obtain ⟨h170, h⟩ := h
        refine V_getI kc13 (pc2 := 179) 10 (dk D_X13_readStatement 98 rfl) fl_13_331 (by decide) (fun _ => rfl) rfl h170 ?_
        refine V_iconst (x := 1) (pc2 := 180) (dk D_X13_readStatement 99 rfl) (by decide) rfl ?_
        refine V_iadd (pc2 := 181) (dk D_X13_readStatement 100 rfl) rfl ?_
        refine V_putI kc13 (pc2 := 184) 10 (dk D_X13_readStatement 101 rfl) fl_13_331 (by decide) (Or.inl rfl) rfl rfl h170 ?_
        have h := h _ rfl
        refine V_aload_n (pc2 := 185) (dk D_X13_readStatement 102 rfl) rfl (V_lg 0 rfl) rfl ?_
        refine V_getI kc13 (pc2 := 188) 17 (dk D_X13_readStatement 103 rfl) fl_13_351 (by decide) (fun _ => rfl) rfl h170 ?_
        refine V_istore_n (pc2 := 189) (lv2 := [(0, _), (1, _), (2, _), (3, _)]) (dk D_X13_readStatement 104 rfl) rfl (by decide) rfl rfl ?_
        refine V_aload_n (pc2 := 190) (dk D_X13_readStatement 105 rfl) rfl (V_lg 0 rfl) rfl ?_
        obtain ⟨e172, he173, hc174⟩ := h
        refine V_callST (as := [_]) (st := []) (M' := MX13_readTest) (pc2 := 193) (dk D_X13_readStatement 106 rfl) ml_13_380 mv_X13_readTest rfl rfl (Nat.le_of_ble_eq_true rfl) rfl (by decide) he173 hc174 (TV.k fun  S175 h => ?_)
        refine V_aload_n (pc2 := 194) (dk D_X13_readStatement 107 rfl) rfl (V_lg 0 rfl) rfl ?_
        refine V_bipush (x := 24) (pc2 := 196) (dk D_X13_readStatement 108 rfl) (by decide) rfl ?_
        refine V_iconst (x := 0) (pc2 := 197) (dk D_X13_readStatement 109 rfl) (by decide) rfl ?_
        refine V_iconst (x := 0) (pc2 := 198) (dk D_X13_readStatement 110 rfl) (by decide) rfl ?_
        obtain ⟨h181, h⟩ := h
        obtain ⟨e176, he177, hc178⟩ := h
        refine V_callV (as := [_, _, _]) (st := []) (M' := MX13_emit) (ci := 13) (pc2 := 201) (dk D_X13_readStatement 111 rfl) ml_13_373 mv_X13_emit rfl rfl (by decide) rfl (Nat.le_of_ble_eq_true rfl) rfl he177 h181 hc178 (RI.k fun y179 S180 h => ?_)
        refine V_istore (pc2 := 203) (lv2 := [(0, _), (1, _), (2, _), (3, _), (4, _)]) (dk D_X13_readStatement 112 rfl) (by decide) rfl rfl ?_
        refine V_aload_n (pc2 := 204) (dk D_X13_readStatement 113 rfl) rfl (V_lg 0 rfl) rfl ?_
        obtain ⟨e182, he183, hc184⟩ := h
        refine V_callST (as := [_]) (st := []) (M' := MX13_readBlock) (pc2 := 207) (dk D_X13_readStatement 114 rfl) ml_13_383 mv_X13_readBlock rfl rfl (Nat.le_of_ble_eq_true rfl) rfl (by decide) he183 hc184 (TV.k fun  S185 h => ?_)
        refine V_aload_n (pc2 := 208) (dk D_X13_readStatement 115 rfl) rfl (V_lg 0 rfl) rfl ?_
        refine V_iconst (x := 0) (pc2 := 209) (dk D_X13_readStatement 116 rfl) (by decide) rfl ?_
        refine V_iload_n (pc2 := 210) (dk D_X13_readStatement 117 rfl) rfl (V_lg 1 rfl) rfl ?_
        refine V_iconst (x := 0) (pc2 := 211) (dk D_X13_readStatement 118 rfl) (by decide) rfl ?_
        obtain ⟨h191, h⟩ := h
        obtain ⟨e186, he187, hc188⟩ := h
        refine V_callV (as := [_, _, _]) (st := []) (M' := MX13_emit) (ci := 13) (pc2 := 214) (dk D_X13_readStatement 119 rfl) ml_13_373 mv_X13_emit rfl rfl (by decide) rfl (Nat.le_of_ble_eq_true rfl) rfl he187 h191 hc188 (RI.k fun y189 S190 h => ?_)
        refine V_istore_n (pc2 := 215) (lv2 := [(0, _), (1, _), (2, _), (3, _), (4, _)]) (dk D_X13_readStatement 120 rfl) rfl (by decide) rfl rfl ?_
        refine V_aload_n (pc2 := 216) (dk D_X13_readStatement 121 rfl) rfl (V_lg 0 rfl) rfl ?_
        refine V_bipush (x := 23) (pc2 := 218) (dk D_X13_readStatement 122 rfl) (by decide) rfl ?_
        refine V_iload_n (pc2 := 219) (dk D_X13_readStatement 123 rfl) rfl (V_lg 3 rfl) rfl ?_
        refine V_iconst (x := 0) (pc2 := 220) (dk D_X13_readStatement 124 rfl) (by decide) rfl ?_
        obtain ⟨h197, h⟩ := h
        obtain ⟨e192, he193, hc194⟩ := h
        refine V_callV (as := [_, _, _]) (st := []) (M' := MX13_emit) (ci := 13) (pc2 := 223) (dk D_X13_readStatement 125 rfl) ml_13_373 mv_X13_emit rfl rfl (by decide) rfl (Nat.le_of_ble_eq_true rfl) rfl he193 h197 hc194 (RI.k fun y195 S196 h => ?_)
        refine V_istore_n (pc2 := 224) (lv2 := [(0, _), (1, _), (2, _), (3, _), (4, _)]) (dk D_X13_readStatement 126 rfl) rfl (by decide) rfl rfl ?_
        refine V_aload_n (pc2 := 225) (dk D_X13_readStatement 127 rfl) rfl (V_lg 0 rfl) rfl ?_
        obtain ⟨h198, h⟩ := h
        refine V_getR kc13 (pc2 := 228) 14 (dk D_X13_readStatement 128 rfl) fl_13_95 (by decide) (fun _ => rfl) rfl h198 ?_
        refine V_iload (pc2 := 230) (dk D_X13_readStatement 129 rfl) (V_lg 4 rfl) rfl ?_
        refine V_aload_n (pc2 := 231) (dk D_X13_readStatement 130 rfl) rfl (V_lg 0 rfl) rfl ?_
        refine V_getI kc13 (pc2 := 234) 17 (dk D_X13_readStatement 131 rfl) fl_13_351 (by decide) (fun _ => rfl) rfl h198 ?_
        obtain ⟨h199, h⟩ := h
        obtain ⟨h200, h⟩ := h
        refine V_iast (pc2 := 235) (dk D_X13_readStatement 132 rfl) rfl h199 h200 ?_
        have h := h _ rfl
        refine V_goto (tgt := 526) (dk D_X13_readStatement 133 rfl) (by decide) ?_
        refine V_pick [0, 1, 2] (lv2 := [(0, _), (1, _), (2, _)]) rfl ?_
        exact h
    · have h := h.2 q22
      refine V_aload_n (pc2 := 69) (dk D_X13_readStatement 38 rfl) rfl (V_lg 0 rfl) rfl ?_
      refine V_dup (pc2 := 70) (dk D_X13_readStatement 39 rfl) rfl rfl ?_
      obtain ⟨h202, h⟩ := h
      refine V_getI kc13 (pc2 := 73) 10 (dk D_X13_readStatement 40 rfl) fl_13_331 (by decide) (fun _ => rfl) rfl h202 ?_
      refine V_iconst (x := 1) (pc2 := 74) (dk D_X13_readStatement 41 rfl) (by decide) rfl ?_
      refine V_iadd (pc2 := 75) (dk D_X13_readStatement 42 rfl) rfl ?_
      refine V_putI kc13 (pc2 := 78) 10 (dk D_X13_readStatement 43 rfl) fl_13_331 (by decide) (Or.inl rfl) rfl rfl h202 ?_
      have h := h _ rfl
      refine V_aload_n (pc2 := 79) (dk D_X13_readStatement 44 rfl) rfl (V_lg 0 rfl) rfl ?_
      obtain ⟨e204, he205, hc206⟩ := h
      refine V_callST (as := [_]) (st := []) (M' := MX13_readTest) (pc2 := 82) (dk D_X13_readStatement 45 rfl) ml_13_380 mv_X13_readTest rfl rfl (Nat.le_of_ble_eq_true rfl) rfl (by decide) he205 hc206 (TV.k fun  S207 h => ?_)
      refine V_aload_n (pc2 := 83) (dk D_X13_readStatement 46 rfl) rfl (V_lg 0 rfl) rfl ?_
      refine V_bipush (x := 24) (pc2 := 85) (dk D_X13_readStatement 47 rfl) (by decide) rfl ?_
      refine V_iconst (x := 0) (pc2 := 86) (dk D_X13_readStatement 48 rfl) (by decide) rfl ?_
      refine V_iconst (x := 0) (pc2 := 87) (dk D_X13_readStatement 49 rfl) (by decide) rfl ?_
      obtain ⟨h213, h⟩ := h
      obtain ⟨e208, he209, hc210⟩ := h
      refine V_callV (as := [_, _, _]) (st := []) (M' := MX13_emit) (ci := 13) (pc2 := 90) (dk D_X13_readStatement 50 rfl) ml_13_373 mv_X13_emit rfl rfl (by decide) rfl (Nat.le_of_ble_eq_true rfl) rfl he209 h213 hc210 (RI.k fun y211 S212 h => ?_)
      refine V_istore_n (pc2 := 91) (lv2 := [(0, _), (1, _), (2, _), (3, _)]) (dk D_X13_readStatement 51 rfl) rfl (by decide) rfl rfl ?_
      refine V_aload_n (pc2 := 92) (dk D_X13_readStatement 52 rfl) rfl (V_lg 0 rfl) rfl ?_
      obtain ⟨e214, he215, hc216⟩ := h
      refine V_callST (as := [_]) (st := []) (M' := MX13_readBlock) (pc2 := 95) (dk D_X13_readStatement 53 rfl) ml_13_383 mv_X13_readBlock rfl rfl (Nat.le_of_ble_eq_true rfl) rfl (by decide) he215 hc216 (TV.k fun  S217 h => ?_)
      refine V_aload_n (pc2 := 96) (dk D_X13_readStatement 54 rfl) rfl (V_lg 0 rfl) rfl ?_
      refine V_ldcs 5 (pc2 := 98) (dk D_X13_readStatement 55 rfl) rfl rfl ?_
      obtain ⟨h223, h⟩ := h
      obtain ⟨e218, he219, hc220⟩ := h
      refine V_callV (as := [_]) (st := []) (M' := MX13_isWord) (ci := 13) (pc2 := 101) (dk D_X13_readStatement 56 rfl) ml_13_341 mv_X13_isWord rfl rfl (by decide) rfl (Nat.le_of_ble_eq_true rfl) rfl he219 h223 hc220 (RI.k fun y221 S222 h => ?_)
      refine V_ifeq (tgt := 152) (pc2 := 104) (dk D_X13_readStatement 57 rfl) (by decide) rfl (fun q224 => ?_) (fun q224 => ?_)
      · have h := h.1 q224
        refine V_aload_n (pc2 := 153) (dk D_X13_readStatement 85 rfl) rfl (V_lg 0 rfl) rfl ?_
        obtain ⟨h225, h⟩ := h
        refine V_getR kc13 (pc2 := 156) 14 (dk D_X13_readStatement 86 rfl) fl_13_95 (by decide) (fun _ => rfl) rfl h225 ?_
        refine V_iload_n (pc2 := 157) (dk D_X13_readStatement 87 rfl) rfl (V_lg 3 rfl) rfl ?_
        refine V_aload_n (pc2 := 158) (dk D_X13_readStatement 88 rfl) rfl (V_lg 0 rfl) rfl ?_
        refine V_getI kc13 (pc2 := 161) 17 (dk D_X13_readStatement 89 rfl) fl_13_351 (by decide) (fun _ => rfl) rfl h225 ?_
        obtain ⟨h226, h⟩ := h
        obtain ⟨h227, h⟩ := h
        refine V_iast (pc2 := 162) (dk D_X13_readStatement 90 rfl) rfl h226 h227 ?_
        have h := h _ rfl
        exact h
      · have h := h.2 q224
        refine V_aload_n (pc2 := 105) (dk D_X13_readStatement 58 rfl) rfl (V_lg 0 rfl) rfl ?_
        refine V_dup (pc2 := 106) (dk D_X13_readStatement 59 rfl) rfl rfl ?_
        obtain ⟨h229, h⟩ := h
        refine V_getI kc13 (pc2 := 109) 10 (dk D_X13_readStatement 60 rfl) fl_13_331 (by decide) (fun _ => rfl) rfl h229 ?_
        refine V_iconst (x := 1) (pc2 := 110) (dk D_X13_readStatement 61 rfl) (by decide) rfl ?_
        refine V_iadd (pc2 := 111) (dk D_X13_readStatement 62 rfl) rfl ?_
        refine V_putI kc13 (pc2 := 114) 10 (dk D_X13_readStatement 63 rfl) fl_13_331 (by decide) (Or.inl rfl) rfl rfl h229 ?_
        have h := h _ rfl
        refine V_aload_n (pc2 := 115) (dk D_X13_readStatement 64 rfl) rfl (V_lg 0 rfl) rfl ?_
        refine V_bipush (x := 23) (pc2 := 117) (dk D_X13_readStatement 65 rfl) (by decide) rfl ?_
        refine V_iconst (x := 0) (pc2 := 118) (dk D_X13_readStatement 66 rfl) (by decide) rfl ?_
        refine V_iconst (x := 0) (pc2 := 119) (dk D_X13_readStatement 67 rfl) (by decide) rfl ?_
        obtain ⟨e231, he232, hc233⟩ := h
        refine V_callV (as := [_, _, _]) (st := []) (M' := MX13_emit) (ci := 13) (pc2 := 122) (dk D_X13_readStatement 68 rfl) ml_13_373 mv_X13_emit rfl rfl (by decide) rfl (Nat.le_of_ble_eq_true rfl) rfl he232 h229 hc233 (RI.k fun y234 S235 h => ?_)
        refine V_istore (pc2 := 124) (lv2 := [(0, _), (1, _), (2, _), (3, _), (4, _)]) (dk D_X13_readStatement 69 rfl) (by decide) rfl rfl ?_
        refine V_aload_n (pc2 := 125) (dk D_X13_readStatement 70 rfl) rfl (V_lg 0 rfl) rfl ?_
        obtain ⟨h236, h⟩ := h
        refine V_getR kc13 (pc2 := 128) 14 (dk D_X13_readStatement 71 rfl) fl_13_95 (by decide) (fun _ => rfl) rfl h236 ?_
        refine V_iload_n (pc2 := 129) (dk D_X13_readStatement 72 rfl) rfl (V_lg 3 rfl) rfl ?_
        refine V_aload_n (pc2 := 130) (dk D_X13_readStatement 73 rfl) rfl (V_lg 0 rfl) rfl ?_
        refine V_getI kc13 (pc2 := 133) 17 (dk D_X13_readStatement 74 rfl) fl_13_351 (by decide) (fun _ => rfl) rfl h236 ?_
        obtain ⟨h237, h⟩ := h
        obtain ⟨h238, h⟩ := h
        refine V_iast (pc2 := 134) (dk D_X13_readStatement 75 rfl) rfl h237 h238 ?_
        have h := h _ rfl
        refine V_aload_n (pc2 := 135) (dk D_X13_readStatement 76 rfl) rfl (V_lg 0 rfl) rfl ?_
        obtain ⟨e240, he241, hc242⟩ := h
        refine V_callST (as := [_]) (st := []) (M' := MX13_readBlock) (pc2 := 138) (dk D_X13_readStatement 77 rfl) ml_13_383 mv_X13_readBlock rfl rfl (Nat.le_of_ble_eq_true rfl) rfl (by decide) he241 hc242 (TV.k fun  S243 h => ?_)
        refine V_aload_n (pc2 := 139) (dk D_X13_readStatement 78 rfl) rfl (V_lg 0 rfl) rfl ?_
        obtain ⟨h244, h⟩ := h
        refine V_getR kc13 (pc2 := 142) 14 (dk D_X13_readStatement 79 rfl) fl_13_95 (by decide) (fun _ => rfl) rfl h244 ?_
        refine V_iload (pc2 := 144) (dk D_X13_readStatement 80 rfl) (V_lg 4 rfl) rfl ?_
        refine V_aload_n (pc2 := 145) (dk D_X13_readStatement 81 rfl) rfl (V_lg 0 rfl) rfl ?_
        refine V_getI kc13 (pc2 := 148) 17 (dk D_X13_readStatement 82 rfl) fl_13_351 (by decide) (fun _ => rfl) rfl h244 ?_
        obtain ⟨h245, h⟩ := h
        obtain ⟨h246, h⟩ := h
        refine V_iast (pc2 := 149) (dk D_X13_readStatement 83 rfl) rfl h245 h246 ?_
        have h := h _ rfl
        refine V_goto (tgt := 162) (dk D_X13_readStatement 84 rfl) (by decide) ?_
        refine V_pick [0, 1, 2, 3] (lv2 := [(0, _), (1, _), (2, _), (3, _)]) rfl ?_
        exact h
  · have h := h.2 q15
    refine V_aload_n (pc2 := 28) (dk D_X13_readStatement 16 rfl) rfl (V_lg 0 rfl) rfl ?_
    refine V_dup (pc2 := 29) (dk D_X13_readStatement 17 rfl) rfl rfl ?_
    obtain ⟨h248, h⟩ := h
    refine V_getI kc13 (pc2 := 32) 10 (dk D_X13_readStatement 18 rfl) fl_13_331 (by decide) (fun _ => rfl) rfl h248 ?_
    refine V_iconst (x := 1) (pc2 := 33) (dk D_X13_readStatement 19 rfl) (by decide) rfl ?_
    refine V_iadd (pc2 := 34) (dk D_X13_readStatement 20 rfl) rfl ?_
    refine V_putI kc13 (pc2 := 37) 10 (dk D_X13_readStatement 21 rfl) fl_13_331 (by decide) (Or.inl rfl) rfl rfl h248 ?_
    have h := h _ rfl
    refine V_aload_n (pc2 := 38) (dk D_X13_readStatement 22 rfl) rfl (V_lg 0 rfl) rfl ?_
    obtain ⟨e250, he251, hc252⟩ := h
    refine V_callST (as := [_]) (st := []) (M' := MX13_readE) (pc2 := 41) (dk D_X13_readStatement 23 rfl) ml_13_377 mv_X13_readE rfl rfl (Nat.le_of_ble_eq_true rfl) rfl (by decide) he251 hc252 (TV.k fun  S253 h => ?_)
    refine V_aload_n (pc2 := 42) (dk D_X13_readStatement 24 rfl) rfl (V_lg 0 rfl) rfl ?_
    refine V_bipush (x := 59) (pc2 := 44) (dk D_X13_readStatement 25 rfl) (by decide) rfl ?_
    obtain ⟨h258, h⟩ := h
    obtain ⟨e254, he255, hc256⟩ := h
    refine V_callVT (as := [_]) (st := []) (M' := MX13_mustSign) (ci := 13) (pc2 := 47) (dk D_X13_readStatement 26 rfl) ml_13_348 mv_X13_mustSign rfl rfl (by decide) rfl (Nat.le_of_ble_eq_true rfl) rfl (by decide) he255 h258 hc256 (TV.k fun  S257 h => ?_)
    refine V_aload_n (pc2 := 48) (dk D_X13_readStatement 27 rfl) rfl (V_lg 0 rfl) rfl ?_
    refine V_bipush (x := 21) (pc2 := 50) (dk D_X13_readStatement 28 rfl) (by decide) rfl ?_
    refine V_iconst (x := 0) (pc2 := 51) (dk D_X13_readStatement 29 rfl) (by decide) rfl ?_
    refine V_iconst (x := 0) (pc2 := 52) (dk D_X13_readStatement 30 rfl) (by decide) rfl ?_
    obtain ⟨h264, h⟩ := h
    obtain ⟨e259, he260, hc261⟩ := h
    refine V_callV (as := [_, _, _]) (st := []) (M' := MX13_emit) (ci := 13) (pc2 := 55) (dk D_X13_readStatement 31 rfl) ml_13_373 mv_X13_emit rfl rfl (by decide) rfl (Nat.le_of_ble_eq_true rfl) rfl he260 h264 hc261 (RI.k fun y262 S263 h => ?_)
    refine V_istore_n (pc2 := 56) (lv2 := [(0, _), (1, _), (2, _)]) (dk D_X13_readStatement 32 rfl) rfl (by decide) rfl rfl ?_
    refine V_goto (tgt := 526) (dk D_X13_readStatement 33 rfl) (by decide) ?_
    exact h
theorem w_X13_readStatement_162 {X : Cx} {d : Nat} {S : Mem} {Q : Res → Mem → Prop} (r0 : Nat) (x1 : Int32) (x2 : Int32) (x3 : Int32) (h : V X d MX13_readStatement 526 [(0, vR r0), (1, vI x1), (2, vI x2)] [] S Q) : V X d MX13_readStatement 162 [(0, vR r0), (1, vI x1), (2, vI x2), (3, vI x3)] [] S Q := by
  refine V_goto (tgt := 526) (dk D_X13_readStatement 91 rfl) (by decide) ?_
  refine V_pick [0, 1, 2] (lv2 := [(0, _), (1, _), (2, _)]) rfl ?_
  exact h
theorem w_X13_readStatement_335 {X : Cx} {d : Nat} {S : Mem} {Q : Res → Mem → Prop} (r0 : Nat) (x1 : Int32) (x2 : Int32) (h : (isK S r0 13) ∧ ∃ e1 : Nat, e1 + 1 ≤ d ∧ C X e1 MX13_mustSign [vR r0, vI 59] S (TV Q fun  S4 => (isK S4 r0 13) ∧ ∃ e6 : Nat, e6 + 1 ≤ d ∧ C X e6 MX13_emit [vR r0, vI 26, vI 0, vI 0] S4 (RI fun y9 S10 => V X d MX13_readStatement 526 [(0, vR r0), (1, vI x1), (2, vI y9)] [] S10 Q))) : V X d MX13_readStatement 335 [(0, vR r0), (1, vI x1), (2, vI x2)] [] S Q := by
  refine V_aload_n (pc2 := 336) (dk D_X13_readStatement 187 rfl) rfl (V_lg 0 rfl) rfl ?_
  refine V_bipush (x := 59) (pc2 := 338) (dk D_X13_readStatement 188 rfl) (by decide) rfl ?_
  obtain ⟨h5, h⟩ := h
  obtain ⟨e1, he2, hc3⟩ := h
  refine V_callVT (as := [_]) (st := []) (M' := MX13_mustSign) (ci := 13) (pc2 := 341) (dk D_X13_readStatement 189 rfl) ml_13_348 mv_X13_mustSign rfl rfl (by decide) rfl (Nat.le_of_ble_eq_true rfl) rfl (by decide) he2 h5 hc3 (TV.k fun  S4 h => ?_)
  refine V_aload_n (pc2 := 342) (dk D_X13_readStatement 190 rfl) rfl (V_lg 0 rfl) rfl ?_
  refine V_bipush (x := 26) (pc2 := 344) (dk D_X13_readStatement 191 rfl) (by decide) rfl ?_
  refine V_iconst (x := 0) (pc2 := 345) (dk D_X13_readStatement 192 rfl) (by decide) rfl ?_
  refine V_iconst (x := 0) (pc2 := 346) (dk D_X13_readStatement 193 rfl) (by decide) rfl ?_
  obtain ⟨h11, h⟩ := h
  obtain ⟨e6, he7, hc8⟩ := h
  refine V_callV (as := [_, _, _]) (st := []) (M' := MX13_emit) (ci := 13) (pc2 := 349) (dk D_X13_readStatement 194 rfl) ml_13_373 mv_X13_emit rfl rfl (by decide) rfl (Nat.le_of_ble_eq_true rfl) rfl he7 h11 hc8 (RI.k fun y9 S10 h => ?_)
  refine V_istore_n (pc2 := 350) (lv2 := [(0, _), (1, _), (2, _)]) (dk D_X13_readStatement 195 rfl) rfl (by decide) rfl rfl ?_
  refine V_goto (tgt := 526) (dk D_X13_readStatement 196 rfl) (by decide) ?_
  exact h
theorem w_X13_readStatement_507 {X : Cx} {d : Nat} {S : Mem} {Q : Res → Mem → Prop} (r0 : Nat) (x1 : Int32) (x2 : Int32) (h : ∃ e1 : Nat, e1 + 1 ≤ d ∧ C X e1 MX13_readE [vR r0] S (TV Q fun  S4 => (isK S4 r0 13) ∧ ∃ e5 : Nat, e5 + 1 ≤ d ∧ C X e5 MX13_mustSign [vR r0, vI 59] S4 (TV Q fun  S8 => (isK S8 r0 13) ∧ ∃ e10 : Nat, e10 + 1 ≤ d ∧ C X e10 MX13_emit [vR r0, vI 22, vI 0, vI 0] S8 (RI fun y13 S14 => V X d MX13_readStatement 526 [(0, vR r0), (1, vI x1), (2, vI y13)] [] S14 Q)))) : V X d MX13_readStatement 507 [(0, vR r0), (1, vI x1), (2, vI x2)] [] S Q := by
  refine V_aload_n (pc2 := 508) (dk D_X13_readStatement 279 rfl) rfl (V_lg 0 rfl) rfl ?_
  obtain ⟨e1, he2, hc3⟩ := h
  refine V_callST (as := [_]) (st := []) (M' := MX13_readE) (pc2 := 511) (dk D_X13_readStatement 280 rfl) ml_13_377 mv_X13_readE rfl rfl (Nat.le_of_ble_eq_true rfl) rfl (by decide) he2 hc3 (TV.k fun  S4 h => ?_)
  refine V_aload_n (pc2 := 512) (dk D_X13_readStatement 281 rfl) rfl (V_lg 0 rfl) rfl ?_
  refine V_bipush (x := 59) (pc2 := 514) (dk D_X13_readStatement 282 rfl) (by decide) rfl ?_
  obtain ⟨h9, h⟩ := h
  obtain ⟨e5, he6, hc7⟩ := h
  refine V_callVT (as := [_]) (st := []) (M' := MX13_mustSign) (ci := 13) (pc2 := 517) (dk D_X13_readStatement 283 rfl) ml_13_348 mv_X13_mustSign rfl rfl (by decide) rfl (Nat.le_of_ble_eq_true rfl) rfl (by decide) he6 h9 hc7 (TV.k fun  S8 h => ?_)
  refine V_aload_n (pc2 := 518) (dk D_X13_readStatement 284 rfl) rfl (V_lg 0 rfl) rfl ?_
  refine V_bipush (x := 22) (pc2 := 520) (dk D_X13_readStatement 285 rfl) (by decide) rfl ?_
  refine V_iconst (x := 0) (pc2 := 521) (dk D_X13_readStatement 286 rfl) (by decide) rfl ?_
  refine V_iconst (x := 0) (pc2 := 522) (dk D_X13_readStatement 287 rfl) (by decide) rfl ?_
  obtain ⟨h15, h⟩ := h
  obtain ⟨e10, he11, hc12⟩ := h
  refine V_callV (as := [_, _, _]) (st := []) (M' := MX13_emit) (ci := 13) (pc2 := 525) (dk D_X13_readStatement 288 rfl) ml_13_373 mv_X13_emit rfl rfl (by decide) rfl (Nat.le_of_ble_eq_true rfl) rfl he11 h15 hc12 (RI.k fun y13 S14 h => ?_)
  refine V_istore_n (pc2 := 526) (lv2 := [(0, _), (1, _), (2, _)]) (dk D_X13_readStatement 289 rfl) rfl (by decide) rfl rfl ?_
  exact h
theorem w_X13_readStatement_526 {X : Cx} {d : Nat} {S : Mem} {Q : Res → Mem → Prop} (r0 : Nat) (x1 : Int32) (x2 : Int32) (h : Q (.inl none) S) : V X d MX13_readStatement 526 [(0, vR r0), (1, vI x1), (2, vI x2)] [] S Q := by
  exact V_return (dk D_X13_readStatement 290 rfl) rfl h
def L_X13_readTest : List (Nat × Instr × Nat) := [(0, .aload_n 0, 1), (1, .bipush 40, 2), (3, .invokevirtual 334, 3), (6, .ifCond .ne 16, 3), (9, .aload_n 0, 1), (10, .aload_n 0, 1), (11, .getfield 27, 3), (14, .aload_n 0, 1), (15, .getfield 331, 3), (18, .iaload, 1), (19, .invokevirtual 337, 3), (22, .aload_n 0, 1), (23, .invokevirtual 363, 3), (26, .aload_n 0, 1), (27, .invokestatic 377, 3), (30, .aload_n 0, 1), (31, .bipush 41, 2), (33, .invokevirtual 370, 3), (36, .return_, 1)]
theorem D_X13_readTest : dOk cX13_readTest L_X13_readTest = true := by decide +kernel
theorem w_X13_readTest_0 {X : Cx} {d : Nat} {S : Mem} {Q : Res → Mem → Prop} (r0 : Nat) (h : (isK S r0 13) ∧ ∃ e1 : Nat, e1 + 1 ≤ d ∧ C X e1 MX13_isSign [vR r0, vI 40] S (RI fun y4 S5 => ((¬ y4 = 0 → V X d MX13_readTest 22 [(0, vR r0)] [] S5 Q) ∧ (y4 = 0 → (isK S5 r0 13) ∧ (isK S5 (gR S5 r0 6) 21) ∧ (vp_in (gI S5 r0 10) (gN S5 (gR S5 r0 6))) ∧ ∃ e11 : Nat, e11 + 1 ≤ d ∧ C X e11 MX13_fail [vR r0, vI (gI S5 (gR S5 r0 6) ((gI S5 r0 10) : Int32).toNatClampNeg)] S5 (TV Q fun  S14 => V X d MX13_readTest 22 [(0, vR r0)] [] S14 Q))))) : V X d MX13_readTest 0 [(0, vR r0)] [] S Q := by
  refine V_aload_n (pc2 := 1) (dk D_X13_readTest 0 rfl) rfl (V_lg 0 rfl) rfl ?_
  refine V_bipush (x := 40) (pc2 := 3) (dk D_X13_readTest 1 rfl) (by decide) rfl ?_
  obtain ⟨h6, h⟩ := h
  obtain ⟨e1, he2, hc3⟩ := h
  refine V_callV (as := [_]) (st := []) (M' := MX13_isSign) (ci := 13) (pc2 := 6) (dk D_X13_readTest 2 rfl) ml_13_334 mv_X13_isSign rfl rfl (by decide) rfl (Nat.le_of_ble_eq_true rfl) rfl he2 h6 hc3 (RI.k fun y4 S5 h => ?_)
  refine V_ifne (tgt := 22) (pc2 := 9) (dk D_X13_readTest 3 rfl) (by decide) rfl (fun q7 => ?_) (fun q7 => ?_)
  · have h := h.1 q7
    exact h
  · have h := h.2 q7
    refine V_aload_n (pc2 := 10) (dk D_X13_readTest 4 rfl) rfl (V_lg 0 rfl) rfl ?_
    refine V_aload_n (pc2 := 11) (dk D_X13_readTest 5 rfl) rfl (V_lg 0 rfl) rfl ?_
    obtain ⟨h8, h⟩ := h
    refine V_getR kc13 (pc2 := 14) 6 (dk D_X13_readTest 6 rfl) fl_13_27 (by decide) (fun _ => rfl) rfl h8 ?_
    refine V_aload_n (pc2 := 15) (dk D_X13_readTest 7 rfl) rfl (V_lg 0 rfl) rfl ?_
    refine V_getI kc13 (pc2 := 18) 10 (dk D_X13_readTest 8 rfl) fl_13_331 (by decide) (fun _ => rfl) rfl h8 ?_
    obtain ⟨h9, h⟩ := h
    obtain ⟨h10, h⟩ := h
    refine V_iald (pc2 := 19) (dk D_X13_readTest 9 rfl) rfl h9 h10 ?_
    obtain ⟨e11, he12, hc13⟩ := h
    refine V_callVT (as := [_]) (st := []) (M' := MX13_fail) (ci := 13) (pc2 := 22) (dk D_X13_readTest 10 rfl) ml_13_337 mv_X13_fail rfl rfl (by decide) rfl (Nat.le_of_ble_eq_true rfl) rfl (by decide) he12 h8 hc13 (TV.k fun  S14 h => ?_)
    exact h
theorem w_X13_readTest_22 {X : Cx} {d : Nat} {S : Mem} {Q : Res → Mem → Prop} (r0 : Nat) (h : (isK S r0 13) ∧ ∃ e1 : Nat, e1 + 1 ≤ d ∧ C X e1 MX13_opens [vR r0] S (TV Q fun  S4 => ∃ e6 : Nat, e6 + 1 ≤ d ∧ C X e6 MX13_readE [vR r0] S4 (TV Q fun  S9 => (isK S9 r0 13) ∧ ∃ e10 : Nat, e10 + 1 ≤ d ∧ C X e10 MX13_closes [vR r0, vI 41] S9 (TV Q fun  S13 => Q (.inl none) S13)))) : V X d MX13_readTest 22 [(0, vR r0)] [] S Q := by
  refine V_aload_n (pc2 := 23) (dk D_X13_readTest 11 rfl) rfl (V_lg 0 rfl) rfl ?_
  obtain ⟨h5, h⟩ := h
  obtain ⟨e1, he2, hc3⟩ := h
  refine V_callVT (as := []) (st := []) (M' := MX13_opens) (ci := 13) (pc2 := 26) (dk D_X13_readTest 12 rfl) ml_13_363 mv_X13_opens rfl rfl (by decide) rfl (Nat.le_of_ble_eq_true rfl) rfl (by decide) he2 h5 hc3 (TV.k fun  S4 h => ?_)
  refine V_aload_n (pc2 := 27) (dk D_X13_readTest 13 rfl) rfl (V_lg 0 rfl) rfl ?_
  obtain ⟨e6, he7, hc8⟩ := h
  refine V_callST (as := [_]) (st := []) (M' := MX13_readE) (pc2 := 30) (dk D_X13_readTest 14 rfl) ml_13_377 mv_X13_readE rfl rfl (Nat.le_of_ble_eq_true rfl) rfl (by decide) he7 hc8 (TV.k fun  S9 h => ?_)
  refine V_aload_n (pc2 := 31) (dk D_X13_readTest 15 rfl) rfl (V_lg 0 rfl) rfl ?_
  refine V_bipush (x := 41) (pc2 := 33) (dk D_X13_readTest 16 rfl) (by decide) rfl ?_
  obtain ⟨h14, h⟩ := h
  obtain ⟨e10, he11, hc12⟩ := h
  refine V_callVT (as := [_]) (st := []) (M' := MX13_closes) (ci := 13) (pc2 := 36) (dk D_X13_readTest 17 rfl) ml_13_370 mv_X13_closes rfl rfl (by decide) rfl (Nat.le_of_ble_eq_true rfl) rfl (by decide) he11 h14 hc12 (TV.k fun  S13 h => ?_)
  exact V_return (dk D_X13_readTest 18 rfl) rfl h
def L_X13_readEach : List (Nat × Instr × Nat) := [(0, .aload_n 0, 1), (1, .dup, 1), (2, .getfield 331, 3), (5, .iconst 1, 1), (6, .iadd, 1), (7, .putfield 331, 3), (10, .aload_n 0, 1), (11, .aload_n 0, 1), (12, .invokevirtual 399, 3), (15, .invokevirtual 402, 3), (18, .istore_n 2, 1), (19, .aload_n 0, 1), (20, .ldc 86, 2), (22, .invokevirtual 406, 3), (25, .aload_n 0, 1), (26, .invokestatic 377, 3), (29, .bipush 12, 2), (31, .aload_n 0, 1), (32, .getfield 410, 3), (35, .iadd, 1), (36, .istore_n 3, 1), (37, .aload_n 0, 1), (38, .dup, 1), (39, .getfield 410, 3), (42, .iconst 1, 1), (43, .iadd, 1), (44, .putfield 410, 3), (47, .aload_n 0, 1), (48, .bipush 31, 2), (50, .iload_n 3, 1), (51, .iconst 0, 1), (52, .invokevirtual 373, 3), (55, .istore 4, 2), (57, .aload_n 0, 1), (58, .bipush 32, 2), (60, .iload_n 2, 1), (61, .iload_n 3, 1), (62, .invokevirtual 373, 3), (65, .istore 5, 2), (67, .aload_n 0, 1), (68, .invokestatic 383, 3), (71, .aload_n 0, 1), (72, .iconst 0, 1), (73, .iload_n 1, 1), (74, .iconst 0, 1), (75, .invokevirtual 373, 3), (78, .istore 4, 2), (80, .aload_n 0, 1), (81, .bipush 23, 2), (83, .iload 5, 2), (85, .iconst 0, 1), (86, .invokevirtual 373, 3), (89, .istore 4, 2), (91, .aload_n 0, 1), (92, .getfield 101, 3), (95, .iload 5, 2), (97, .aload_n 0, 1), (98, .getfield 351, 3), (101, .iastore, 1), (102, .aload_n 0, 1), (103, .dup, 1), (104, .getfield 410, 3), (107, .iconst 1, 1), (108, .isub, 1), (109, .putfield 410, 3), (112, .return_, 1)]
theorem D_X13_readEach : dOk cX13_readEach L_X13_readEach = true := by decide +kernel
theorem w_X13_readEach_0 {X : Cx} {d : Nat} {S : Mem} {Q : Res → Mem → Prop} (r0 : Nat) (x1 : Int32) (h : (isK S r0 13) ∧ ∀ S2 : Mem, S2 = uI S r0 10 ((gI S r0 10) + 1) → ∃ e3 : Nat, e3 + 1 ≤ d ∧ C X e3 MX13_mustName [vR r0] S2 (TI Q fun y6 S7 => (isK S7 r0 13) ∧ ∃ e8 : Nat, e8 + 1 ≤ d ∧ C X e8 MX13_variable [vR r0, vI y6] S7 (RI fun y11 S12 => (isK S12 r0 13) ∧ ∃ e14 : Nat, e14 + 1 ≤ d ∧ C X e14 MX13_mustWord [vR r0, vR 26] S12 (TV Q fun  S17 => ∃ e19 : Nat, e19 + 1 ≤ d ∧ C X e19 MX13_readE [vR r0] S17 (TV Q fun  S22 => (isK S22 r0 13) ∧ ∀ S24 : Mem, S24 = uI S22 r0 36 ((gI S22 r0 36) + 1) → ∃ e25 : Nat, e25 + 1 ≤ d ∧ C X e25 MX13_emit [vR r0, vI 31, vI (12 + (gI S22 r0 36)), vI 0] S24 (RI fun y28 S29 => (isK S29 r0 13) ∧ ∃ e30 : Nat, e30 + 1 ≤ d ∧ C X e30 MX13_emit [vR r0, vI 32, vI y11, vI (12 + (gI S22 r0 36))] S29 (RI fun y33 S34 => ∃ e36 : Nat, e36 + 1 ≤ d ∧ C X e36 MX13_readBlock [vR r0] S34 (TV Q fun  S39 => (isK S39 r0 13) ∧ ∃ e40 : Nat, e40 + 1 ≤ d ∧ C X e40 MX13_emit [vR r0, vI 0, vI x1, vI 0] S39 (RI fun y43 S44 => (isK S44 r0 13) ∧ ∃ e46 : Nat, e46 + 1 ≤ d ∧ C X e46 MX13_emit [vR r0, vI 23, vI y33, vI 0] S44 (RI fun y49 S50 => (isK S50 r0 13) ∧ (isK S50 (gR S50 r0 16) 21) ∧ (vp_in y33 (gN S50 (gR S50 r0 16))) ∧ ∀ S55 : Mem, S55 = uI S50 (gR S50 r0 16) ((y33 : Int32).toNatClampNeg) (gI S50 r0 17) → ∀ S56 : Mem, S56 = uI S55 r0 36 ((gI S55 r0 36) - 1) → Q (.inl none) S56)))))))))) : V X d MX13_readEach 0 [(0, vR r0), (1, vI x1)] [] S Q := by
  refine V_aload_n (pc2 := 1) (dk D_X13_readEach 0 rfl) rfl (V_lg 0 rfl) rfl ?_
  refine V_dup (pc2 := 2) (dk D_X13_readEach 1 rfl) rfl rfl ?_
  obtain ⟨h1, h⟩ := h
  refine V_getI kc13 (pc2 := 5) 10 (dk D_X13_readEach 2 rfl) fl_13_331 (by decide) (fun _ => rfl) rfl h1 ?_
  refine V_iconst (x := 1) (pc2 := 6) (dk D_X13_readEach 3 rfl) (by decide) rfl ?_
  refine V_iadd (pc2 := 7) (dk D_X13_readEach 4 rfl) rfl ?_
  refine V_putI kc13 (pc2 := 10) 10 (dk D_X13_readEach 5 rfl) fl_13_331 (by decide) (Or.inl rfl) rfl rfl h1 ?_
  have h := h _ rfl
  refine V_aload_n (pc2 := 11) (dk D_X13_readEach 6 rfl) rfl (V_lg 0 rfl) rfl ?_
  refine V_aload_n (pc2 := 12) (dk D_X13_readEach 7 rfl) rfl (V_lg 0 rfl) rfl ?_
  obtain ⟨e3, he4, hc5⟩ := h
  refine V_callVT (as := []) (st := [_]) (M' := MX13_mustName) (ci := 13) (pc2 := 15) (dk D_X13_readEach 8 rfl) ml_13_399 mv_X13_mustName rfl rfl (by decide) rfl (Nat.le_of_ble_eq_true rfl) rfl (by decide) he4 h1 hc5 (TI.k fun y6 S7 h => ?_)
  obtain ⟨h13, h⟩ := h
  obtain ⟨e8, he9, hc10⟩ := h
  refine V_callV (as := [_]) (st := []) (M' := MX13_variable) (ci := 13) (pc2 := 18) (dk D_X13_readEach 9 rfl) ml_13_402 mv_X13_variable rfl rfl (by decide) rfl (Nat.le_of_ble_eq_true rfl) rfl he9 h13 hc10 (RI.k fun y11 S12 h => ?_)
  refine V_istore_n (pc2 := 19) (lv2 := [(0, _), (1, _), (2, _)]) (dk D_X13_readEach 10 rfl) rfl (by decide) rfl rfl ?_
  refine V_aload_n (pc2 := 20) (dk D_X13_readEach 11 rfl) rfl (V_lg 0 rfl) rfl ?_
  refine V_ldcs 24 (pc2 := 22) (dk D_X13_readEach 12 rfl) rfl rfl ?_
  obtain ⟨h18, h⟩ := h
  obtain ⟨e14, he15, hc16⟩ := h
  refine V_callVT (as := [_]) (st := []) (M' := MX13_mustWord) (ci := 13) (pc2 := 25) (dk D_X13_readEach 13 rfl) ml_13_406 mv_X13_mustWord rfl rfl (by decide) rfl (Nat.le_of_ble_eq_true rfl) rfl (by decide) he15 h18 hc16 (TV.k fun  S17 h => ?_)
  refine V_aload_n (pc2 := 26) (dk D_X13_readEach 14 rfl) rfl (V_lg 0 rfl) rfl ?_
  obtain ⟨e19, he20, hc21⟩ := h
  refine V_callST (as := [_]) (st := []) (M' := MX13_readE) (pc2 := 29) (dk D_X13_readEach 15 rfl) ml_13_377 mv_X13_readE rfl rfl (Nat.le_of_ble_eq_true rfl) rfl (by decide) he20 hc21 (TV.k fun  S22 h => ?_)
  refine V_bipush (x := 12) (pc2 := 31) (dk D_X13_readEach 16 rfl) (by decide) rfl ?_
  refine V_aload_n (pc2 := 32) (dk D_X13_readEach 17 rfl) rfl (V_lg 0 rfl) rfl ?_
  obtain ⟨h23, h⟩ := h
  refine V_getI kc13 (pc2 := 35) 36 (dk D_X13_readEach 18 rfl) fl_13_410 (by decide) (fun _ => rfl) rfl h23 ?_
  refine V_iadd (pc2 := 36) (dk D_X13_readEach 19 rfl) rfl ?_
  refine V_istore_n (pc2 := 37) (lv2 := [(0, _), (1, _), (2, _), (3, _)]) (dk D_X13_readEach 20 rfl) rfl (by decide) rfl rfl ?_
  refine V_aload_n (pc2 := 38) (dk D_X13_readEach 21 rfl) rfl (V_lg 0 rfl) rfl ?_
  refine V_dup (pc2 := 39) (dk D_X13_readEach 22 rfl) rfl rfl ?_
  refine V_getI kc13 (pc2 := 42) 36 (dk D_X13_readEach 23 rfl) fl_13_410 (by decide) (fun _ => rfl) rfl h23 ?_
  refine V_iconst (x := 1) (pc2 := 43) (dk D_X13_readEach 24 rfl) (by decide) rfl ?_
  refine V_iadd (pc2 := 44) (dk D_X13_readEach 25 rfl) rfl ?_
  refine V_putI kc13 (pc2 := 47) 36 (dk D_X13_readEach 26 rfl) fl_13_410 (by decide) (Or.inl rfl) rfl rfl h23 ?_
  have h := h _ rfl
  refine V_aload_n (pc2 := 48) (dk D_X13_readEach 27 rfl) rfl (V_lg 0 rfl) rfl ?_
  refine V_bipush (x := 31) (pc2 := 50) (dk D_X13_readEach 28 rfl) (by decide) rfl ?_
  refine V_iload_n (pc2 := 51) (dk D_X13_readEach 29 rfl) rfl (V_lg 3 rfl) rfl ?_
  refine V_iconst (x := 0) (pc2 := 52) (dk D_X13_readEach 30 rfl) (by decide) rfl ?_
  obtain ⟨e25, he26, hc27⟩ := h
  refine V_callV (as := [_, _, _]) (st := []) (M' := MX13_emit) (ci := 13) (pc2 := 55) (dk D_X13_readEach 31 rfl) ml_13_373 mv_X13_emit rfl rfl (by decide) rfl (Nat.le_of_ble_eq_true rfl) rfl he26 h23 hc27 (RI.k fun y28 S29 h => ?_)
  refine V_istore (pc2 := 57) (lv2 := [(0, _), (1, _), (2, _), (3, _), (4, _)]) (dk D_X13_readEach 32 rfl) (by decide) rfl rfl ?_
  refine V_aload_n (pc2 := 58) (dk D_X13_readEach 33 rfl) rfl (V_lg 0 rfl) rfl ?_
  refine V_bipush (x := 32) (pc2 := 60) (dk D_X13_readEach 34 rfl) (by decide) rfl ?_
  refine V_iload_n (pc2 := 61) (dk D_X13_readEach 35 rfl) rfl (V_lg 2 rfl) rfl ?_
  refine V_iload_n (pc2 := 62) (dk D_X13_readEach 36 rfl) rfl (V_lg 3 rfl) rfl ?_
  obtain ⟨h35, h⟩ := h
  obtain ⟨e30, he31, hc32⟩ := h
  refine V_callV (as := [_, _, _]) (st := []) (M' := MX13_emit) (ci := 13) (pc2 := 65) (dk D_X13_readEach 37 rfl) ml_13_373 mv_X13_emit rfl rfl (by decide) rfl (Nat.le_of_ble_eq_true rfl) rfl he31 h35 hc32 (RI.k fun y33 S34 h => ?_)
  refine V_istore (pc2 := 67) (lv2 := [(0, _), (1, _), (2, _), (3, _), (4, _), (5, _)]) (dk D_X13_readEach 38 rfl) (by decide) rfl rfl ?_
  refine V_aload_n (pc2 := 68) (dk D_X13_readEach 39 rfl) rfl (V_lg 0 rfl) rfl ?_
  obtain ⟨e36, he37, hc38⟩ := h
  refine V_callST (as := [_]) (st := []) (M' := MX13_readBlock) (pc2 := 71) (dk D_X13_readEach 40 rfl) ml_13_383 mv_X13_readBlock rfl rfl (Nat.le_of_ble_eq_true rfl) rfl (by decide) he37 hc38 (TV.k fun  S39 h => ?_)
  refine V_aload_n (pc2 := 72) (dk D_X13_readEach 41 rfl) rfl (V_lg 0 rfl) rfl ?_
  refine V_iconst (x := 0) (pc2 := 73) (dk D_X13_readEach 42 rfl) (by decide) rfl ?_
  refine V_iload_n (pc2 := 74) (dk D_X13_readEach 43 rfl) rfl (V_lg 1 rfl) rfl ?_
  refine V_iconst (x := 0) (pc2 := 75) (dk D_X13_readEach 44 rfl) (by decide) rfl ?_
  obtain ⟨h45, h⟩ := h
  obtain ⟨e40, he41, hc42⟩ := h
  refine V_callV (as := [_, _, _]) (st := []) (M' := MX13_emit) (ci := 13) (pc2 := 78) (dk D_X13_readEach 45 rfl) ml_13_373 mv_X13_emit rfl rfl (by decide) rfl (Nat.le_of_ble_eq_true rfl) rfl he41 h45 hc42 (RI.k fun y43 S44 h => ?_)
  refine V_istore (pc2 := 80) (lv2 := [(0, _), (1, _), (2, _), (3, _), (4, _), (5, _)]) (dk D_X13_readEach 46 rfl) (by decide) rfl rfl ?_
  refine V_aload_n (pc2 := 81) (dk D_X13_readEach 47 rfl) rfl (V_lg 0 rfl) rfl ?_
  refine V_bipush (x := 23) (pc2 := 83) (dk D_X13_readEach 48 rfl) (by decide) rfl ?_
  refine V_iload (pc2 := 85) (dk D_X13_readEach 49 rfl) (V_lg 5 rfl) rfl ?_
  refine V_iconst (x := 0) (pc2 := 86) (dk D_X13_readEach 50 rfl) (by decide) rfl ?_
  obtain ⟨h51, h⟩ := h
  obtain ⟨e46, he47, hc48⟩ := h
  refine V_callV (as := [_, _, _]) (st := []) (M' := MX13_emit) (ci := 13) (pc2 := 89) (dk D_X13_readEach 51 rfl) ml_13_373 mv_X13_emit rfl rfl (by decide) rfl (Nat.le_of_ble_eq_true rfl) rfl he47 h51 hc48 (RI.k fun y49 S50 h => ?_)
  refine V_istore (pc2 := 91) (lv2 := [(0, _), (1, _), (2, _), (3, _), (4, _), (5, _)]) (dk D_X13_readEach 52 rfl) (by decide) rfl rfl ?_
  refine V_aload_n (pc2 := 92) (dk D_X13_readEach 53 rfl) rfl (V_lg 0 rfl) rfl ?_
  obtain ⟨h52, h⟩ := h
  refine V_getR kc13 (pc2 := 95) 16 (dk D_X13_readEach 54 rfl) fl_13_101 (by decide) (fun _ => rfl) rfl h52 ?_
  refine V_iload (pc2 := 97) (dk D_X13_readEach 55 rfl) (V_lg 5 rfl) rfl ?_
  refine V_aload_n (pc2 := 98) (dk D_X13_readEach 56 rfl) rfl (V_lg 0 rfl) rfl ?_
  refine V_getI kc13 (pc2 := 101) 17 (dk D_X13_readEach 57 rfl) fl_13_351 (by decide) (fun _ => rfl) rfl h52 ?_
  obtain ⟨h53, h⟩ := h
  obtain ⟨h54, h⟩ := h
  refine V_iast (pc2 := 102) (dk D_X13_readEach 58 rfl) rfl h53 h54 ?_
  have h := h _ rfl
  refine V_aload_n (pc2 := 103) (dk D_X13_readEach 59 rfl) rfl (V_lg 0 rfl) rfl ?_
  refine V_dup (pc2 := 104) (dk D_X13_readEach 60 rfl) rfl rfl ?_
  refine V_getI kc13 (pc2 := 107) 36 (dk D_X13_readEach 61 rfl) fl_13_410 (by decide) (fun _ => rfl) rfl h52 ?_
  refine V_iconst (x := 1) (pc2 := 108) (dk D_X13_readEach 62 rfl) (by decide) rfl ?_
  refine V_isub (pc2 := 109) (dk D_X13_readEach 63 rfl) rfl ?_
  refine V_putI kc13 (pc2 := 112) 36 (dk D_X13_readEach 64 rfl) fl_13_410 (by decide) (Or.inl rfl) rfl rfl h52 ?_
  have h := h _ rfl
  exact V_return (dk D_X13_readEach 65 rfl) rfl h
def L_X13_readTry : List (Nat × Instr × Nat) := [(0, .aload_n 0, 1), (1, .dup, 1), (2, .getfield 331, 3), (5, .iconst 1, 1), (6, .iadd, 1), (7, .putfield 331, 3), (10, .aload_n 0, 1), (11, .getfield 413, 3), (14, .istore_n 1, 1), (15, .aload_n 0, 1), (16, .dup, 1), (17, .getfield 413, 3), (20, .iconst 1, 1), (21, .iadd, 1), (22, .putfield 413, 3), (25, .aload_n 0, 1), (26, .bipush 28, 2), (28, .iload_n 1, 1), (29, .iconst 0, 1), (30, .invokevirtual 373, 3), (33, .istore_n 2, 1), (34, .aload_n 0, 1), (35, .getfield 125, 3), (38, .iload_n 1, 1), (39, .bipush (-9), 2), (41, .iastore, 1), (42, .aload_n 0, 1), (43, .invokestatic 383, 3), (46, .aload_n 0, 1), (47, .bipush 29, 2), (49, .iload_n 1, 1), (50, .iconst 0, 1), (51, .invokevirtual 373, 3), (54, .istore_n 2, 1), (55, .iconst 0, 1), (56, .istore_n 3, 1), (57, .aload_n 0, 1), (58, .ldc 54, 2), (60, .invokevirtual 341, 3), (63, .ifCond .eq 148, 3), (66, .aload_n 0, 1), (67, .dup, 1), (68, .getfield 331, 3), (71, .iconst 1, 1), (72, .iadd, 1), (73, .putfield 331, 3), (76, .iconst 1, 1), (77, .istore_n 3, 1), (78, .bipush (-9), 2), (80, .istore 4, 2), (82, .aload_n 0, 1), (83, .getfield 23, 3), (86, .aload_n 0, 1), (87, .getfield 331, 3), (90, .iaload, 1), (91, .iconst 2, 1), (92, .if_icmp .ne 9, 3), (95, .aload_n 0, 1), (96, .invokevirtual 386, 3), (99, .istore 4, 2), (101, .aload_n 0, 1), (102, .aload_n 0, 1), (103, .invokevirtual 399, 3), (106, .invokevirtual 402, 3), (109, .istore 5, 2), (111, .aload_n 0, 1), (112, .getfield 416, 3), (115, .istore 6, 2), (117, .aload_n 0, 1), (118, .dup, 1), (119, .getfield 416, 3), (122, .iconst 1, 1), (123, .iadd, 1), (124, .putfield 416, 3), (127, .aload_n 0, 1), (128, .getfield 131, 3), (131, .iload 6, 2), (133, .iload 4, 2), (135, .iastore, 1), (136, .aload_n 0, 1), (137, .getfield 134, 3), (140, .iload 6, 2), (142, .iload 5, 2), (144, .iastore, 1), (145, .aload_n 0, 1), (146, .getfield 137, 3), (149, .iload 6, 2), (151, .aload_n 0, 1), (152, .getfield 351, 3), (155, .iastore, 1), (156, .aload_n 0, 1), (157, .getfield 140, 3), (160, .iload 6, 2), (162, .aload_n 0, 1), (163, .getfield 389, 3), (166, .iastore, 1), (167, .aload_n 0, 1), (168, .getfield 158, 3), (171, .iload 6, 2), (173, .iload_n 1, 1), (174, .iastore, 1), (175, .aload_n 0, 1), (176, .dup, 1), (177, .getfield 389, 3), (180, .iconst 1, 1), (181, .iadd, 1), (182, .putfield 389, 3), (185, .aload_n 0, 1), (186, .invokestatic 383, 3), (189, .aload_n 0, 1), (190, .dup, 1), (191, .getfield 389, 3), (194, .iconst 1, 1), (195, .isub, 1), (196, .putfield 389, 3), (199, .aload_n 0, 1), (200, .bipush 29, 2), (202, .iload_n 1, 1), (203, .iconst 0, 1), (204, .invokevirtual 373, 3), (207, .istore_n 2, 1), (208, .goto (-151), 3), (211, .aload_n 0, 1), (212, .ldc 56, 2), (214, .invokevirtual 341, 3), (217, .ifCond .eq 38, 3), (220, .aload_n 0, 1), (221, .dup, 1), (222, .getfield 331, 3), (225, .iconst 1, 1), (226, .iadd, 1), (227, .putfield 331, 3), (230, .iconst 1, 1), (231, .istore_n 3, 1), (232, .aload_n 0, 1), (233, .getfield 125, 3), (236, .iload_n 1, 1), (237, .aload_n 0, 1), (238, .getfield 351, 3), (241, .iastore, 1), (242, .aload_n 0, 1), (243, .invokestatic 383, 3), (246, .aload_n 0, 1), (247, .bipush 30, 2), (249, .iload_n 1, 1), (250, .iconst 0, 1), (251, .invokevirtual 373, 3), (254, .istore_n 2, 1), (255, .iload_n 3, 1), (256, .ifCond .ne 16, 3), (259, .aload_n 0, 1), (260, .aload_n 0, 1), (261, .getfield 27, 3), (264, .aload_n 0, 1), (265, .getfield 331, 3), (268, .iaload, 1), (269, .invokevirtual 337, 3), (272, .aload_n 0, 1), (273, .getfield 128, 3), (276, .iload_n 1, 1), (277, .aload_n 0, 1), (278, .getfield 351, 3), (281, .iastore, 1), (282, .return_, 1)]
theorem D_X13_readTry : dOk cX13_readTry L_X13_readTry = true := by decide +kernel
theorem w_X13_readTry_0 {X : Cx} {d : Nat} {S : Mem} {Q : Res → Mem → Prop} (r0 : Nat) (h : (isK S r0 13) ∧ ∀ S2 : Mem, S2 = uI S r0 10 ((gI S r0 10) + 1) → ∀ S3 : Mem, S3 = uI S2 r0 29 ((gI S2 r0 29) + 1) → ∃ e4 : Nat, e4 + 1 ≤ d ∧ C X e4 MX13_emit [vR r0, vI 28, vI (gI S2 r0 29), vI 0] S3 (RI fun y7 S8 => (isK S8 r0 13) ∧ (isK S8 (gR S8 r0 27) 21) ∧ (vp_in (gI S2 r0 29) (gN S8 (gR S8 r0 27))) ∧ ∀ S12 : Mem, S12 = uI S8 (gR S8 r0 27) (((gI S2 r0 29) : Int32).toNatClampNeg) (-9) → ∃ e13 : Nat, e13 + 1 ≤ d ∧ C X e13 MX13_readBlock [vR r0] S12 (TV Q fun  S16 => (isK S16 r0 13) ∧ ∃ e17 : Nat, e17 + 1 ≤ d ∧ C X e17 MX13_emit [vR r0, vI 29, vI (gI S2 r0 29), vI 0] S16 (RI fun y20 S21 => V X d MX13_readTry 57 [(0, vR r0), (1, vI (gI S2 r0 29)), (2, vI y20), (3, vI 0)] [] S21 Q)))) : V X d MX13_readTry 0 [(0, vR r0)] [] S Q := by
  refine V_aload_n (pc2 := 1) (dk D_X13_readTry 0 rfl) rfl (V_lg 0 rfl) rfl ?_
  refine V_dup (pc2 := 2) (dk D_X13_readTry 1 rfl) rfl rfl ?_
  obtain ⟨h1, h⟩ := h
  refine V_getI kc13 (pc2 := 5) 10 (dk D_X13_readTry 2 rfl) fl_13_331 (by decide) (fun _ => rfl) rfl h1 ?_
  refine V_iconst (x := 1) (pc2 := 6) (dk D_X13_readTry 3 rfl) (by decide) rfl ?_
  refine V_iadd (pc2 := 7) (dk D_X13_readTry 4 rfl) rfl ?_
  refine V_putI kc13 (pc2 := 10) 10 (dk D_X13_readTry 5 rfl) fl_13_331 (by decide) (Or.inl rfl) rfl rfl h1 ?_
  have h := h _ rfl
  refine V_aload_n (pc2 := 11) (dk D_X13_readTry 6 rfl) rfl (V_lg 0 rfl) rfl ?_
  refine V_getI kc13 (pc2 := 14) 29 (dk D_X13_readTry 7 rfl) fl_13_413 (by decide) (fun _ => rfl) rfl h1 ?_
  refine V_istore_n (pc2 := 15) (lv2 := [(0, _), (1, _)]) (dk D_X13_readTry 8 rfl) rfl (by decide) rfl rfl ?_
  refine V_aload_n (pc2 := 16) (dk D_X13_readTry 9 rfl) rfl (V_lg 0 rfl) rfl ?_
  refine V_dup (pc2 := 17) (dk D_X13_readTry 10 rfl) rfl rfl ?_
  refine V_getI kc13 (pc2 := 20) 29 (dk D_X13_readTry 11 rfl) fl_13_413 (by decide) (fun _ => rfl) rfl h1 ?_
  refine V_iconst (x := 1) (pc2 := 21) (dk D_X13_readTry 12 rfl) (by decide) rfl ?_
  refine V_iadd (pc2 := 22) (dk D_X13_readTry 13 rfl) rfl ?_
  refine V_putI kc13 (pc2 := 25) 29 (dk D_X13_readTry 14 rfl) fl_13_413 (by decide) (Or.inl rfl) rfl rfl h1 ?_
  have h := h _ rfl
  refine V_aload_n (pc2 := 26) (dk D_X13_readTry 15 rfl) rfl (V_lg 0 rfl) rfl ?_
  refine V_bipush (x := 28) (pc2 := 28) (dk D_X13_readTry 16 rfl) (by decide) rfl ?_
  refine V_iload_n (pc2 := 29) (dk D_X13_readTry 17 rfl) rfl (V_lg 1 rfl) rfl ?_
  refine V_iconst (x := 0) (pc2 := 30) (dk D_X13_readTry 18 rfl) (by decide) rfl ?_
  obtain ⟨e4, he5, hc6⟩ := h
  refine V_callV (as := [_, _, _]) (st := []) (M' := MX13_emit) (ci := 13) (pc2 := 33) (dk D_X13_readTry 19 rfl) ml_13_373 mv_X13_emit rfl rfl (by decide) rfl (Nat.le_of_ble_eq_true rfl) rfl he5 h1 hc6 (RI.k fun y7 S8 h => ?_)
  refine V_istore_n (pc2 := 34) (lv2 := [(0, _), (1, _), (2, _)]) (dk D_X13_readTry 20 rfl) rfl (by decide) rfl rfl ?_
  refine V_aload_n (pc2 := 35) (dk D_X13_readTry 21 rfl) rfl (V_lg 0 rfl) rfl ?_
  obtain ⟨h9, h⟩ := h
  refine V_getR kc13 (pc2 := 38) 27 (dk D_X13_readTry 22 rfl) fl_13_125 (by decide) (fun _ => rfl) rfl h9 ?_
  refine V_iload_n (pc2 := 39) (dk D_X13_readTry 23 rfl) rfl (V_lg 1 rfl) rfl ?_
  refine V_bipush (x := (-9)) (pc2 := 41) (dk D_X13_readTry 24 rfl) (by decide) rfl ?_
  obtain ⟨h10, h⟩ := h
  obtain ⟨h11, h⟩ := h
  refine V_iast (pc2 := 42) (dk D_X13_readTry 25 rfl) rfl h10 h11 ?_
  have h := h _ rfl
  refine V_aload_n (pc2 := 43) (dk D_X13_readTry 26 rfl) rfl (V_lg 0 rfl) rfl ?_
  obtain ⟨e13, he14, hc15⟩ := h
  refine V_callST (as := [_]) (st := []) (M' := MX13_readBlock) (pc2 := 46) (dk D_X13_readTry 27 rfl) ml_13_383 mv_X13_readBlock rfl rfl (Nat.le_of_ble_eq_true rfl) rfl (by decide) he14 hc15 (TV.k fun  S16 h => ?_)
  refine V_aload_n (pc2 := 47) (dk D_X13_readTry 28 rfl) rfl (V_lg 0 rfl) rfl ?_
  refine V_bipush (x := 29) (pc2 := 49) (dk D_X13_readTry 29 rfl) (by decide) rfl ?_
  refine V_iload_n (pc2 := 50) (dk D_X13_readTry 30 rfl) rfl (V_lg 1 rfl) rfl ?_
  refine V_iconst (x := 0) (pc2 := 51) (dk D_X13_readTry 31 rfl) (by decide) rfl ?_
  obtain ⟨h22, h⟩ := h
  obtain ⟨e17, he18, hc19⟩ := h
  refine V_callV (as := [_, _, _]) (st := []) (M' := MX13_emit) (ci := 13) (pc2 := 54) (dk D_X13_readTry 32 rfl) ml_13_373 mv_X13_emit rfl rfl (by decide) rfl (Nat.le_of_ble_eq_true rfl) rfl he18 h22 hc19 (RI.k fun y20 S21 h => ?_)
  refine V_istore_n (pc2 := 55) (lv2 := [(0, _), (1, _), (2, _)]) (dk D_X13_readTry 33 rfl) rfl (by decide) rfl rfl ?_
  refine V_iconst (x := 0) (pc2 := 56) (dk D_X13_readTry 34 rfl) (by decide) rfl ?_
  refine V_istore_n (pc2 := 57) (lv2 := [(0, _), (1, _), (2, _), (3, _)]) (dk D_X13_readTry 35 rfl) rfl (by decide) rfl rfl ?_
  exact h
theorem w_X13_readTry_57 {X : Cx} {d : Nat} {S : Mem} {Q : Res → Mem → Prop} (r0 : Nat) (x1 : Int32) (x2 : Int32) (x3 : Int32) (h : (isK S r0 13) ∧ ∃ e1 : Nat, e1 + 1 ≤ d ∧ C X e1 MX13_isWord [vR r0, vR 10] S (RI fun y4 S5 => ((y4 = 0 → (isK S5 r0 13) ∧ ∃ e8 : Nat, e8 + 1 ≤ d ∧ C X e8 MX13_isWord [vR r0, vR 11] S5 (RI fun y11 S12 => ((y11 = 0 → V X d MX13_readTry 255 [(0, vR r0), (1, vI x1), (2, vI x2), (3, vI x3)] [] S12 Q) ∧ (¬ y11 = 0 → (isK S12 r0 13) ∧ ∀ S16 : Mem, S16 = uI S12 r0 10 ((gI S12 r0 10) + 1) → (isK S12 (gR S12 r0 27) 21) ∧ (vp_in x1 (gN S12 (gR S12 r0 27))) ∧ ∀ S19 : Mem, S19 = uI S16 (gR S12 r0 27) ((x1 : Int32).toNatClampNeg) (gI S16 r0 17) → ∃ e20 : Nat, e20 + 1 ≤ d ∧ C X e20 MX13_readBlock [vR r0] S19 (TV Q fun  S23 => (isK S23 r0 13) ∧ ∃ e24 : Nat, e24 + 1 ≤ d ∧ C X e24 MX13_emit [vR r0, vI 30, vI x1, vI 0] S23 (RI fun y27 S28 => V X d MX13_readTry 255 [(0, vR r0), (1, vI x1), (2, vI y27), (3, vI 1)] [] S28 Q)))))) ∧ (¬ y4 = 0 → (isK S5 r0 13) ∧ ∀ S31 : Mem, S31 = uI S5 r0 10 ((gI S5 r0 10) + 1) → (isK S5 (gR S5 r0 5) 21) ∧ (vp_in (gI S31 r0 10) (gN S5 (gR S5 r0 5))) ∧ ((¬ (gI S31 (gR S5 r0 5) ((gI S31 r0 10) : Int32).toNatClampNeg) = 2 → V X d MX13_readTry 101 [(0, vR r0), (1, vI x1), (2, vI x2), (3, vI 1), (4, vI (-9))] [] S31 Q) ∧ ((gI S31 (gR S5 r0 5) ((gI S31 r0 10) : Int32).toNatClampNeg) = 2 → ∃ e35 : Nat, e35 + 1 ≤ d ∧ C X e35 MX13_mustNumber [vR r0] S31 (TI Q fun y38 S39 => V X d MX13_readTry 101 [(0, vR r0), (1, vI x1), (2, vI x2), (3, vI 1), (4, vI y38)] [] S39 Q))))))) : V X d MX13_readTry 57 [(0, vR r0), (1, vI x1), (2, vI x2), (3, vI x3)] [] S Q := by
  refine V_aload_n (pc2 := 58) (dk D_X13_readTry 36 rfl) rfl (V_lg 0 rfl) rfl ?_
  refine V_ldcs 8 (pc2 := 60) (dk D_X13_readTry 37 rfl) rfl rfl ?_
  obtain ⟨h6, h⟩ := h
  obtain ⟨e1, he2, hc3⟩ := h
  refine V_callV (as := [_]) (st := []) (M' := MX13_isWord) (ci := 13) (pc2 := 63) (dk D_X13_readTry 38 rfl) ml_13_341 mv_X13_isWord rfl rfl (by decide) rfl (Nat.le_of_ble_eq_true rfl) rfl he2 h6 hc3 (RI.k fun y4 S5 h => ?_)
  refine V_ifeq (tgt := 211) (pc2 := 66) (dk D_X13_readTry 39 rfl) (by decide) rfl (fun q7 => ?_) (fun q7 => ?_)
  · have h := h.1 q7
    refine V_aload_n (pc2 := 212) (dk D_X13_readTry 122 rfl) rfl (V_lg 0 rfl) rfl ?_
    refine V_ldcs 9 (pc2 := 214) (dk D_X13_readTry 123 rfl) rfl rfl ?_
    obtain ⟨h13, h⟩ := h
    obtain ⟨e8, he9, hc10⟩ := h
    refine V_callV (as := [_]) (st := []) (M' := MX13_isWord) (ci := 13) (pc2 := 217) (dk D_X13_readTry 124 rfl) ml_13_341 mv_X13_isWord rfl rfl (by decide) rfl (Nat.le_of_ble_eq_true rfl) rfl he9 h13 hc10 (RI.k fun y11 S12 h => ?_)
    refine V_ifeq (tgt := 255) (pc2 := 220) (dk D_X13_readTry 125 rfl) (by decide) rfl (fun q14 => ?_) (fun q14 => ?_)
    · have h := h.1 q14
      exact h
    · have h := h.2 q14
      refine V_aload_n (pc2 := 221) (dk D_X13_readTry 126 rfl) rfl (V_lg 0 rfl) rfl ?_
      refine V_dup (pc2 := 222) (dk D_X13_readTry 127 rfl) rfl rfl ?_
      obtain ⟨h15, h⟩ := h
      refine V_getI kc13 (pc2 := 225) 10 (dk D_X13_readTry 128 rfl) fl_13_331 (by decide) (fun _ => rfl) rfl h15 ?_
      refine V_iconst (x := 1) (pc2 := 226) (dk D_X13_readTry 129 rfl) (by decide) rfl ?_
      refine V_iadd (pc2 := 227) (dk D_X13_readTry 130 rfl) rfl ?_
      refine V_putI kc13 (pc2 := 230) 10 (dk D_X13_readTry 131 rfl) fl_13_331 (by decide) (Or.inl rfl) rfl rfl h15 ?_
      have h := h _ rfl
      refine V_iconst (x := 1) (pc2 := 231) (dk D_X13_readTry 132 rfl) (by decide) rfl ?_
      refine V_istore_n (pc2 := 232) (lv2 := [(0, _), (1, _), (2, _), (3, _)]) (dk D_X13_readTry 133 rfl) rfl (by decide) rfl rfl ?_
      refine V_aload_n (pc2 := 233) (dk D_X13_readTry 134 rfl) rfl (V_lg 0 rfl) rfl ?_
      refine V_getR kc13 (pc2 := 236) 27 (dk D_X13_readTry 135 rfl) fl_13_125 (by decide) (fun _ => rfl) rfl h15 ?_
      refine V_iload_n (pc2 := 237) (dk D_X13_readTry 136 rfl) rfl (V_lg 1 rfl) rfl ?_
      refine V_aload_n (pc2 := 238) (dk D_X13_readTry 137 rfl) rfl (V_lg 0 rfl) rfl ?_
      refine V_getI kc13 (pc2 := 241) 17 (dk D_X13_readTry 138 rfl) fl_13_351 (by decide) (fun _ => rfl) rfl h15 ?_
      obtain ⟨h17, h⟩ := h
      obtain ⟨h18, h⟩ := h
      refine V_iast (pc2 := 242) (dk D_X13_readTry 139 rfl) rfl h17 h18 ?_
      have h := h _ rfl
      refine V_aload_n (pc2 := 243) (dk D_X13_readTry 140 rfl) rfl (V_lg 0 rfl) rfl ?_
      obtain ⟨e20, he21, hc22⟩ := h
      refine V_callST (as := [_]) (st := []) (M' := MX13_readBlock) (pc2 := 246) (dk D_X13_readTry 141 rfl) ml_13_383 mv_X13_readBlock rfl rfl (Nat.le_of_ble_eq_true rfl) rfl (by decide) he21 hc22 (TV.k fun  S23 h => ?_)
      refine V_aload_n (pc2 := 247) (dk D_X13_readTry 142 rfl) rfl (V_lg 0 rfl) rfl ?_
      refine V_bipush (x := 30) (pc2 := 249) (dk D_X13_readTry 143 rfl) (by decide) rfl ?_
      refine V_iload_n (pc2 := 250) (dk D_X13_readTry 144 rfl) rfl (V_lg 1 rfl) rfl ?_
      refine V_iconst (x := 0) (pc2 := 251) (dk D_X13_readTry 145 rfl) (by decide) rfl ?_
      obtain ⟨h29, h⟩ := h
      obtain ⟨e24, he25, hc26⟩ := h
      refine V_callV (as := [_, _, _]) (st := []) (M' := MX13_emit) (ci := 13) (pc2 := 254) (dk D_X13_readTry 146 rfl) ml_13_373 mv_X13_emit rfl rfl (by decide) rfl (Nat.le_of_ble_eq_true rfl) rfl he25 h29 hc26 (RI.k fun y27 S28 h => ?_)
      refine V_istore_n (pc2 := 255) (lv2 := [(0, _), (1, _), (2, _), (3, _)]) (dk D_X13_readTry 147 rfl) rfl (by decide) rfl rfl ?_
      exact h
  · have h := h.2 q7
    refine V_aload_n (pc2 := 67) (dk D_X13_readTry 40 rfl) rfl (V_lg 0 rfl) rfl ?_
    refine V_dup (pc2 := 68) (dk D_X13_readTry 41 rfl) rfl rfl ?_
    obtain ⟨h30, h⟩ := h
    refine V_getI kc13 (pc2 := 71) 10 (dk D_X13_readTry 42 rfl) fl_13_331 (by decide) (fun _ => rfl) rfl h30 ?_
    refine V_iconst (x := 1) (pc2 := 72) (dk D_X13_readTry 43 rfl) (by decide) rfl ?_
    refine V_iadd (pc2 := 73) (dk D_X13_readTry 44 rfl) rfl ?_
    refine V_putI kc13 (pc2 := 76) 10 (dk D_X13_readTry 45 rfl) fl_13_331 (by decide) (Or.inl rfl) rfl rfl h30 ?_
    have h := h _ rfl
    refine V_iconst (x := 1) (pc2 := 77) (dk D_X13_readTry 46 rfl) (by decide) rfl ?_
    refine V_istore_n (pc2 := 78) (lv2 := [(0, _), (1, _), (2, _), (3, _)]) (dk D_X13_readTry 47 rfl) rfl (by decide) rfl rfl ?_
    refine V_bipush (x := (-9)) (pc2 := 80) (dk D_X13_readTry 48 rfl) (by decide) rfl ?_
    refine V_istore (pc2 := 82) (lv2 := [(0, _), (1, _), (2, _), (3, _), (4, _)]) (dk D_X13_readTry 49 rfl) (by decide) rfl rfl ?_
    refine V_aload_n (pc2 := 83) (dk D_X13_readTry 50 rfl) rfl (V_lg 0 rfl) rfl ?_
    refine V_getR kc13 (pc2 := 86) 5 (dk D_X13_readTry 51 rfl) fl_13_23 (by decide) (fun _ => rfl) rfl h30 ?_
    refine V_aload_n (pc2 := 87) (dk D_X13_readTry 52 rfl) rfl (V_lg 0 rfl) rfl ?_
    refine V_getI kc13 (pc2 := 90) 10 (dk D_X13_readTry 53 rfl) fl_13_331 (by decide) (fun _ => rfl) rfl h30 ?_
    obtain ⟨h32, h⟩ := h
    obtain ⟨h33, h⟩ := h
    refine V_iald (pc2 := 91) (dk D_X13_readTry 54 rfl) rfl h32 h33 ?_
    refine V_iconst (x := 2) (pc2 := 92) (dk D_X13_readTry 55 rfl) (by decide) rfl ?_
    refine V_cmpne (tgt := 101) (pc2 := 95) (dk D_X13_readTry 56 rfl) (by decide) rfl (fun q34 => ?_) (fun q34 => ?_)
    · have h := h.1 q34
      exact h
    · have h := h.2 q34
      refine V_aload_n (pc2 := 96) (dk D_X13_readTry 57 rfl) rfl (V_lg 0 rfl) rfl ?_
      obtain ⟨e35, he36, hc37⟩ := h
      refine V_callVT (as := []) (st := []) (M' := MX13_mustNumber) (ci := 13) (pc2 := 99) (dk D_X13_readTry 58 rfl) ml_13_386 mv_X13_mustNumber rfl rfl (by decide) rfl (Nat.le_of_ble_eq_true rfl) rfl (by decide) he36 h30 hc37 (TI.k fun y38 S39 h => ?_)
      refine V_istore (pc2 := 101) (lv2 := [(0, _), (1, _), (2, _), (3, _), (4, _)]) (dk D_X13_readTry 59 rfl) (by decide) rfl rfl ?_
      exact h
theorem w_X13_readTry_101 {X : Cx} {d : Nat} {S : Mem} {Q : Res → Mem → Prop} (r0 : Nat) (x1 : Int32) (x2 : Int32) (x3 : Int32) (x4 : Int32) (h : (isK S r0 13) ∧ ∃ e1 : Nat, e1 + 1 ≤ d ∧ C X e1 MX13_mustName [vR r0] S (TI Q fun y4 S5 => (isK S5 r0 13) ∧ ∃ e7 : Nat, e7 + 1 ≤ d ∧ C X e7 MX13_variable [vR r0, vI y4] S5 (RI fun y10 S11 => (isK S11 r0 13) ∧ ∀ S14 : Mem, S14 = uI S11 r0 34 ((gI S11 r0 34) + 1) → (isK S11 (gR S11 r0 30) 21) ∧ (vp_in (gI S11 r0 34) (gN S11 (gR S11 r0 30))) ∧ ∀ S17 : Mem, S17 = uI S14 (gR S11 r0 30) (((gI S11 r0 34) : Int32).toNatClampNeg) x4 → (isK S11 (gR S11 r0 31) 21) ∧ (vp_in (gI S11 r0 34) (gN S11 (gR S11 r0 31))) ∧ ∀ S20 : Mem, S20 = uI S17 (gR S11 r0 31) (((gI S11 r0 34) : Int32).toNatClampNeg) y10 → (isK S11 (gR S11 r0 32) 21) ∧ (vp_in (gI S11 r0 34) (gN S11 (gR S11 r0 32))) ∧ ∀ S23 : Mem, S23 = uI S20 (gR S11 r0 32) (((gI S11 r0 34) : Int32).toNatClampNeg) (gI S20 r0 17) → (isK S11 (gR S11 r0 33) 21) ∧ (vp_in (gI S11 r0 34) (gN S11 (gR S11 r0 33))) ∧ ∀ S26 : Mem, S26 = uI S23 (gR S11 r0 33) (((gI S11 r0 34) : Int32).toNatClampNeg) (gI S23 r0 35) → (isK S11 (gR S11 r0 45) 21) ∧ (vp_in (gI S11 r0 34) (gN S11 (gR S11 r0 45))) ∧ ∀ S29 : Mem, S29 = uI S26 (gR S11 r0 45) (((gI S11 r0 34) : Int32).toNatClampNeg) x1 → ∀ S30 : Mem, S30 = uI S29 r0 35 ((gI S29 r0 35) + 1) → ∃ e31 : Nat, e31 + 1 ≤ d ∧ C X e31 MX13_readBlock [vR r0] S30 (TV Q fun  S34 => (isK S34 r0 13) ∧ ∀ S36 : Mem, S36 = uI S34 r0 35 ((gI S34 r0 35) - 1) → ∃ e37 : Nat, e37 + 1 ≤ d ∧ C X e37 MX13_emit [vR r0, vI 29, vI x1, vI 0] S36 (RI fun y40 S41 => V X d MX13_readTry 57 [(0, vR r0), (1, vI x1), (2, vI y40), (3, vI x3)] [] S41 Q))))) : V X d MX13_readTry 101 [(0, vR r0), (1, vI x1), (2, vI x2), (3, vI x3), (4, vI x4)] [] S Q := by
  refine V_aload_n (pc2 := 102) (dk D_X13_readTry 60 rfl) rfl (V_lg 0 rfl) rfl ?_
  refine V_aload_n (pc2 := 103) (dk D_X13_readTry 61 rfl) rfl (V_lg 0 rfl) rfl ?_
  obtain ⟨h6, h⟩ := h
  obtain ⟨e1, he2, hc3⟩ := h
  refine V_callVT (as := []) (st := [_]) (M' := MX13_mustName) (ci := 13) (pc2 := 106) (dk D_X13_readTry 62 rfl) ml_13_399 mv_X13_mustName rfl rfl (by decide) rfl (Nat.le_of_ble_eq_true rfl) rfl (by decide) he2 h6 hc3 (TI.k fun y4 S5 h => ?_)
  obtain ⟨h12, h⟩ := h
  obtain ⟨e7, he8, hc9⟩ := h
  refine V_callV (as := [_]) (st := []) (M' := MX13_variable) (ci := 13) (pc2 := 109) (dk D_X13_readTry 63 rfl) ml_13_402 mv_X13_variable rfl rfl (by decide) rfl (Nat.le_of_ble_eq_true rfl) rfl he8 h12 hc9 (RI.k fun y10 S11 h => ?_)
  refine V_istore (pc2 := 111) (lv2 := [(0, _), (1, _), (2, _), (3, _), (4, _), (5, _)]) (dk D_X13_readTry 64 rfl) (by decide) rfl rfl ?_
  refine V_aload_n (pc2 := 112) (dk D_X13_readTry 65 rfl) rfl (V_lg 0 rfl) rfl ?_
  obtain ⟨h13, h⟩ := h
  refine V_getI kc13 (pc2 := 115) 34 (dk D_X13_readTry 66 rfl) fl_13_416 (by decide) (fun _ => rfl) rfl h13 ?_
  refine V_istore (pc2 := 117) (lv2 := [(0, _), (1, _), (2, _), (3, _), (4, _), (5, _), (6, _)]) (dk D_X13_readTry 67 rfl) (by decide) rfl rfl ?_
  refine V_aload_n (pc2 := 118) (dk D_X13_readTry 68 rfl) rfl (V_lg 0 rfl) rfl ?_
  refine V_dup (pc2 := 119) (dk D_X13_readTry 69 rfl) rfl rfl ?_
  refine V_getI kc13 (pc2 := 122) 34 (dk D_X13_readTry 70 rfl) fl_13_416 (by decide) (fun _ => rfl) rfl h13 ?_
  refine V_iconst (x := 1) (pc2 := 123) (dk D_X13_readTry 71 rfl) (by decide) rfl ?_
  refine V_iadd (pc2 := 124) (dk D_X13_readTry 72 rfl) rfl ?_
  refine V_putI kc13 (pc2 := 127) 34 (dk D_X13_readTry 73 rfl) fl_13_416 (by decide) (Or.inl rfl) rfl rfl h13 ?_
  have h := h _ rfl
  refine V_aload_n (pc2 := 128) (dk D_X13_readTry 74 rfl) rfl (V_lg 0 rfl) rfl ?_
  refine V_getR kc13 (pc2 := 131) 30 (dk D_X13_readTry 75 rfl) fl_13_131 (by decide) (fun _ => rfl) rfl h13 ?_
  refine V_iload (pc2 := 133) (dk D_X13_readTry 76 rfl) (V_lg 6 rfl) rfl ?_
  refine V_iload (pc2 := 135) (dk D_X13_readTry 77 rfl) (V_lg 4 rfl) rfl ?_
  obtain ⟨h15, h⟩ := h
  obtain ⟨h16, h⟩ := h
  refine V_iast (pc2 := 136) (dk D_X13_readTry 78 rfl) rfl h15 h16 ?_
  have h := h _ rfl
  refine V_aload_n (pc2 := 137) (dk D_X13_readTry 79 rfl) rfl (V_lg 0 rfl) rfl ?_
  refine V_getR kc13 (pc2 := 140) 31 (dk D_X13_readTry 80 rfl) fl_13_134 (by decide) (fun _ => rfl) rfl h13 ?_
  refine V_iload (pc2 := 142) (dk D_X13_readTry 81 rfl) (V_lg 6 rfl) rfl ?_
  refine V_iload (pc2 := 144) (dk D_X13_readTry 82 rfl) (V_lg 5 rfl) rfl ?_
  obtain ⟨h18, h⟩ := h
  obtain ⟨h19, h⟩ := h
  refine V_iast (pc2 := 145) (dk D_X13_readTry 83 rfl) rfl h18 h19 ?_
  have h := h _ rfl
  refine V_aload_n (pc2 := 146) (dk D_X13_readTry 84 rfl) rfl (V_lg 0 rfl) rfl ?_
  refine V_getR kc13 (pc2 := 149) 32 (dk D_X13_readTry 85 rfl) fl_13_137 (by decide) (fun _ => rfl) rfl h13 ?_
  refine V_iload (pc2 := 151) (dk D_X13_readTry 86 rfl) (V_lg 6 rfl) rfl ?_
  refine V_aload_n (pc2 := 152) (dk D_X13_readTry 87 rfl) rfl (V_lg 0 rfl) rfl ?_
  refine V_getI kc13 (pc2 := 155) 17 (dk D_X13_readTry 88 rfl) fl_13_351 (by decide) (fun _ => rfl) rfl h13 ?_
  obtain ⟨h21, h⟩ := h
  obtain ⟨h22, h⟩ := h
  refine V_iast (pc2 := 156) (dk D_X13_readTry 89 rfl) rfl h21 h22 ?_
  have h := h _ rfl
  refine V_aload_n (pc2 := 157) (dk D_X13_readTry 90 rfl) rfl (V_lg 0 rfl) rfl ?_
  refine V_getR kc13 (pc2 := 160) 33 (dk D_X13_readTry 91 rfl) fl_13_140 (by decide) (fun _ => rfl) rfl h13 ?_
  refine V_iload (pc2 := 162) (dk D_X13_readTry 92 rfl) (V_lg 6 rfl) rfl ?_
  refine V_aload_n (pc2 := 163) (dk D_X13_readTry 93 rfl) rfl (V_lg 0 rfl) rfl ?_
  refine V_getI kc13 (pc2 := 166) 35 (dk D_X13_readTry 94 rfl) fl_13_389 (by decide) (fun _ => rfl) rfl h13 ?_
  obtain ⟨h24, h⟩ := h
  obtain ⟨h25, h⟩ := h
  refine V_iast (pc2 := 167) (dk D_X13_readTry 95 rfl) rfl h24 h25 ?_
  have h := h _ rfl
  refine V_aload_n (pc2 := 168) (dk D_X13_readTry 96 rfl) rfl (V_lg 0 rfl) rfl ?_
  refine V_getR kc13 (pc2 := 171) 45 (dk D_X13_readTry 97 rfl) fl_13_158 (by decide) (fun _ => rfl) rfl h13 ?_
  refine V_iload (pc2 := 173) (dk D_X13_readTry 98 rfl) (V_lg 6 rfl) rfl ?_
  refine V_iload_n (pc2 := 174) (dk D_X13_readTry 99 rfl) rfl (V_lg 1 rfl) rfl ?_
  obtain ⟨h27, h⟩ := h
  obtain ⟨h28, h⟩ := h
  refine V_iast (pc2 := 175) (dk D_X13_readTry 100 rfl) rfl h27 h28 ?_
  have h := h _ rfl
  refine V_aload_n (pc2 := 176) (dk D_X13_readTry 101 rfl) rfl (V_lg 0 rfl) rfl ?_
  refine V_dup (pc2 := 177) (dk D_X13_readTry 102 rfl) rfl rfl ?_
  refine V_getI kc13 (pc2 := 180) 35 (dk D_X13_readTry 103 rfl) fl_13_389 (by decide) (fun _ => rfl) rfl h13 ?_
  refine V_iconst (x := 1) (pc2 := 181) (dk D_X13_readTry 104 rfl) (by decide) rfl ?_
  refine V_iadd (pc2 := 182) (dk D_X13_readTry 105 rfl) rfl ?_
  refine V_putI kc13 (pc2 := 185) 35 (dk D_X13_readTry 106 rfl) fl_13_389 (by decide) (Or.inl rfl) rfl rfl h13 ?_
  have h := h _ rfl
  refine V_aload_n (pc2 := 186) (dk D_X13_readTry 107 rfl) rfl (V_lg 0 rfl) rfl ?_
  obtain ⟨e31, he32, hc33⟩ := h
  refine V_callST (as := [_]) (st := []) (M' := MX13_readBlock) (pc2 := 189) (dk D_X13_readTry 108 rfl) ml_13_383 mv_X13_readBlock rfl rfl (Nat.le_of_ble_eq_true rfl) rfl (by decide) he32 hc33 (TV.k fun  S34 h => ?_)
  refine V_aload_n (pc2 := 190) (dk D_X13_readTry 109 rfl) rfl (V_lg 0 rfl) rfl ?_
  refine V_dup (pc2 := 191) (dk D_X13_readTry 110 rfl) rfl rfl ?_
  obtain ⟨h35, h⟩ := h
  refine V_getI kc13 (pc2 := 194) 35 (dk D_X13_readTry 111 rfl) fl_13_389 (by decide) (fun _ => rfl) rfl h35 ?_
  refine V_iconst (x := 1) (pc2 := 195) (dk D_X13_readTry 112 rfl) (by decide) rfl ?_
  refine V_isub (pc2 := 196) (dk D_X13_readTry 113 rfl) rfl ?_
  refine V_putI kc13 (pc2 := 199) 35 (dk D_X13_readTry 114 rfl) fl_13_389 (by decide) (Or.inl rfl) rfl rfl h35 ?_
  have h := h _ rfl
  refine V_aload_n (pc2 := 200) (dk D_X13_readTry 115 rfl) rfl (V_lg 0 rfl) rfl ?_
  refine V_bipush (x := 29) (pc2 := 202) (dk D_X13_readTry 116 rfl) (by decide) rfl ?_
  refine V_iload_n (pc2 := 203) (dk D_X13_readTry 117 rfl) rfl (V_lg 1 rfl) rfl ?_
  refine V_iconst (x := 0) (pc2 := 204) (dk D_X13_readTry 118 rfl) (by decide) rfl ?_
  obtain ⟨e37, he38, hc39⟩ := h
  refine V_callV (as := [_, _, _]) (st := []) (M' := MX13_emit) (ci := 13) (pc2 := 207) (dk D_X13_readTry 119 rfl) ml_13_373 mv_X13_emit rfl rfl (by decide) rfl (Nat.le_of_ble_eq_true rfl) rfl he38 h35 hc39 (RI.k fun y40 S41 h => ?_)
  refine V_istore_n (pc2 := 208) (lv2 := [(0, _), (1, _), (2, _), (3, _), (4, _), (5, _), (6, _)]) (dk D_X13_readTry 120 rfl) rfl (by decide) rfl rfl ?_
  refine V_goto (tgt := 57) (dk D_X13_readTry 121 rfl) (by decide) ?_
  refine V_pick [0, 1, 2, 3] (lv2 := [(0, _), (1, _), (2, _), (3, _)]) rfl ?_
  exact h
theorem w_X13_readTry_255 {X : Cx} {d : Nat} {S : Mem} {Q : Res → Mem → Prop} (r0 : Nat) (x1 : Int32) (x2 : Int32) (x3 : Int32) (h : ((¬ x3 = 0 → V X d MX13_readTry 272 [(0, vR r0), (1, vI x1), (2, vI x2), (3, vI x3)] [] S Q) ∧ (x3 = 0 → (isK S r0 13) ∧ (isK S (gR S r0 6) 21) ∧ (vp_in (gI S r0 10) (gN S (gR S r0 6))) ∧ ∃ e5 : Nat, e5 + 1 ≤ d ∧ C X e5 MX13_fail [vR r0, vI (gI S (gR S r0 6) ((gI S r0 10) : Int32).toNatClampNeg)] S (TV Q fun  S8 => V X d MX13_readTry 272 [(0, vR r0), (1, vI x1), (2, vI x2), (3, vI x3)] [] S8 Q)))) : V X d MX13_readTry 255 [(0, vR r0), (1, vI x1), (2, vI x2), (3, vI x3)] [] S Q := by
  refine V_iload_n (pc2 := 256) (dk D_X13_readTry 148 rfl) rfl (V_lg 3 rfl) rfl ?_
  refine V_ifne (tgt := 272) (pc2 := 259) (dk D_X13_readTry 149 rfl) (by decide) rfl (fun q1 => ?_) (fun q1 => ?_)
  · have h := h.1 q1
    exact h
  · have h := h.2 q1
    refine V_aload_n (pc2 := 260) (dk D_X13_readTry 150 rfl) rfl (V_lg 0 rfl) rfl ?_
    refine V_aload_n (pc2 := 261) (dk D_X13_readTry 151 rfl) rfl (V_lg 0 rfl) rfl ?_
    obtain ⟨h2, h⟩ := h
    refine V_getR kc13 (pc2 := 264) 6 (dk D_X13_readTry 152 rfl) fl_13_27 (by decide) (fun _ => rfl) rfl h2 ?_
    refine V_aload_n (pc2 := 265) (dk D_X13_readTry 153 rfl) rfl (V_lg 0 rfl) rfl ?_
    refine V_getI kc13 (pc2 := 268) 10 (dk D_X13_readTry 154 rfl) fl_13_331 (by decide) (fun _ => rfl) rfl h2 ?_
    obtain ⟨h3, h⟩ := h
    obtain ⟨h4, h⟩ := h
    refine V_iald (pc2 := 269) (dk D_X13_readTry 155 rfl) rfl h3 h4 ?_
    obtain ⟨e5, he6, hc7⟩ := h
    refine V_callVT (as := [_]) (st := []) (M' := MX13_fail) (ci := 13) (pc2 := 272) (dk D_X13_readTry 156 rfl) ml_13_337 mv_X13_fail rfl rfl (by decide) rfl (Nat.le_of_ble_eq_true rfl) rfl (by decide) he6 h2 hc7 (TV.k fun  S8 h => ?_)
    exact h
theorem w_X13_readTry_272 {X : Cx} {d : Nat} {S : Mem} {Q : Res → Mem → Prop} (r0 : Nat) (x1 : Int32) (x2 : Int32) (x3 : Int32) (h : (isK S r0 13) ∧ (isK S (gR S r0 28) 21) ∧ (vp_in x1 (gN S (gR S r0 28))) ∧ ∀ S4 : Mem, S4 = uI S (gR S r0 28) ((x1 : Int32).toNatClampNeg) (gI S r0 17) → Q (.inl none) S4) : V X d MX13_readTry 272 [(0, vR r0), (1, vI x1), (2, vI x2), (3, vI x3)] [] S Q := by
  refine V_aload_n (pc2 := 273) (dk D_X13_readTry 157 rfl) rfl (V_lg 0 rfl) rfl ?_
  obtain ⟨h1, h⟩ := h
  refine V_getR kc13 (pc2 := 276) 28 (dk D_X13_readTry 158 rfl) fl_13_128 (by decide) (fun _ => rfl) rfl h1 ?_
  refine V_iload_n (pc2 := 277) (dk D_X13_readTry 159 rfl) rfl (V_lg 1 rfl) rfl ?_
  refine V_aload_n (pc2 := 278) (dk D_X13_readTry 160 rfl) rfl (V_lg 0 rfl) rfl ?_
  refine V_getI kc13 (pc2 := 281) 17 (dk D_X13_readTry 161 rfl) fl_13_351 (by decide) (fun _ => rfl) rfl h1 ?_
  obtain ⟨h2, h⟩ := h
  obtain ⟨h3, h⟩ := h
  refine V_iast (pc2 := 282) (dk D_X13_readTry 162 rfl) rfl h2 h3 ?_
  have h := h _ rfl
  exact V_return (dk D_X13_readTry 163 rfl) rfl h
def L_X13_readE : List (Nat × Instr × Nat) := [(0, .aload_n 0, 1), (1, .invokestatic 419, 3), (4, .aload_n 0, 1), (5, .bipush 60, 2), (7, .invokevirtual 334, 3), (10, .ifCond .ne 16, 3), (13, .aload_n 0, 1), (14, .getfield 23, 3), (17, .aload_n 0, 1), (18, .getfield 331, 3), (21, .iaload, 1), (22, .iconst 5, 1), (23, .if_icmp .ne 42, 3), (26, .aload_n 0, 1), (27, .bipush 60, 2), (29, .invokevirtual 334, 3), (32, .ifCond .eq 8, 3), (35, .bipush 9, 2), (37, .goto 5, 3), (40, .bipush 10, 2), (42, .istore_n 1, 1), (43, .aload_n 0, 1), (44, .dup, 1), (45, .getfield 331, 3), (48, .iconst 1, 1), (49, .iadd, 1), (50, .putfield 331, 3), (53, .aload_n 0, 1), (54, .invokestatic 419, 3), (57, .aload_n 0, 1), (58, .iload_n 1, 1), (59, .iconst 0, 1), (60, .iconst 0, 1), (61, .invokevirtual 373, 3), (64, .istore_n 2, 1), (65, .return_, 1)]
theorem D_X13_readE : dOk cX13_readE L_X13_readE = true := by decide +kernel
theorem w_X13_readE_0 {X : Cx} {d : Nat} {S : Mem} {Q : Res → Mem → Prop} (r0 : Nat) (h : ∃ e1 : Nat, e1 + 1 ≤ d ∧ C X e1 MX13_readS [vR r0] S (TV Q fun  S4 => (isK S4 r0 13) ∧ ∃ e5 : Nat, e5 + 1 ≤ d ∧ C X e5 MX13_isSign [vR r0, vI 60] S4 (RI fun y8 S9 => ((¬ y8 = 0 → V X d MX13_readE 26 [(0, vR r0)] [] S9 Q) ∧ (y8 = 0 → (isK S9 r0 13) ∧ (isK S9 (gR S9 r0 5) 21) ∧ (vp_in (gI S9 r0 10) (gN S9 (gR S9 r0 5))) ∧ ((¬ (gI S9 (gR S9 r0 5) ((gI S9 r0 10) : Int32).toNatClampNeg) = 5 → V X d MX13_readE 65 [(0, vR r0)] [] S9 Q) ∧ ((gI S9 (gR S9 r0 5) ((gI S9 r0 10) : Int32).toNatClampNeg) = 5 → V X d MX13_readE 26 [(0, vR r0)] [] S9 Q))))))) : V X d MX13_readE 0 [(0, vR r0)] [] S Q := by
  refine V_aload_n (pc2 := 1) (dk D_X13_readE 0 rfl) rfl (V_lg 0 rfl) rfl ?_
  obtain ⟨e1, he2, hc3⟩ := h
  refine V_callST (as := [_]) (st := []) (M' := MX13_readS) (pc2 := 4) (dk D_X13_readE 1 rfl) ml_13_419 mv_X13_readS rfl rfl (Nat.le_of_ble_eq_true rfl) rfl (by decide) he2 hc3 (TV.k fun  S4 h => ?_)
  refine V_aload_n (pc2 := 5) (dk D_X13_readE 2 rfl) rfl (V_lg 0 rfl) rfl ?_
  refine V_bipush (x := 60) (pc2 := 7) (dk D_X13_readE 3 rfl) (by decide) rfl ?_
  obtain ⟨h10, h⟩ := h
  obtain ⟨e5, he6, hc7⟩ := h
  refine V_callV (as := [_]) (st := []) (M' := MX13_isSign) (ci := 13) (pc2 := 10) (dk D_X13_readE 4 rfl) ml_13_334 mv_X13_isSign rfl rfl (by decide) rfl (Nat.le_of_ble_eq_true rfl) rfl he6 h10 hc7 (RI.k fun y8 S9 h => ?_)
  refine V_ifne (tgt := 26) (pc2 := 13) (dk D_X13_readE 5 rfl) (by decide) rfl (fun q11 => ?_) (fun q11 => ?_)
  · have h := h.1 q11
    exact h
  · have h := h.2 q11
    refine V_aload_n (pc2 := 14) (dk D_X13_readE 6 rfl) rfl (V_lg 0 rfl) rfl ?_
    obtain ⟨h12, h⟩ := h
    refine V_getR kc13 (pc2 := 17) 5 (dk D_X13_readE 7 rfl) fl_13_23 (by decide) (fun _ => rfl) rfl h12 ?_
    refine V_aload_n (pc2 := 18) (dk D_X13_readE 8 rfl) rfl (V_lg 0 rfl) rfl ?_
    refine V_getI kc13 (pc2 := 21) 10 (dk D_X13_readE 9 rfl) fl_13_331 (by decide) (fun _ => rfl) rfl h12 ?_
    obtain ⟨h13, h⟩ := h
    obtain ⟨h14, h⟩ := h
    refine V_iald (pc2 := 22) (dk D_X13_readE 10 rfl) rfl h13 h14 ?_
    refine V_iconst (x := 5) (pc2 := 23) (dk D_X13_readE 11 rfl) (by decide) rfl ?_
    refine V_cmpne (tgt := 65) (pc2 := 26) (dk D_X13_readE 12 rfl) (by decide) rfl (fun q15 => ?_) (fun q15 => ?_)
    · have h := h.1 q15
      exact h
    · have h := h.2 q15
      exact h
theorem w_X13_readE_26 {X : Cx} {d : Nat} {S : Mem} {Q : Res → Mem → Prop} (r0 : Nat) (h : (isK S r0 13) ∧ ∃ e1 : Nat, e1 + 1 ≤ d ∧ C X e1 MX13_isSign [vR r0, vI 60] S (RI fun y4 S5 => ((y4 = 0 → V X d MX13_readE 42 [(0, vR r0)] [vI 10] S5 Q) ∧ (¬ y4 = 0 → V X d MX13_readE 42 [(0, vR r0)] [vI 9] S5 Q)))) : V X d MX13_readE 26 [(0, vR r0)] [] S Q := by
  refine V_aload_n (pc2 := 27) (dk D_X13_readE 13 rfl) rfl (V_lg 0 rfl) rfl ?_
  refine V_bipush (x := 60) (pc2 := 29) (dk D_X13_readE 14 rfl) (by decide) rfl ?_
  obtain ⟨h6, h⟩ := h
  obtain ⟨e1, he2, hc3⟩ := h
  refine V_callV (as := [_]) (st := []) (M' := MX13_isSign) (ci := 13) (pc2 := 32) (dk D_X13_readE 15 rfl) ml_13_334 mv_X13_isSign rfl rfl (by decide) rfl (Nat.le_of_ble_eq_true rfl) rfl he2 h6 hc3 (RI.k fun y4 S5 h => ?_)
  refine V_ifeq (tgt := 40) (pc2 := 35) (dk D_X13_readE 16 rfl) (by decide) rfl (fun q7 => ?_) (fun q7 => ?_)
  · have h := h.1 q7
    refine V_bipush (x := 10) (pc2 := 42) (dk D_X13_readE 19 rfl) (by decide) rfl ?_
    exact h
  · have h := h.2 q7
    refine V_bipush (x := 9) (pc2 := 37) (dk D_X13_readE 17 rfl) (by decide) rfl ?_
    refine V_goto (tgt := 42) (dk D_X13_readE 18 rfl) (by decide) ?_
    exact h
theorem w_X13_readE_42 {X : Cx} {d : Nat} {S : Mem} {Q : Res → Mem → Prop} (r0 : Nat) (t0 : Int32) (h : (isK S r0 13) ∧ ∀ S2 : Mem, S2 = uI S r0 10 ((gI S r0 10) + 1) → ∃ e3 : Nat, e3 + 1 ≤ d ∧ C X e3 MX13_readS [vR r0] S2 (TV Q fun  S6 => (isK S6 r0 13) ∧ ∃ e7 : Nat, e7 + 1 ≤ d ∧ C X e7 MX13_emit [vR r0, vI t0, vI 0, vI 0] S6 (RI fun y10 S11 => V X d MX13_readE 65 [(0, vR r0)] [] S11 Q))) : V X d MX13_readE 42 [(0, vR r0)] [vI t0] S Q := by
  refine V_istore_n (pc2 := 43) (lv2 := [(0, _), (1, _)]) (dk D_X13_readE 20 rfl) rfl (by decide) rfl rfl ?_
  refine V_aload_n (pc2 := 44) (dk D_X13_readE 21 rfl) rfl (V_lg 0 rfl) rfl ?_
  refine V_dup (pc2 := 45) (dk D_X13_readE 22 rfl) rfl rfl ?_
  obtain ⟨h1, h⟩ := h
  refine V_getI kc13 (pc2 := 48) 10 (dk D_X13_readE 23 rfl) fl_13_331 (by decide) (fun _ => rfl) rfl h1 ?_
  refine V_iconst (x := 1) (pc2 := 49) (dk D_X13_readE 24 rfl) (by decide) rfl ?_
  refine V_iadd (pc2 := 50) (dk D_X13_readE 25 rfl) rfl ?_
  refine V_putI kc13 (pc2 := 53) 10 (dk D_X13_readE 26 rfl) fl_13_331 (by decide) (Or.inl rfl) rfl rfl h1 ?_
  have h := h _ rfl
  refine V_aload_n (pc2 := 54) (dk D_X13_readE 27 rfl) rfl (V_lg 0 rfl) rfl ?_
  obtain ⟨e3, he4, hc5⟩ := h
  refine V_callST (as := [_]) (st := []) (M' := MX13_readS) (pc2 := 57) (dk D_X13_readE 28 rfl) ml_13_419 mv_X13_readS rfl rfl (Nat.le_of_ble_eq_true rfl) rfl (by decide) he4 hc5 (TV.k fun  S6 h => ?_)
  refine V_aload_n (pc2 := 58) (dk D_X13_readE 29 rfl) rfl (V_lg 0 rfl) rfl ?_
  refine V_iload_n (pc2 := 59) (dk D_X13_readE 30 rfl) rfl (V_lg 1 rfl) rfl ?_
  refine V_iconst (x := 0) (pc2 := 60) (dk D_X13_readE 31 rfl) (by decide) rfl ?_
  refine V_iconst (x := 0) (pc2 := 61) (dk D_X13_readE 32 rfl) (by decide) rfl ?_
  obtain ⟨h12, h⟩ := h
  obtain ⟨e7, he8, hc9⟩ := h
  refine V_callV (as := [_, _, _]) (st := []) (M' := MX13_emit) (ci := 13) (pc2 := 64) (dk D_X13_readE 33 rfl) ml_13_373 mv_X13_emit rfl rfl (by decide) rfl (Nat.le_of_ble_eq_true rfl) rfl he8 h12 hc9 (RI.k fun y10 S11 h => ?_)
  refine V_istore_n (pc2 := 65) (lv2 := [(0, _), (1, _), (2, _)]) (dk D_X13_readE 34 rfl) rfl (by decide) rfl rfl ?_
  refine V_pick [0] (lv2 := [(0, _)]) rfl ?_
  exact h
theorem w_X13_readE_65 {X : Cx} {d : Nat} {S : Mem} {Q : Res → Mem → Prop} (r0 : Nat) (h : Q (.inl none) S) : V X d MX13_readE 65 [(0, vR r0)] [] S Q := by
  exact V_return (dk D_X13_readE 35 rfl) rfl h
def L_X13_readS : List (Nat × Instr × Nat) := [(0, .aload_n 0, 1), (1, .invokestatic 422, 3), (4, .aload_n 0, 1), (5, .bipush 43, 2), (7, .invokevirtual 334, 3), (10, .ifCond .ne 12, 3), (13, .aload_n 0, 1), (14, .bipush 45, 2), (16, .invokevirtual 334, 3), (19, .ifCond .eq 43, 3), (22, .aload_n 0, 1), (23, .bipush 43, 2), (25, .invokevirtual 334, 3), (28, .ifCond .eq 7, 3), (31, .iconst 4, 1), (32, .goto 4, 3), (35, .iconst 5, 1), (36, .istore_n 1, 1), (37, .aload_n 0, 1), (38, .dup, 1), (39, .getfield 331, 3), (42, .iconst 1, 1), (43, .iadd, 1), (44, .putfield 331, 3), (47, .aload_n 0, 1), (48, .invokestatic 422, 3), (51, .aload_n 0, 1), (52, .iload_n 1, 1), (53, .iconst 0, 1), (54, .iconst 0, 1), (55, .invokevirtual 373, 3), (58, .istore_n 2, 1), (59, .goto (-55), 3), (62, .return_, 1)]
theorem D_X13_readS : dOk cX13_readS L_X13_readS = true := by decide +kernel
theorem w_X13_readS_0 {X : Cx} {d : Nat} {S : Mem} {Q : Res → Mem → Prop} (r0 : Nat) (h : ∃ e1 : Nat, e1 + 1 ≤ d ∧ C X e1 MX13_readT [vR r0] S (TV Q fun  S4 => V X d MX13_readS 4 [(0, vR r0)] [] S4 Q)) : V X d MX13_readS 0 [(0, vR r0)] [] S Q := by
  refine V_aload_n (pc2 := 1) (dk D_X13_readS 0 rfl) rfl (V_lg 0 rfl) rfl ?_
  obtain ⟨e1, he2, hc3⟩ := h
  refine V_callST (as := [_]) (st := []) (M' := MX13_readT) (pc2 := 4) (dk D_X13_readS 1 rfl) ml_13_422 mv_X13_readT rfl rfl (Nat.le_of_ble_eq_true rfl) rfl (by decide) he2 hc3 (TV.k fun  S4 h => ?_)
  exact h
theorem w_X13_readS_4 {X : Cx} {d : Nat} {S : Mem} {Q : Res → Mem → Prop} (r0 : Nat) (h : (isK S r0 13) ∧ ∃ e1 : Nat, e1 + 1 ≤ d ∧ C X e1 MX13_isSign [vR r0, vI 43] S (RI fun y4 S5 => ((¬ y4 = 0 → V X d MX13_readS 22 [(0, vR r0)] [] S5 Q) ∧ (y4 = 0 → (isK S5 r0 13) ∧ ∃ e8 : Nat, e8 + 1 ≤ d ∧ C X e8 MX13_isSign [vR r0, vI 45] S5 (RI fun y11 S12 => ((y11 = 0 → Q (.inl none) S12) ∧ (¬ y11 = 0 → V X d MX13_readS 22 [(0, vR r0)] [] S12 Q))))))) : V X d MX13_readS 4 [(0, vR r0)] [] S Q := by
  refine V_aload_n (pc2 := 5) (dk D_X13_readS 2 rfl) rfl (V_lg 0 rfl) rfl ?_
  refine V_bipush (x := 43) (pc2 := 7) (dk D_X13_readS 3 rfl) (by decide) rfl ?_
  obtain ⟨h6, h⟩ := h
  obtain ⟨e1, he2, hc3⟩ := h
  refine V_callV (as := [_]) (st := []) (M' := MX13_isSign) (ci := 13) (pc2 := 10) (dk D_X13_readS 4 rfl) ml_13_334 mv_X13_isSign rfl rfl (by decide) rfl (Nat.le_of_ble_eq_true rfl) rfl he2 h6 hc3 (RI.k fun y4 S5 h => ?_)
  refine V_ifne (tgt := 22) (pc2 := 13) (dk D_X13_readS 5 rfl) (by decide) rfl (fun q7 => ?_) (fun q7 => ?_)
  · have h := h.1 q7
    exact h
  · have h := h.2 q7
    refine V_aload_n (pc2 := 14) (dk D_X13_readS 6 rfl) rfl (V_lg 0 rfl) rfl ?_
    refine V_bipush (x := 45) (pc2 := 16) (dk D_X13_readS 7 rfl) (by decide) rfl ?_
    obtain ⟨h13, h⟩ := h
    obtain ⟨e8, he9, hc10⟩ := h
    refine V_callV (as := [_]) (st := []) (M' := MX13_isSign) (ci := 13) (pc2 := 19) (dk D_X13_readS 8 rfl) ml_13_334 mv_X13_isSign rfl rfl (by decide) rfl (Nat.le_of_ble_eq_true rfl) rfl he9 h13 hc10 (RI.k fun y11 S12 h => ?_)
    refine V_ifeq (tgt := 62) (pc2 := 22) (dk D_X13_readS 9 rfl) (by decide) rfl (fun q14 => ?_) (fun q14 => ?_)
    · have h := h.1 q14
      exact V_return (dk D_X13_readS 33 rfl) rfl h
    · have h := h.2 q14
      exact h
theorem w_X13_readS_22 {X : Cx} {d : Nat} {S : Mem} {Q : Res → Mem → Prop} (r0 : Nat) (h : (isK S r0 13) ∧ ∃ e1 : Nat, e1 + 1 ≤ d ∧ C X e1 MX13_isSign [vR r0, vI 43] S (RI fun y4 S5 => ((y4 = 0 → V X d MX13_readS 36 [(0, vR r0)] [vI 5] S5 Q) ∧ (¬ y4 = 0 → V X d MX13_readS 36 [(0, vR r0)] [vI 4] S5 Q)))) : V X d MX13_readS 22 [(0, vR r0)] [] S Q := by
  refine V_aload_n (pc2 := 23) (dk D_X13_readS 10 rfl) rfl (V_lg 0 rfl) rfl ?_
  refine V_bipush (x := 43) (pc2 := 25) (dk D_X13_readS 11 rfl) (by decide) rfl ?_
  obtain ⟨h6, h⟩ := h
  obtain ⟨e1, he2, hc3⟩ := h
  refine V_callV (as := [_]) (st := []) (M' := MX13_isSign) (ci := 13) (pc2 := 28) (dk D_X13_readS 12 rfl) ml_13_334 mv_X13_isSign rfl rfl (by decide) rfl (Nat.le_of_ble_eq_true rfl) rfl he2 h6 hc3 (RI.k fun y4 S5 h => ?_)
  refine V_ifeq (tgt := 35) (pc2 := 31) (dk D_X13_readS 13 rfl) (by decide) rfl (fun q7 => ?_) (fun q7 => ?_)
  · have h := h.1 q7
    refine V_iconst (x := 5) (pc2 := 36) (dk D_X13_readS 16 rfl) (by decide) rfl ?_
    exact h
  · have h := h.2 q7
    refine V_iconst (x := 4) (pc2 := 32) (dk D_X13_readS 14 rfl) (by decide) rfl ?_
    refine V_goto (tgt := 36) (dk D_X13_readS 15 rfl) (by decide) ?_
    exact h
theorem w_X13_readS_36 {X : Cx} {d : Nat} {S : Mem} {Q : Res → Mem → Prop} (r0 : Nat) (t0 : Int32) (h : (isK S r0 13) ∧ ∀ S2 : Mem, S2 = uI S r0 10 ((gI S r0 10) + 1) → ∃ e3 : Nat, e3 + 1 ≤ d ∧ C X e3 MX13_readT [vR r0] S2 (TV Q fun  S6 => (isK S6 r0 13) ∧ ∃ e7 : Nat, e7 + 1 ≤ d ∧ C X e7 MX13_emit [vR r0, vI t0, vI 0, vI 0] S6 (RI fun y10 S11 => V X d MX13_readS 4 [(0, vR r0)] [] S11 Q))) : V X d MX13_readS 36 [(0, vR r0)] [vI t0] S Q := by
  refine V_istore_n (pc2 := 37) (lv2 := [(0, _), (1, _)]) (dk D_X13_readS 17 rfl) rfl (by decide) rfl rfl ?_
  refine V_aload_n (pc2 := 38) (dk D_X13_readS 18 rfl) rfl (V_lg 0 rfl) rfl ?_
  refine V_dup (pc2 := 39) (dk D_X13_readS 19 rfl) rfl rfl ?_
  obtain ⟨h1, h⟩ := h
  refine V_getI kc13 (pc2 := 42) 10 (dk D_X13_readS 20 rfl) fl_13_331 (by decide) (fun _ => rfl) rfl h1 ?_
  refine V_iconst (x := 1) (pc2 := 43) (dk D_X13_readS 21 rfl) (by decide) rfl ?_
  refine V_iadd (pc2 := 44) (dk D_X13_readS 22 rfl) rfl ?_
  refine V_putI kc13 (pc2 := 47) 10 (dk D_X13_readS 23 rfl) fl_13_331 (by decide) (Or.inl rfl) rfl rfl h1 ?_
  have h := h _ rfl
  refine V_aload_n (pc2 := 48) (dk D_X13_readS 24 rfl) rfl (V_lg 0 rfl) rfl ?_
  obtain ⟨e3, he4, hc5⟩ := h
  refine V_callST (as := [_]) (st := []) (M' := MX13_readT) (pc2 := 51) (dk D_X13_readS 25 rfl) ml_13_422 mv_X13_readT rfl rfl (Nat.le_of_ble_eq_true rfl) rfl (by decide) he4 hc5 (TV.k fun  S6 h => ?_)
  refine V_aload_n (pc2 := 52) (dk D_X13_readS 26 rfl) rfl (V_lg 0 rfl) rfl ?_
  refine V_iload_n (pc2 := 53) (dk D_X13_readS 27 rfl) rfl (V_lg 1 rfl) rfl ?_
  refine V_iconst (x := 0) (pc2 := 54) (dk D_X13_readS 28 rfl) (by decide) rfl ?_
  refine V_iconst (x := 0) (pc2 := 55) (dk D_X13_readS 29 rfl) (by decide) rfl ?_
  obtain ⟨h12, h⟩ := h
  obtain ⟨e7, he8, hc9⟩ := h
  refine V_callV (as := [_, _, _]) (st := []) (M' := MX13_emit) (ci := 13) (pc2 := 58) (dk D_X13_readS 30 rfl) ml_13_373 mv_X13_emit rfl rfl (by decide) rfl (Nat.le_of_ble_eq_true rfl) rfl he8 h12 hc9 (RI.k fun y10 S11 h => ?_)
  refine V_istore_n (pc2 := 59) (lv2 := [(0, _), (1, _), (2, _)]) (dk D_X13_readS 31 rfl) rfl (by decide) rfl rfl ?_
  refine V_goto (tgt := 4) (dk D_X13_readS 32 rfl) (by decide) ?_
  refine V_pick [0] (lv2 := [(0, _)]) rfl ?_
  exact h
def L_X13_readT : List (Nat × Instr × Nat) := [(0, .aload_n 0, 1), (1, .invokestatic 425, 3), (4, .aload_n 0, 1), (5, .bipush 42, 2), (7, .invokevirtual 334, 3), (10, .ifCond .ne 21, 3), (13, .aload_n 0, 1), (14, .bipush 47, 2), (16, .invokevirtual 334, 3), (19, .ifCond .ne 12, 3), (22, .aload_n 0, 1), (23, .bipush 37, 2), (25, .invokevirtual 334, 3), (28, .ifCond .eq 59, 3), (31, .aload_n 0, 1), (32, .bipush 42, 2), (34, .invokevirtual 334, 3), (37, .ifCond .eq 8, 3), (40, .bipush 6, 2), (42, .goto 19, 3), (45, .aload_n 0, 1), (46, .bipush 47, 2), (48, .invokevirtual 334, 3), (51, .ifCond .eq 8, 3), (54, .bipush 7, 2), (56, .goto 5, 3), (59, .bipush 8, 2), (61, .istore_n 1, 1), (62, .aload_n 0, 1), (63, .dup, 1), (64, .getfield 331, 3), (67, .iconst 1, 1), (68, .iadd, 1), (69, .putfield 331, 3), (72, .aload_n 0, 1), (73, .invokestatic 425, 3), (76, .aload_n 0, 1), (77, .iload_n 1, 1), (78, .iconst 0, 1), (79, .iconst 0, 1), (80, .invokevirtual 373, 3), (83, .istore_n 2, 1), (84, .goto (-80), 3), (87, .return_, 1)]
theorem D_X13_readT : dOk cX13_readT L_X13_readT = true := by decide +kernel
theorem w_X13_readT_0 {X : Cx} {d : Nat} {S : Mem} {Q : Res → Mem → Prop} (r0 : Nat) (h : ∃ e1 : Nat, e1 + 1 ≤ d ∧ C X e1 MX13_readU [vR r0] S (TV Q fun  S4 => V X d MX13_readT 4 [(0, vR r0)] [] S4 Q)) : V X d MX13_readT 0 [(0, vR r0)] [] S Q := by
  refine V_aload_n (pc2 := 1) (dk D_X13_readT 0 rfl) rfl (V_lg 0 rfl) rfl ?_
  obtain ⟨e1, he2, hc3⟩ := h
  refine V_callST (as := [_]) (st := []) (M' := MX13_readU) (pc2 := 4) (dk D_X13_readT 1 rfl) ml_13_425 mv_X13_readU rfl rfl (Nat.le_of_ble_eq_true rfl) rfl (by decide) he2 hc3 (TV.k fun  S4 h => ?_)
  exact h
theorem w_X13_readT_4 {X : Cx} {d : Nat} {S : Mem} {Q : Res → Mem → Prop} (r0 : Nat) (h : (isK S r0 13) ∧ ∃ e1 : Nat, e1 + 1 ≤ d ∧ C X e1 MX13_isSign [vR r0, vI 42] S (RI fun y4 S5 => ((¬ y4 = 0 → V X d MX13_readT 31 [(0, vR r0)] [] S5 Q) ∧ (y4 = 0 → (isK S5 r0 13) ∧ ∃ e8 : Nat, e8 + 1 ≤ d ∧ C X e8 MX13_isSign [vR r0, vI 47] S5 (RI fun y11 S12 => ((¬ y11 = 0 → V X d MX13_readT 31 [(0, vR r0)] [] S12 Q) ∧ (y11 = 0 → (isK S12 r0 13) ∧ ∃ e15 : Nat, e15 + 1 ≤ d ∧ C X e15 MX13_isSign [vR r0, vI 37] S12 (RI fun y18 S19 => ((y18 = 0 → Q (.inl none) S19) ∧ (¬ y18 = 0 → V X d MX13_readT 31 [(0, vR r0)] [] S19 Q)))))))))) : V X d MX13_readT 4 [(0, vR r0)] [] S Q := by
  refine V_aload_n (pc2 := 5) (dk D_X13_readT 2 rfl) rfl (V_lg 0 rfl) rfl ?_
  refine V_bipush (x := 42) (pc2 := 7) (dk D_X13_readT 3 rfl) (by decide) rfl ?_
  obtain ⟨h6, h⟩ := h
  obtain ⟨e1, he2, hc3⟩ := h
  refine V_callV (as := [_]) (st := []) (M' := MX13_isSign) (ci := 13) (pc2 := 10) (dk D_X13_readT 4 rfl) ml_13_334 mv_X13_isSign rfl rfl (by decide) rfl (Nat.le_of_ble_eq_true rfl) rfl he2 h6 hc3 (RI.k fun y4 S5 h => ?_)
  refine V_ifne (tgt := 31) (pc2 := 13) (dk D_X13_readT 5 rfl) (by decide) rfl (fun q7 => ?_) (fun q7 => ?_)
  · have h := h.1 q7
    exact h
  · have h := h.2 q7
    refine V_aload_n (pc2 := 14) (dk D_X13_readT 6 rfl) rfl (V_lg 0 rfl) rfl ?_
    refine V_bipush (x := 47) (pc2 := 16) (dk D_X13_readT 7 rfl) (by decide) rfl ?_
    obtain ⟨h13, h⟩ := h
    obtain ⟨e8, he9, hc10⟩ := h
    refine V_callV (as := [_]) (st := []) (M' := MX13_isSign) (ci := 13) (pc2 := 19) (dk D_X13_readT 8 rfl) ml_13_334 mv_X13_isSign rfl rfl (by decide) rfl (Nat.le_of_ble_eq_true rfl) rfl he9 h13 hc10 (RI.k fun y11 S12 h => ?_)
    refine V_ifne (tgt := 31) (pc2 := 22) (dk D_X13_readT 9 rfl) (by decide) rfl (fun q14 => ?_) (fun q14 => ?_)
    · have h := h.1 q14
      exact h
    · have h := h.2 q14
      refine V_aload_n (pc2 := 23) (dk D_X13_readT 10 rfl) rfl (V_lg 0 rfl) rfl ?_
      refine V_bipush (x := 37) (pc2 := 25) (dk D_X13_readT 11 rfl) (by decide) rfl ?_
      obtain ⟨h20, h⟩ := h
      obtain ⟨e15, he16, hc17⟩ := h
      refine V_callV (as := [_]) (st := []) (M' := MX13_isSign) (ci := 13) (pc2 := 28) (dk D_X13_readT 12 rfl) ml_13_334 mv_X13_isSign rfl rfl (by decide) rfl (Nat.le_of_ble_eq_true rfl) rfl he16 h20 hc17 (RI.k fun y18 S19 h => ?_)
      refine V_ifeq (tgt := 87) (pc2 := 31) (dk D_X13_readT 13 rfl) (by decide) rfl (fun q21 => ?_) (fun q21 => ?_)
      · have h := h.1 q21
        exact V_return (dk D_X13_readT 43 rfl) rfl h
      · have h := h.2 q21
        exact h
theorem w_X13_readT_31 {X : Cx} {d : Nat} {S : Mem} {Q : Res → Mem → Prop} (r0 : Nat) (h : (isK S r0 13) ∧ ∃ e1 : Nat, e1 + 1 ≤ d ∧ C X e1 MX13_isSign [vR r0, vI 42] S (RI fun y4 S5 => ((y4 = 0 → (isK S5 r0 13) ∧ ∃ e8 : Nat, e8 + 1 ≤ d ∧ C X e8 MX13_isSign [vR r0, vI 47] S5 (RI fun y11 S12 => ((y11 = 0 → V X d MX13_readT 61 [(0, vR r0)] [vI 8] S12 Q) ∧ (¬ y11 = 0 → V X d MX13_readT 61 [(0, vR r0)] [vI 7] S12 Q)))) ∧ (¬ y4 = 0 → V X d MX13_readT 61 [(0, vR r0)] [vI 6] S5 Q)))) : V X d MX13_readT 31 [(0, vR r0)] [] S Q := by
  refine V_aload_n (pc2 := 32) (dk D_X13_readT 14 rfl) rfl (V_lg 0 rfl) rfl ?_
  refine V_bipush (x := 42) (pc2 := 34) (dk D_X13_readT 15 rfl) (by decide) rfl ?_
  obtain ⟨h6, h⟩ := h
  obtain ⟨e1, he2, hc3⟩ := h
  refine V_callV (as := [_]) (st := []) (M' := MX13_isSign) (ci := 13) (pc2 := 37) (dk D_X13_readT 16 rfl) ml_13_334 mv_X13_isSign rfl rfl (by decide) rfl (Nat.le_of_ble_eq_true rfl) rfl he2 h6 hc3 (RI.k fun y4 S5 h => ?_)
  refine V_ifeq (tgt := 45) (pc2 := 40) (dk D_X13_readT 17 rfl) (by decide) rfl (fun q7 => ?_) (fun q7 => ?_)
  · have h := h.1 q7
    refine V_aload_n (pc2 := 46) (dk D_X13_readT 20 rfl) rfl (V_lg 0 rfl) rfl ?_
    refine V_bipush (x := 47) (pc2 := 48) (dk D_X13_readT 21 rfl) (by decide) rfl ?_
    obtain ⟨h13, h⟩ := h
    obtain ⟨e8, he9, hc10⟩ := h
    refine V_callV (as := [_]) (st := []) (M' := MX13_isSign) (ci := 13) (pc2 := 51) (dk D_X13_readT 22 rfl) ml_13_334 mv_X13_isSign rfl rfl (by decide) rfl (Nat.le_of_ble_eq_true rfl) rfl he9 h13 hc10 (RI.k fun y11 S12 h => ?_)
    refine V_ifeq (tgt := 59) (pc2 := 54) (dk D_X13_readT 23 rfl) (by decide) rfl (fun q14 => ?_) (fun q14 => ?_)
    · have h := h.1 q14
      refine V_bipush (x := 8) (pc2 := 61) (dk D_X13_readT 26 rfl) (by decide) rfl ?_
      exact h
    · have h := h.2 q14
      refine V_bipush (x := 7) (pc2 := 56) (dk D_X13_readT 24 rfl) (by decide) rfl ?_
      refine V_goto (tgt := 61) (dk D_X13_readT 25 rfl) (by decide) ?_
      exact h
  · have h := h.2 q7
    refine V_bipush (x := 6) (pc2 := 42) (dk D_X13_readT 18 rfl) (by decide) rfl ?_
    refine V_goto (tgt := 61) (dk D_X13_readT 19 rfl) (by decide) ?_
    exact h
theorem w_X13_readT_61 {X : Cx} {d : Nat} {S : Mem} {Q : Res → Mem → Prop} (r0 : Nat) (t0 : Int32) (h : (isK S r0 13) ∧ ∀ S2 : Mem, S2 = uI S r0 10 ((gI S r0 10) + 1) → ∃ e3 : Nat, e3 + 1 ≤ d ∧ C X e3 MX13_readU [vR r0] S2 (TV Q fun  S6 => (isK S6 r0 13) ∧ ∃ e7 : Nat, e7 + 1 ≤ d ∧ C X e7 MX13_emit [vR r0, vI t0, vI 0, vI 0] S6 (RI fun y10 S11 => V X d MX13_readT 4 [(0, vR r0)] [] S11 Q))) : V X d MX13_readT 61 [(0, vR r0)] [vI t0] S Q := by
  refine V_istore_n (pc2 := 62) (lv2 := [(0, _), (1, _)]) (dk D_X13_readT 27 rfl) rfl (by decide) rfl rfl ?_
  refine V_aload_n (pc2 := 63) (dk D_X13_readT 28 rfl) rfl (V_lg 0 rfl) rfl ?_
  refine V_dup (pc2 := 64) (dk D_X13_readT 29 rfl) rfl rfl ?_
  obtain ⟨h1, h⟩ := h
  refine V_getI kc13 (pc2 := 67) 10 (dk D_X13_readT 30 rfl) fl_13_331 (by decide) (fun _ => rfl) rfl h1 ?_
  refine V_iconst (x := 1) (pc2 := 68) (dk D_X13_readT 31 rfl) (by decide) rfl ?_
  refine V_iadd (pc2 := 69) (dk D_X13_readT 32 rfl) rfl ?_
  refine V_putI kc13 (pc2 := 72) 10 (dk D_X13_readT 33 rfl) fl_13_331 (by decide) (Or.inl rfl) rfl rfl h1 ?_
  have h := h _ rfl
  refine V_aload_n (pc2 := 73) (dk D_X13_readT 34 rfl) rfl (V_lg 0 rfl) rfl ?_
  obtain ⟨e3, he4, hc5⟩ := h
  refine V_callST (as := [_]) (st := []) (M' := MX13_readU) (pc2 := 76) (dk D_X13_readT 35 rfl) ml_13_425 mv_X13_readU rfl rfl (Nat.le_of_ble_eq_true rfl) rfl (by decide) he4 hc5 (TV.k fun  S6 h => ?_)
  refine V_aload_n (pc2 := 77) (dk D_X13_readT 36 rfl) rfl (V_lg 0 rfl) rfl ?_
  refine V_iload_n (pc2 := 78) (dk D_X13_readT 37 rfl) rfl (V_lg 1 rfl) rfl ?_
  refine V_iconst (x := 0) (pc2 := 79) (dk D_X13_readT 38 rfl) (by decide) rfl ?_
  refine V_iconst (x := 0) (pc2 := 80) (dk D_X13_readT 39 rfl) (by decide) rfl ?_
  obtain ⟨h12, h⟩ := h
  obtain ⟨e7, he8, hc9⟩ := h
  refine V_callV (as := [_, _, _]) (st := []) (M' := MX13_emit) (ci := 13) (pc2 := 83) (dk D_X13_readT 40 rfl) ml_13_373 mv_X13_emit rfl rfl (by decide) rfl (Nat.le_of_ble_eq_true rfl) rfl he8 h12 hc9 (RI.k fun y10 S11 h => ?_)
  refine V_istore_n (pc2 := 84) (lv2 := [(0, _), (1, _), (2, _)]) (dk D_X13_readT 41 rfl) rfl (by decide) rfl rfl ?_
  refine V_goto (tgt := 4) (dk D_X13_readT 42 rfl) (by decide) ?_
  refine V_pick [0] (lv2 := [(0, _)]) rfl ?_
  exact h
def L_X13_readU : List (Nat × Instr × Nat) := [(0, .aload_n 0, 1), (1, .bipush 45, 2), (3, .invokevirtual 334, 3), (6, .ifCond .ne 12, 3), (9, .aload_n 0, 1), (10, .bipush 33, 2), (12, .invokevirtual 334, 3), (15, .ifCond .eq 49, 3), (18, .aload_n 0, 1), (19, .bipush 45, 2), (21, .invokevirtual 334, 3), (24, .ifCond .eq 8, 3), (27, .bipush 11, 2), (29, .goto 5, 3), (32, .bipush 12, 2), (34, .istore_n 1, 1), (35, .aload_n 0, 1), (36, .invokevirtual 363, 3), (39, .aload_n 0, 1), (40, .invokestatic 425, 3), (43, .aload_n 0, 1), (44, .dup, 1), (45, .getfield 345, 3), (48, .iconst 1, 1), (49, .isub, 1), (50, .putfield 345, 3), (53, .aload_n 0, 1), (54, .iload_n 1, 1), (55, .iconst 0, 1), (56, .iconst 0, 1), (57, .invokevirtual 373, 3), (60, .istore_n 1, 1), (61, .goto 7, 3), (64, .aload_n 0, 1), (65, .invokestatic 428, 3), (68, .return_, 1)]
theorem D_X13_readU : dOk cX13_readU L_X13_readU = true := by decide +kernel
theorem w_X13_readU_0 {X : Cx} {d : Nat} {S : Mem} {Q : Res → Mem → Prop} (r0 : Nat) (h : (isK S r0 13) ∧ ∃ e1 : Nat, e1 + 1 ≤ d ∧ C X e1 MX13_isSign [vR r0, vI 45] S (RI fun y4 S5 => ((¬ y4 = 0 → V X d MX13_readU 18 [(0, vR r0)] [] S5 Q) ∧ (y4 = 0 → (isK S5 r0 13) ∧ ∃ e8 : Nat, e8 + 1 ≤ d ∧ C X e8 MX13_isSign [vR r0, vI 33] S5 (RI fun y11 S12 => ((y11 = 0 → ∃ e15 : Nat, e15 + 1 ≤ d ∧ C X e15 MX13_readP [vR r0] S12 (TV Q fun  S18 => V X d MX13_readU 68 [(0, vR r0)] [] S18 Q)) ∧ (¬ y11 = 0 → V X d MX13_readU 18 [(0, vR r0)] [] S12 Q))))))) : V X d MX13_readU 0 [(0, vR r0)] [] S Q := by
  refine V_aload_n (pc2 := 1) (dk D_X13_readU 0 rfl) rfl (V_lg 0 rfl) rfl ?_
  refine V_bipush (x := 45) (pc2 := 3) (dk D_X13_readU 1 rfl) (by decide) rfl ?_
  obtain ⟨h6, h⟩ := h
  obtain ⟨e1, he2, hc3⟩ := h
  refine V_callV (as := [_]) (st := []) (M' := MX13_isSign) (ci := 13) (pc2 := 6) (dk D_X13_readU 2 rfl) ml_13_334 mv_X13_isSign rfl rfl (by decide) rfl (Nat.le_of_ble_eq_true rfl) rfl he2 h6 hc3 (RI.k fun y4 S5 h => ?_)
  refine V_ifne (tgt := 18) (pc2 := 9) (dk D_X13_readU 3 rfl) (by decide) rfl (fun q7 => ?_) (fun q7 => ?_)
  · have h := h.1 q7
    exact h
  · have h := h.2 q7
    refine V_aload_n (pc2 := 10) (dk D_X13_readU 4 rfl) rfl (V_lg 0 rfl) rfl ?_
    refine V_bipush (x := 33) (pc2 := 12) (dk D_X13_readU 5 rfl) (by decide) rfl ?_
    obtain ⟨h13, h⟩ := h
    obtain ⟨e8, he9, hc10⟩ := h
    refine V_callV (as := [_]) (st := []) (M' := MX13_isSign) (ci := 13) (pc2 := 15) (dk D_X13_readU 6 rfl) ml_13_334 mv_X13_isSign rfl rfl (by decide) rfl (Nat.le_of_ble_eq_true rfl) rfl he9 h13 hc10 (RI.k fun y11 S12 h => ?_)
    refine V_ifeq (tgt := 64) (pc2 := 18) (dk D_X13_readU 7 rfl) (by decide) rfl (fun q14 => ?_) (fun q14 => ?_)
    · have h := h.1 q14
      refine V_aload_n (pc2 := 65) (dk D_X13_readU 33 rfl) rfl (V_lg 0 rfl) rfl ?_
      obtain ⟨e15, he16, hc17⟩ := h
      refine V_callST (as := [_]) (st := []) (M' := MX13_readP) (pc2 := 68) (dk D_X13_readU 34 rfl) ml_13_428 mv_X13_readP rfl rfl (Nat.le_of_ble_eq_true rfl) rfl (by decide) he16 hc17 (TV.k fun  S18 h => ?_)
      exact h
    · have h := h.2 q14
      exact h
theorem w_X13_readU_18 {X : Cx} {d : Nat} {S : Mem} {Q : Res → Mem → Prop} (r0 : Nat) (h : (isK S r0 13) ∧ ∃ e1 : Nat, e1 + 1 ≤ d ∧ C X e1 MX13_isSign [vR r0, vI 45] S (RI fun y4 S5 => ((y4 = 0 → V X d MX13_readU 34 [(0, vR r0)] [vI 12] S5 Q) ∧ (¬ y4 = 0 → V X d MX13_readU 34 [(0, vR r0)] [vI 11] S5 Q)))) : V X d MX13_readU 18 [(0, vR r0)] [] S Q := by
  refine V_aload_n (pc2 := 19) (dk D_X13_readU 8 rfl) rfl (V_lg 0 rfl) rfl ?_
  refine V_bipush (x := 45) (pc2 := 21) (dk D_X13_readU 9 rfl) (by decide) rfl ?_
  obtain ⟨h6, h⟩ := h
  obtain ⟨e1, he2, hc3⟩ := h
  refine V_callV (as := [_]) (st := []) (M' := MX13_isSign) (ci := 13) (pc2 := 24) (dk D_X13_readU 10 rfl) ml_13_334 mv_X13_isSign rfl rfl (by decide) rfl (Nat.le_of_ble_eq_true rfl) rfl he2 h6 hc3 (RI.k fun y4 S5 h => ?_)
  refine V_ifeq (tgt := 32) (pc2 := 27) (dk D_X13_readU 11 rfl) (by decide) rfl (fun q7 => ?_) (fun q7 => ?_)
  · have h := h.1 q7
    refine V_bipush (x := 12) (pc2 := 34) (dk D_X13_readU 14 rfl) (by decide) rfl ?_
    exact h
  · have h := h.2 q7
    refine V_bipush (x := 11) (pc2 := 29) (dk D_X13_readU 12 rfl) (by decide) rfl ?_
    refine V_goto (tgt := 34) (dk D_X13_readU 13 rfl) (by decide) ?_
    exact h
theorem w_X13_readU_34 {X : Cx} {d : Nat} {S : Mem} {Q : Res → Mem → Prop} (r0 : Nat) (t0 : Int32) (h : (isK S r0 13) ∧ ∃ e1 : Nat, e1 + 1 ≤ d ∧ C X e1 MX13_opens [vR r0] S (TV Q fun  S4 => ∃ e6 : Nat, e6 + 1 ≤ d ∧ C X e6 MX13_readU [vR r0] S4 (TV Q fun  S9 => (isK S9 r0 13) ∧ ∀ S11 : Mem, S11 = uI S9 r0 12 ((gI S9 r0 12) - 1) → ∃ e12 : Nat, e12 + 1 ≤ d ∧ C X e12 MX13_emit [vR r0, vI t0, vI 0, vI 0] S11 (RI fun y15 S16 => V X d MX13_readU 68 [(0, vR r0)] [] S16 Q)))) : V X d MX13_readU 34 [(0, vR r0)] [vI t0] S Q := by
  refine V_istore_n (pc2 := 35) (lv2 := [(0, _), (1, _)]) (dk D_X13_readU 15 rfl) rfl (by decide) rfl rfl ?_
  refine V_aload_n (pc2 := 36) (dk D_X13_readU 16 rfl) rfl (V_lg 0 rfl) rfl ?_
  obtain ⟨h5, h⟩ := h
  obtain ⟨e1, he2, hc3⟩ := h
  refine V_callVT (as := []) (st := []) (M' := MX13_opens) (ci := 13) (pc2 := 39) (dk D_X13_readU 17 rfl) ml_13_363 mv_X13_opens rfl rfl (by decide) rfl (Nat.le_of_ble_eq_true rfl) rfl (by decide) he2 h5 hc3 (TV.k fun  S4 h => ?_)
  refine V_aload_n (pc2 := 40) (dk D_X13_readU 18 rfl) rfl (V_lg 0 rfl) rfl ?_
  obtain ⟨e6, he7, hc8⟩ := h
  refine V_callST (as := [_]) (st := []) (M' := MX13_readU) (pc2 := 43) (dk D_X13_readU 19 rfl) ml_13_425 mv_X13_readU rfl rfl (Nat.le_of_ble_eq_true rfl) rfl (by decide) he7 hc8 (TV.k fun  S9 h => ?_)
  refine V_aload_n (pc2 := 44) (dk D_X13_readU 20 rfl) rfl (V_lg 0 rfl) rfl ?_
  refine V_dup (pc2 := 45) (dk D_X13_readU 21 rfl) rfl rfl ?_
  obtain ⟨h10, h⟩ := h
  refine V_getI kc13 (pc2 := 48) 12 (dk D_X13_readU 22 rfl) fl_13_345 (by decide) (fun _ => rfl) rfl h10 ?_
  refine V_iconst (x := 1) (pc2 := 49) (dk D_X13_readU 23 rfl) (by decide) rfl ?_
  refine V_isub (pc2 := 50) (dk D_X13_readU 24 rfl) rfl ?_
  refine V_putI kc13 (pc2 := 53) 12 (dk D_X13_readU 25 rfl) fl_13_345 (by decide) (Or.inl rfl) rfl rfl h10 ?_
  have h := h _ rfl
  refine V_aload_n (pc2 := 54) (dk D_X13_readU 26 rfl) rfl (V_lg 0 rfl) rfl ?_
  refine V_iload_n (pc2 := 55) (dk D_X13_readU 27 rfl) rfl (V_lg 1 rfl) rfl ?_
  refine V_iconst (x := 0) (pc2 := 56) (dk D_X13_readU 28 rfl) (by decide) rfl ?_
  refine V_iconst (x := 0) (pc2 := 57) (dk D_X13_readU 29 rfl) (by decide) rfl ?_
  obtain ⟨e12, he13, hc14⟩ := h
  refine V_callV (as := [_, _, _]) (st := []) (M' := MX13_emit) (ci := 13) (pc2 := 60) (dk D_X13_readU 30 rfl) ml_13_373 mv_X13_emit rfl rfl (by decide) rfl (Nat.le_of_ble_eq_true rfl) rfl he13 h10 hc14 (RI.k fun y15 S16 h => ?_)
  refine V_istore_n (pc2 := 61) (lv2 := [(0, _), (1, _)]) (dk D_X13_readU 31 rfl) rfl (by decide) rfl rfl ?_
  refine V_goto (tgt := 68) (dk D_X13_readU 32 rfl) (by decide) ?_
  refine V_pick [0] (lv2 := [(0, _)]) rfl ?_
  exact h
theorem w_X13_readU_68 {X : Cx} {d : Nat} {S : Mem} {Q : Res → Mem → Prop} (r0 : Nat) (h : Q (.inl none) S) : V X d MX13_readU 68 [(0, vR r0)] [] S Q := by
  exact V_return (dk D_X13_readU 35 rfl) rfl h
def L_X13_readP : List (Nat × Instr × Nat) := [(0, .aload_n 0, 1), (1, .getfield 23, 3), (4, .aload_n 0, 1), (5, .getfield 331, 3), (8, .iaload, 1), (9, .iconst 2, 1), (10, .if_icmp .ne 17, 3), (13, .aload_n 0, 1), (14, .iconst 1, 1), (15, .aload_n 0, 1), (16, .invokevirtual 386, 3), (19, .iconst 0, 1), (20, .invokevirtual 373, 3), (23, .istore_n 1, 1), (24, .goto 523, 3), (27, .aload_n 0, 1), (28, .getfield 23, 3), (31, .aload_n 0, 1), (32, .getfield 331, 3), (35, .iaload, 1), (36, .iconst 1, 1), (37, .if_icmp .ne 147, 3), (40, .aload_n 0, 1), (41, .invokevirtual 399, 3), (44, .istore_n 2, 1), (45, .aload_n 0, 1), (46, .bipush 40, 2), (48, .invokevirtual 334, 3), (51, .ifCond .eq 92, 3), (54, .aload_n 0, 1), (55, .invokevirtual 363, 3), (58, .iconst 0, 1), (59, .istore_n 3, 1), (60, .aload_n 0, 1), (61, .bipush 41, 2), (63, .invokevirtual 334, 3), (66, .ifCond .eq 14, 3), (69, .iload_n 3, 1), (70, .ifCond .le 48, 3), (73, .aload_n 0, 1), (74, .invokestatic 431, 3), (77, .ifCond .eq 41, 3), (80, .iload_n 3, 1), (81, .ifCond .le 9, 3), (84, .aload_n 0, 1), (85, .bipush 44, 2), (87, .invokevirtual 348, 3), (90, .iload_n 3, 1), (91, .iconst 4, 1), (92, .if_icmp .ne 16, 3), (95, .aload_n 0, 1), (96, .aload_n 0, 1), (97, .getfield 27, 3), (100, .aload_n 0, 1), (101, .getfield 331, 3), (104, .iaload, 1), (105, .invokevirtual 337, 3), (108, .aload_n 0, 1), (109, .invokestatic 377, 3), (112, .iinc 3 1, 3), (115, .goto (-55), 3), (118, .aload_n 0, 1), (119, .bipush 41, 2), (121, .invokevirtual 370, 3), (124, .aload_n 0, 1), (125, .bipush 20, 2), (127, .iconst 0, 1), (128, .iload_n 3, 1), (129, .invokevirtual 373, 3), (132, .istore_n 1, 1), (133, .aload_n 0, 1), (134, .iload_n 1, 1), (135, .iload_n 2, 1), (136, .iload_n 3, 1), (137, .invokevirtual 435, 3), (140, .goto 41, 3), (143, .aload_n 0, 1), (144, .iconst 2, 1), (145, .iconst 0, 1), (146, .iconst 0, 1), (147, .invokevirtual 373, 3), (150, .istore_n 1, 1), (151, .aload_n 0, 1), (152, .getfield 152, 3), (155, .aload_n 0, 1), (156, .getfield 439, 3), (159, .iload_n 1, 1), (160, .iastore, 1), (161, .aload_n 0, 1), (162, .getfield 155, 3), (165, .aload_n 0, 1), (166, .getfield 439, 3), (169, .iload_n 2, 1), (170, .iastore, 1), (171, .aload_n 0, 1), (172, .dup, 1), (173, .getfield 439, 3), (176, .iconst 1, 1), (177, .iadd, 1), (178, .putfield 439, 3), (181, .goto 366, 3), (184, .aload_n 0, 1), (185, .bipush 40, 2), (187, .invokevirtual 334, 3), (190, .ifCond .eq 20, 3), (193, .aload_n 0, 1), (194, .invokevirtual 363, 3), (197, .aload_n 0, 1), (198, .invokestatic 377, 3), (201, .aload_n 0, 1), (202, .bipush 41, 2), (204, .invokevirtual 370, 3), (207, .goto 340, 3), (210, .aload_n 0, 1), (211, .ldc 80, 2), (213, .invokevirtual 341, 3), (216, .ifCond .eq 25, 3), (219, .aload_n 0, 1), (220, .dup, 1), (221, .getfield 331, 3), (224, .iconst 1, 1), (225, .iadd, 1), (226, .putfield 331, 3), (229, .aload_n 0, 1), (230, .bipush 13, 2), (232, .iconst 0, 1), (233, .iconst 0, 1), (234, .invokevirtual 373, 3), (237, .istore_n 1, 1), (238, .goto 309, 3), (241, .aload_n 0, 1), (242, .ldc 82, 2), (244, .invokevirtual 341, 3), (247, .ifCond .ne 12, 3), (250, .aload_n 0, 1), (251, .ldc 64, 2), (253, .invokevirtual 341, 3), (256, .ifCond .eq 49, 3), (259, .aload_n 0, 1), (260, .ldc 82, 2), (262, .invokevirtual 341, 3), (265, .ifCond .eq 8, 3), (268, .bipush 14, 2), (270, .goto 5, 3), (273, .bipush 15, 2), (275, .istore_n 2, 1), (276, .aload_n 0, 1), (277, .invokevirtual 363, 3), (280, .aload_n 0, 1), (281, .invokestatic 425, 3), (284, .aload_n 0, 1), (285, .dup, 1), (286, .getfield 345, 3), (289, .iconst 1, 1), (290, .isub, 1), (291, .putfield 345, 3), (294, .aload_n 0, 1), (295, .iload_n 2, 1), (296, .iconst 0, 1), (297, .iconst 0, 1), (298, .invokevirtual 373, 3), (301, .istore_n 1, 1), (302, .goto 245, 3), (305, .aload_n 0, 1), (306, .ldc 66, 2), (308, .invokevirtual 341, 3), (311, .ifCond .eq 86, 3), (314, .aload_n 0, 1), (315, .dup, 1), (316, .getfield 331, 3), (319, .iconst 1, 1), (320, .iadd, 1), (321, .putfield 331, 3), (324, .aload_n 0, 1), (325, .invokevirtual 399, 3), (328, .istore_n 2, 1), (329, .aload_n 0, 1), (330, .bipush 40, 2), (332, .invokevirtual 334, 3), (335, .ifCond .ne 16, 3), (338, .aload_n 0, 1), (339, .aload_n 0, 1), (340, .getfield 27, 3), (343, .aload_n 0, 1), (344, .getfield 331, 3), (347, .iaload, 1), (348, .invokevirtual 337, 3), (351, .aload_n 0, 1), (352, .invokevirtual 363, 3), (355, .iconst 0, 1), (356, .istore_n 3, 1), (357, .aload_n 0, 1), (358, .bipush 41, 2), (360, .invokevirtual 334, 3), (363, .ifCond .ne 9, 3), (366, .aload_n 0, 1), (367, .invokestatic 377, 3), (370, .iconst 1, 1), (371, .istore_n 3, 1), (372, .aload_n 0, 1), (373, .bipush 41, 2), (375, .invokevirtual 370, 3), (378, .aload_n 0, 1), (379, .bipush 16, 2), (381, .iconst 0, 1), (382, .iload_n 3, 1), (383, .invokevirtual 373, 3), (386, .istore_n 1, 1), (387, .aload_n 0, 1), (388, .iload_n 1, 1), (389, .iload_n 2, 1), (390, .iload_n 3, 1), (391, .invokevirtual 435, 3), (394, .goto 153, 3), (397, .aload_n 0, 1), (398, .ldc 68, 2), (400, .invokevirtual 341, 3), (403, .ifCond .ne 12, 3), (406, .aload_n 0, 1), (407, .ldc 74, 2), (409, .invokevirtual 341, 3), (412, .ifCond .eq 59, 3), (415, .aload_n 0, 1), (416, .ldc 68, 2), (418, .invokevirtual 341, 3), (421, .ifCond .eq 8, 3), (424, .bipush 17, 2), (426, .goto 5, 3), (429, .bipush 19, 2), (431, .istore_n 2, 1), (432, .aload_n 0, 1), (433, .invokevirtual 363, 3), (436, .aload_n 0, 1), (437, .invokestatic 425, 3), (440, .aload_n 0, 1), (441, .ldc 76, 2), (443, .invokevirtual 406, 3), (446, .aload_n 0, 1), (447, .invokestatic 425, 3), (450, .aload_n 0, 1), (451, .dup, 1), (452, .getfield 345, 3), (455, .iconst 1, 1), (456, .isub, 1), (457, .putfield 345, 3), (460, .aload_n 0, 1), (461, .iload_n 2, 1), (462, .iconst 0, 1), (463, .iconst 0, 1), (464, .invokevirtual 373, 3), (467, .istore_n 1, 1), (468, .goto 79, 3), (471, .aload_n 0, 1), (472, .ldc 70, 2), (474, .invokevirtual 341, 3), (477, .ifCond .eq 57, 3), (480, .aload_n 0, 1), (481, .invokevirtual 363, 3), (484, .aload_n 0, 1), (485, .invokevirtual 386, 3), (488, .istore_n 2, 1), (489, .aload_n 0, 1), (490, .ldc 78, 2), (492, .invokevirtual 406, 3), (495, .aload_n 0, 1), (496, .invokestatic 425, 3), (499, .aload_n 0, 1), (500, .ldc 76, 2), (502, .invokevirtual 406, 3), (505, .aload_n 0, 1), (506, .invokestatic 425, 3), (509, .aload_n 0, 1), (510, .dup, 1), (511, .getfield 345, 3), (514, .iconst 1, 1), (515, .isub, 1), (516, .putfield 345, 3), (519, .aload_n 0, 1), (520, .bipush 18, 2), (522, .iload_n 2, 1), (523, .bipush 10, 2), (525, .irem, 1), (526, .iconst 0, 1), (527, .invokevirtual 373, 3), (530, .istore_n 1, 1), (531, .goto 16, 3), (534, .aload_n 0, 1), (535, .aload_n 0, 1), (536, .getfield 27, 3), (539, .aload_n 0, 1), (540, .getfield 331, 3), (543, .iaload, 1), (544, .invokevirtual 337, 3), (547, .return_, 1)]
theorem D_X13_readP : dOk cX13_readP L_X13_readP = true := by decide +kernel
set_option maxRecDepth 100000 in
theorem w_X13_readP_0 {X : Cx} {d : Nat} {S : Mem} {Q : Res → Mem → Prop} (r0 : Nat) (h : (isK S r0 13) ∧ (isK S (gR S r0 5) 21) ∧ (vp_in (gI S r0 10) (gN S (gR S r0 5))) ∧ ((¬ (gI S (gR S r0 5) ((gI S r0 10) : Int32).toNatClampNeg) = 2 → (vp_in (gI S r0 10) (gN S (gR S r0 5))) ∧ ((¬ (gI S (gR S r0 5) ((gI S r0 10) : Int32).toNatClampNeg) = 1 → ∃ e7 : Nat, e7 + 1 ≤ d ∧ C X e7 MX13_isSign [vR r0, vI 40] S (RI fun y10 S11 => ((y10 = 0 → (isK S11 r0 13) ∧ ∃ e13 : Nat, e13 + 1 ≤ d ∧ C X e13 MX13_isWord [vR r0, vR 23] S11 (RI fun y16 S17 => ((y16 = 0 → (isK S17 r0 13) ∧ ∃ e20 : Nat, e20 + 1 ≤ d ∧ C X e20 MX13_isWord [vR r0, vR 24] S17 (RI fun y23 S24 => ((¬ y23 = 0 → V X d MX13_readP 259 [(0, vR r0)] [] S24 Q) ∧ (y23 = 0 → (isK S24 r0 13) ∧ ∃ e27 : Nat, e27 + 1 ≤ d ∧ C X e27 MX13_isWord [vR r0, vR 15] S24 (RI fun y30 S31 => ((y30 = 0 → (isK S31 r0 13) ∧ ∃ e34 : Nat, e34 + 1 ≤ d ∧ C X e34 MX13_isWord [vR r0, vR 16] S31 (RI fun y37 S38 => ((y37 = 0 → (isK S38 r0 13) ∧ ∃ e41 : Nat, e41 + 1 ≤ d ∧ C X e41 MX13_isWord [vR r0, vR 17] S38 (RI fun y44 S45 => ((¬ y44 = 0 → V X d MX13_readP 415 [(0, vR r0)] [] S45 Q) ∧ (y44 = 0 → (isK S45 r0 13) ∧ ∃ e48 : Nat, e48 + 1 ≤ d ∧ C X e48 MX13_isWord [vR r0, vR 20] S45 (RI fun y51 S52 => ((y51 = 0 → (isK S52 r0 13) ∧ ∃ e55 : Nat, e55 + 1 ≤ d ∧ C X e55 MX13_isWord [vR r0, vR 18] S52 (RI fun y58 S59 => ((y58 = 0 → (isK S59 r0 13) ∧ (isK S59 (gR S59 r0 6) 21) ∧ (vp_in (gI S59 r0 10) (gN S59 (gR S59 r0 6))) ∧ ∃ e65 : Nat, e65 + 1 ≤ d ∧ C X e65 MX13_fail [vR r0, vI (gI S59 (gR S59 r0 6) ((gI S59 r0 10) : Int32).toNatClampNeg)] S59 (TV Q fun  S68 => V X d MX13_readP 547 [(0, vR r0)] [] S68 Q)) ∧ (¬ y58 = 0 → (isK S59 r0 13) ∧ ∃ e69 : Nat, e69 + 1 ≤ d ∧ C X e69 MX13_opens [vR r0] S59 (TV Q fun  S72 => (isK S72 r0 13) ∧ ∃ e74 : Nat, e74 + 1 ≤ d ∧ C X e74 MX13_mustNumber [vR r0] S72 (TI Q fun y77 S78 => (isK S78 r0 13) ∧ ∃ e80 : Nat, e80 + 1 ≤ d ∧ C X e80 MX13_mustWord [vR r0, vR 22] S78 (TV Q fun  S83 => ∃ e85 : Nat, e85 + 1 ≤ d ∧ C X e85 MX13_readU [vR r0] S83 (TV Q fun  S88 => (isK S88 r0 13) ∧ ∃ e89 : Nat, e89 + 1 ≤ d ∧ C X e89 MX13_mustWord [vR r0, vR 21] S88 (TV Q fun  S92 => ∃ e94 : Nat, e94 + 1 ≤ d ∧ C X e94 MX13_readU [vR r0] S92 (TV Q fun  S97 => (isK S97 r0 13) ∧ ∀ S99 : Mem, S99 = uI S97 r0 12 ((gI S97 r0 12) - 1) → ∃ e100 : Nat, e100 + 1 ≤ d ∧ C X e100 MX13_emit [vR r0, vI 18, vI (y77 - y77 / 10 * 10), vI 0] S99 (RI fun y103 S104 => V X d MX13_readP 547 [(0, vR r0)] [] S104 Q))))))))))) ∧ (¬ y51 = 0 → V X d MX13_readP 415 [(0, vR r0)] [] S52 Q))))))) ∧ (¬ y37 = 0 → (isK S38 r0 13) ∧ ∀ S106 : Mem, S106 = uI S38 r0 10 ((gI S38 r0 10) + 1) → ∃ e107 : Nat, e107 + 1 ≤ d ∧ C X e107 MX13_mustName [vR r0] S106 (TI Q fun y110 S111 => (isK S111 r0 13) ∧ ∃ e112 : Nat, e112 + 1 ≤ d ∧ C X e112 MX13_isSign [vR r0, vI 40] S111 (RI fun y115 S116 => ((¬ y115 = 0 → V X d MX13_readP 351 [(0, vR r0), (2, vI y110)] [] S116 Q) ∧ (y115 = 0 → (isK S116 r0 13) ∧ (isK S116 (gR S116 r0 6) 21) ∧ (vp_in (gI S116 r0 10) (gN S116 (gR S116 r0 6))) ∧ ∃ e122 : Nat, e122 + 1 ≤ d ∧ C X e122 MX13_fail [vR r0, vI (gI S116 (gR S116 r0 6) ((gI S116 r0 10) : Int32).toNatClampNeg)] S116 (TV Q fun  S125 => V X d MX13_readP 351 [(0, vR r0), (2, vI y110)] [] S125 Q))))))))) ∧ (¬ y30 = 0 → V X d MX13_readP 259 [(0, vR r0)] [] S31 Q))))))) ∧ (¬ y16 = 0 → (isK S17 r0 13) ∧ ∀ S127 : Mem, S127 = uI S17 r0 10 ((gI S17 r0 10) + 1) → ∃ e128 : Nat, e128 + 1 ≤ d ∧ C X e128 MX13_emit [vR r0, vI 13, vI 0, vI 0] S127 (RI fun y131 S132 => V X d MX13_readP 547 [(0, vR r0)] [] S132 Q))))) ∧ (¬ y10 = 0 → (isK S11 r0 13) ∧ ∃ e133 : Nat, e133 + 1 ≤ d ∧ C X e133 MX13_opens [vR r0] S11 (TV Q fun  S136 => ∃ e138 : Nat, e138 + 1 ≤ d ∧ C X e138 MX13_readE [vR r0] S136 (TV Q fun  S141 => (isK S141 r0 13) ∧ ∃ e142 : Nat, e142 + 1 ≤ d ∧ C X e142 MX13_closes [vR r0, vI 41] S141 (TV Q fun  S145 => V X d MX13_readP 547 [(0, vR r0)] [] S145 Q))))))) ∧ ((gI S (gR S r0 5) ((gI S r0 10) : Int32).toNatClampNeg) = 1 → ∃ e147 : Nat, e147 + 1 ≤ d ∧ C X e147 MX13_mustName [vR r0] S (TI Q fun y150 S151 => (isK S151 r0 13) ∧ ∃ e152 : Nat, e152 + 1 ≤ d ∧ C X e152 MX13_isSign [vR r0, vI 40] S151 (RI fun y155 S156 => ((y155 = 0 → (isK S156 r0 13) ∧ ∃ e159 : Nat, e159 + 1 ≤ d ∧ C X e159 MX13_emit [vR r0, vI 2, vI 0, vI 0] S156 (RI fun y162 S163 => (isK S163 r0 13) ∧ (isK S163 (gR S163 r0 42) 21) ∧ (vp_in (gI S163 r0 44) (gN S163 (gR S163 r0 42))) ∧ ∀ S168 : Mem, S168 = uI S163 (gR S163 r0 42) (((gI S163 r0 44) : Int32).toNatClampNeg) y162 → (isK S163 (gR S163 r0 43) 21) ∧ (vp_in (gI S168 r0 44) (gN S163 (gR S163 r0 43))) ∧ ∀ S171 : Mem, S171 = uI S168 (gR S163 r0 43) (((gI S168 r0 44) : Int32).toNatClampNeg) y150 → ∀ S172 : Mem, S172 = uI S171 r0 44 ((gI S171 r0 44) + 1) → V X d MX13_readP 181 [(0, vR r0), (1, vI y162), (2, vI y150)] [] S172 Q)) ∧ (¬ y155 = 0 → (isK S156 r0 13) ∧ ∃ e173 : Nat, e173 + 1 ≤ d ∧ C X e173 MX13_opens [vR r0] S156 (TV Q fun  S176 => V X d MX13_readP 60 [(0, vR r0), (2, vI y150), (3, vI 0)] [] S176 Q)))))))) ∧ ((gI S (gR S r0 5) ((gI S r0 10) : Int32).toNatClampNeg) = 2 → ∃ e178 : Nat, e178 + 1 ≤ d ∧ C X e178 MX13_mustNumber [vR r0] S (TI Q fun y181 S182 => (isK S182 r0 13) ∧ ∃ e183 : Nat, e183 + 1 ≤ d ∧ C X e183 MX13_emit [vR r0, vI 1, vI y181, vI 0] S182 (RI fun y186 S187 => V X d MX13_readP 547 [(0, vR r0)] [] S187 Q))))) : V X d MX13_readP 0 [(0, vR r0)] [] S Q := by
  refine V_aload_n (pc2 := 1) (dk D_X13_readP 0 rfl) rfl (V_lg 0 rfl) rfl ?_
  obtain ⟨h1, h⟩ := h
  refine V_getR kc13 (pc2 := 4) 5 (dk D_X13_readP 1 rfl) fl_13_23 (by decide) (fun _ => rfl) rfl h1 ?_
  refine V_aload_n (pc2 := 5) (dk D_X13_readP 2 rfl) rfl (V_lg 0 rfl) rfl ?_
  refine V_getI kc13 (pc2 := 8) 10 (dk D_X13_readP 3 rfl) fl_13_331 (by decide) (fun _ => rfl) rfl h1 ?_
  obtain ⟨h2, h⟩ := h
  obtain ⟨h3, h⟩ := h
  refine V_iald (pc2 := 9) (dk D_X13_readP 4 rfl) rfl h2 h3 ?_
  refine V_iconst (x := 2) (pc2 := 10) (dk D_X13_readP 5 rfl) (by decide) rfl ?_
  refine V_cmpne (tgt := 27) (pc2 := 13) (dk D_X13_readP 6 rfl) (by decide) rfl (fun q4 => ?_) (fun q4 => ?_)
  · have h := h.1 q4
    refine V_aload_n (pc2 := 28) (dk D_X13_readP 15 rfl) rfl (V_lg 0 rfl) rfl ?_
    refine V_getR kc13 (pc2 := 31) 5 (dk D_X13_readP 16 rfl) fl_13_23 (by decide) (fun _ => rfl) rfl h1 ?_
    refine V_aload_n (pc2 := 32) (dk D_X13_readP 17 rfl) rfl (V_lg 0 rfl) rfl ?_
    refine V_getI kc13 (pc2 := 35) 10 (dk D_X13_readP 18 rfl) fl_13_331 (by decide) (fun _ => rfl) rfl h1 ?_
    obtain ⟨h5, h⟩ := h
    refine V_iald (pc2 := 36) (dk D_X13_readP 19 rfl) rfl h2 h5 ?_
    refine V_iconst (x := 1) (pc2 := 37) (dk D_X13_readP 20 rfl) (by decide) rfl ?_
    refine V_cmpne (tgt := 184) (pc2 := 40) (dk D_X13_readP 21 rfl) (by decide) rfl (fun q6 => ?_) (fun q6 => ?_)
    · have h := h.1 q6
      refine V_aload_n (pc2 := 185) (dk D_X13_readP 101 rfl) rfl (V_lg 0 rfl) rfl ?_
      refine V_bipush (x := 40) (pc2 := 187) (dk D_X13_readP 102 rfl) (by decide) rfl ?_
      obtain ⟨e7, he8, hc9⟩ := h
      refine V_callV (as := [_]) (st := []) (M' := MX13_isSign) (ci := 13) (pc2 := 190) (dk D_X13_readP 103 rfl) ml_13_334 mv_X13_isSign rfl rfl (by decide) rfl (Nat.le_of_ble_eq_true rfl) rfl he8 h1 hc9 (RI.k fun y10 S11 h => ?_)
      refine V_ifeq (tgt := 210) (pc2 := 193) (dk D_X13_readP 104 rfl) (by decide) rfl (fun q12 => ?_) (fun q12 => ?_)
      · have h := h.1 q12
        refine V_aload_n (pc2 := 211) (dk D_X13_readP 113 rfl) rfl (V_lg 0 rfl) rfl ?_
        refine V_ldcs 21 (pc2 := 213) (dk D_X13_readP 114 rfl) rfl rfl ?_
        obtain ⟨h18, h⟩ := h
        obtain ⟨e13, he14, hc15⟩ := h
        refine V_callV (as := [_]) (st := []) (M' := MX13_isWord) (ci := 13) (pc2 := 216) (dk D_X13_readP 115 rfl) ml_13_341 mv_X13_isWord rfl rfl (by decide) rfl (Nat.le_of_ble_eq_true rfl) rfl he14 h18 hc15 (RI.k fun y16 S17 h => ?_)
        refine V_ifeq (tgt := 241) (pc2 := 219) (dk D_X13_readP 116 rfl) (by decide) rfl (fun q19 => ?_) (fun q19 => ?_)
        · have h := h.1 q19
          refine V_aload_n (pc2 := 242) (dk D_X13_readP 130 rfl) rfl (V_lg 0 rfl) rfl ?_
          refine V_ldcs 22 (pc2 := 244) (dk D_X13_readP 131 rfl) rfl rfl ?_
          obtain ⟨h25, h⟩ := h
          obtain ⟨e20, he21, hc22⟩ := h
          refine V_callV (as := [_]) (st := []) (M' := MX13_isWord) (ci := 13) (pc2 := 247) (dk D_X13_readP 132 rfl) ml_13_341 mv_X13_isWord rfl rfl (by decide) rfl (Nat.le_of_ble_eq_true rfl) rfl he21 h25 hc22 (RI.k fun y23 S24 h => ?_)
          refine V_ifne (tgt := 259) (pc2 := 250) (dk D_X13_readP 133 rfl) (by decide) rfl (fun q26 => ?_) (fun q26 => ?_)
          · have h := h.1 q26
            exact h
          · have h := h.2 q26
            refine V_aload_n (pc2 := 251) (dk D_X13_readP 134 rfl) rfl (V_lg 0 rfl) rfl ?_
            refine V_ldcs 13 (pc2 := 253) (dk D_X13_readP 135 rfl) rfl rfl ?_
            obtain ⟨h32, h⟩ := h
            obtain ⟨e27, he28, hc29⟩ := h
            refine V_callV (as := [_]) (st := []) (M' := MX13_isWord) (ci := 13) (pc2 := 256) (dk D_X13_readP 136 rfl) ml_13_341 mv_X13_isWord rfl rfl (by decide) rfl (Nat.le_of_ble_eq_true rfl) rfl he28 h32 hc29 (RI.k fun y30 S31 h => ?_)
            refine V_ifeq (tgt := 305) (pc2 := 259) (dk D_X13_readP 137 rfl) (by decide) rfl (fun q33 => ?_) (fun q33 => ?_)
            · have h := h.1 q33
              refine V_aload_n (pc2 := 306) (dk D_X13_readP 163 rfl) rfl (V_lg 0 rfl) rfl ?_
              refine V_ldcs 14 (pc2 := 308) (dk D_X13_readP 164 rfl) rfl rfl ?_
              obtain ⟨h39, h⟩ := h
              obtain ⟨e34, he35, hc36⟩ := h
              refine V_callV (as := [_]) (st := []) (M' := MX13_isWord) (ci := 13) (pc2 := 311) (dk D_X13_readP 165 rfl) ml_13_341 mv_X13_isWord rfl rfl (by decide) rfl (Nat.le_of_ble_eq_true rfl) rfl he35 h39 hc36 (RI.k fun y37 S38 h => ?_)
              refine V_ifeq (tgt := 397) (pc2 := 314) (dk D_X13_readP 166 rfl) (by decide) rfl (fun q40 => ?_) (fun q40 => ?_)
              · have h := h.1 q40
                refine V_aload_n (pc2 := 398) (dk D_X13_readP 214 rfl) rfl (V_lg 0 rfl) rfl ?_
                refine V_ldcs 15 (pc2 := 400) (dk D_X13_readP 215 rfl) rfl rfl ?_
                obtain ⟨h46, h⟩ := h
                obtain ⟨e41, he42, hc43⟩ := h
                refine V_callV (as := [_]) (st := []) (M' := MX13_isWord) (ci := 13) (pc2 := 403) (dk D_X13_readP 216 rfl) ml_13_341 mv_X13_isWord rfl rfl (by decide) rfl (Nat.le_of_ble_eq_true rfl) rfl he42 h46 hc43 (RI.k fun y44 S45 h => ?_)
                refine V_ifne (tgt := 415) (pc2 := 406) (dk D_X13_readP 217 rfl) (by decide) rfl (fun q47 => ?_) (fun q47 => ?_)
                · have h := h.1 q47
                  exact h
                · have h := h.2 q47
                  refine V_aload_n (pc2 := 407) (dk D_X13_readP 218 rfl) rfl (V_lg 0 rfl) rfl ?_
                  refine V_ldcs 18 (pc2 := 409) (dk D_X13_readP 219 rfl) rfl rfl ?_
                  obtain ⟨h53, h⟩ := h
                  obtain ⟨e48, he49, hc50⟩ := h
                  refine V_callV (as := [_]) (st := []) (M' := MX13_isWord) (ci := 13) (pc2 := 412) (dk D_X13_readP 220 rfl) ml_13_341 mv_X13_isWord rfl rfl (by decide) rfl (Nat.le_of_ble_eq_true rfl) rfl he49 h53 hc50 (RI.k fun y51 S52 h => ?_)
                  refine V_ifeq (tgt := 471) (pc2 := 415) (dk D_X13_readP 221 rfl) (by decide) rfl (fun q54 => ?_) (fun q54 => ?_)
                  · have h := h.1 q54
                    refine V_aload_n (pc2 := 472) (dk D_X13_readP 252 rfl) rfl (V_lg 0 rfl) rfl ?_
                    refine V_ldcs 16 (pc2 := 474) (dk D_X13_readP 253 rfl) rfl rfl ?_
                    obtain ⟨h60, h⟩ := h
                    obtain ⟨e55, he56, hc57⟩ := h
                    refine V_callV (as := [_]) (st := []) (M' := MX13_isWord) (ci := 13) (pc2 := 477) (dk D_X13_readP 254 rfl) ml_13_341 mv_X13_isWord rfl rfl (by decide) rfl (Nat.le_of_ble_eq_true rfl) rfl he56 h60 hc57 (RI.k fun y58 S59 h => ?_)
                    refine V_ifeq (tgt := 534) (pc2 := 480) (dk D_X13_readP 255 rfl) (by decide) rfl (fun q61 => ?_) (fun q61 => ?_)
                    · have h := h.1 q61
                      refine V_aload_n (pc2 := 535) (dk D_X13_readP 286 rfl) rfl (V_lg 0 rfl) rfl ?_
                      refine V_aload_n (pc2 := 536) (dk D_X13_readP 287 rfl) rfl (V_lg 0 rfl) rfl ?_
                      obtain ⟨h62, h⟩ := h
                      refine V_getR kc13 (pc2 := 539) 6 (dk D_X13_readP 288 rfl) fl_13_27 (by decide) (fun _ => rfl) rfl h62 ?_
                      refine V_aload_n (pc2 := 540) (dk D_X13_readP 289 rfl) rfl (V_lg 0 rfl) rfl ?_
                      refine V_getI kc13 (pc2 := 543) 10 (dk D_X13_readP 290 rfl) fl_13_331 (by decide) (fun _ => rfl) rfl h62 ?_
                      obtain ⟨h63, h⟩ := h
                      obtain ⟨h64, h⟩ := h
                      refine V_iald (pc2 := 544) (dk D_X13_readP 291 rfl) rfl h63 h64 ?_
                      obtain ⟨e65, he66, hc67⟩ := h
                      refine V_callVT (as := [_]) (st := []) (M' := MX13_fail) (ci := 13) (pc2 := 547) (dk D_X13_readP 292 rfl) ml_13_337 mv_X13_fail rfl rfl (by decide) rfl (Nat.le_of_ble_eq_true rfl) rfl (by decide) he66 h62 hc67 (TV.k fun  S68 h => ?_)
                      exact h
                    · have h := h.2 q61
                      refine V_aload_n (pc2 := 481) (dk D_X13_readP 256 rfl) rfl (V_lg 0 rfl) rfl ?_
                      obtain ⟨h73, h⟩ := h
                      obtain ⟨e69, he70, hc71⟩ := h
                      refine V_callVT (as := []) (st := []) (M' := MX13_opens) (ci := 13) (pc2 := 484) (dk D_X13_readP 257 rfl) ml_13_363 mv_X13_opens rfl rfl (by decide) rfl (Nat.le_of_ble_eq_true rfl) rfl (by decide) he70 h73 hc71 (TV.k fun  S72 h => ?_)
                      refine V_aload_n (pc2 := 485) (dk D_X13_readP 258 rfl) rfl (V_lg 0 rfl) rfl ?_
                      obtain ⟨h79, h⟩ := h
                      obtain ⟨e74, he75, hc76⟩ := h
                      refine V_callVT (as := []) (st := []) (M' := MX13_mustNumber) (ci := 13) (pc2 := 488) (dk D_X13_readP 259 rfl) ml_13_386 mv_X13_mustNumber rfl rfl (by decide) rfl (Nat.le_of_ble_eq_true rfl) rfl (by decide) he75 h79 hc76 (TI.k fun y77 S78 h => ?_)
                      refine V_istore_n (pc2 := 489) (lv2 := [(0, _), (2, _)]) (dk D_X13_readP 260 rfl) rfl (by decide) rfl rfl ?_
                      refine V_aload_n (pc2 := 490) (dk D_X13_readP 261 rfl) rfl (V_lg 0 rfl) rfl ?_
                      refine V_ldcs 20 (pc2 := 492) (dk D_X13_readP 262 rfl) rfl rfl ?_
                      obtain ⟨h84, h⟩ := h
                      obtain ⟨e80, he81, hc82⟩ := h
                      refine V_callVT (as := [_]) (st := []) (M' := MX13_mustWord) (ci := 13) (pc2 := 495) (dk D_X13_readP 263 rfl) ml_13_406 mv_X13_mustWord rfl rfl (by decide) rfl (Nat.le_of_ble_eq_true rfl) rfl (by decide) he81 h84 hc82 (TV.k fun  S83 h => ?_)
                      refine V_aload_n (pc2 := 496) (dk D_X13_readP 264 rfl) rfl (V_lg 0 rfl) rfl ?_
                      obtain ⟨e85, he86, hc87⟩ := h
                      refine V_callST (as := [_]) (st := []) (M' := MX13_readU) (pc2 := 499) (dk D_X13_readP 265 rfl) ml_13_425 mv_X13_readU rfl rfl (Nat.le_of_ble_eq_true rfl) rfl (by decide) he86 hc87 (TV.k fun  S88 h => ?_)
                      refine V_aload_n (pc2 := 500) (dk D_X13_readP 266 rfl) rfl (V_lg 0 rfl) rfl ?_
                      refine V_ldcs 19 (pc2 := 502) (dk D_X13_readP 267 rfl) rfl rfl ?_
                      obtain ⟨h93, h⟩ := h
                      obtain ⟨e89, he90, hc91⟩ := h
                      refine V_callVT (as := [_]) (st := []) (M' := MX13_mustWord) (ci := 13) (pc2 := 505) (dk D_X13_readP 268 rfl) ml_13_406 mv_X13_mustWord rfl rfl (by decide) rfl (Nat.le_of_ble_eq_true rfl) rfl (by decide) he90 h93 hc91 (TV.k fun  S92 h => ?_)
                      refine V_aload_n (pc2 := 506) (dk D_X13_readP 269 rfl) rfl (V_lg 0 rfl) rfl ?_
                      obtain ⟨e94, he95, hc96⟩ := h
                      refine V_callST (as := [_]) (st := []) (M' := MX13_readU) (pc2 := 509) (dk D_X13_readP 270 rfl) ml_13_425 mv_X13_readU rfl rfl (Nat.le_of_ble_eq_true rfl) rfl (by decide) he95 hc96 (TV.k fun  S97 h => ?_)
                      refine V_aload_n (pc2 := 510) (dk D_X13_readP 271 rfl) rfl (V_lg 0 rfl) rfl ?_
                      refine V_dup (pc2 := 511) (dk D_X13_readP 272 rfl) rfl rfl ?_
                      obtain ⟨h98, h⟩ := h
                      refine V_getI kc13 (pc2 := 514) 12 (dk D_X13_readP 273 rfl) fl_13_345 (by decide) (fun _ => rfl) rfl h98 ?_
                      refine V_iconst (x := 1) (pc2 := 515) (dk D_X13_readP 274 rfl) (by decide) rfl ?_
                      refine V_isub (pc2 := 516) (dk D_X13_readP 275 rfl) rfl ?_
                      refine V_putI kc13 (pc2 := 519) 12 (dk D_X13_readP 276 rfl) fl_13_345 (by decide) (Or.inl rfl) rfl rfl h98 ?_
                      have h := h _ rfl
                      refine V_aload_n (pc2 := 520) (dk D_X13_readP 277 rfl) rfl (V_lg 0 rfl) rfl ?_
                      refine V_bipush (x := 18) (pc2 := 522) (dk D_X13_readP 278 rfl) (by decide) rfl ?_
                      refine V_iload_n (pc2 := 523) (dk D_X13_readP 279 rfl) rfl (V_lg 1 rfl) rfl ?_
                      refine V_bipush (x := 10) (pc2 := 525) (dk D_X13_readP 280 rfl) (by decide) rfl ?_
                      refine V_irem (pc2 := 526) (dk D_X13_readP 281 rfl) rfl (by decide) ?_
                      refine V_iconst (x := 0) (pc2 := 527) (dk D_X13_readP 282 rfl) (by decide) rfl ?_
                      obtain ⟨e100, he101, hc102⟩ := h
                      refine V_callV (as := [_, _, _]) (st := []) (M' := MX13_emit) (ci := 13) (pc2 := 530) (dk D_X13_readP 283 rfl) ml_13_373 mv_X13_emit rfl rfl (by decide) rfl (Nat.le_of_ble_eq_true rfl) rfl he101 h98 hc102 (RI.k fun y103 S104 h => ?_)
                      refine V_istore_n (pc2 := 531) (lv2 := [(0, _), (1, _), (2, _)]) (dk D_X13_readP 284 rfl) rfl (by decide) rfl rfl ?_
                      refine V_goto (tgt := 547) (dk D_X13_readP 285 rfl) (by decide) ?_
                      refine V_pick [0] (lv2 := [(0, _)]) rfl ?_
                      exact h
                  · have h := h.2 q54
                    exact h
              · have h := h.2 q40
                refine V_aload_n (pc2 := 315) (dk D_X13_readP 167 rfl) rfl (V_lg 0 rfl) rfl ?_
                refine V_dup (pc2 := 316) (dk D_X13_readP 168 rfl) rfl rfl ?_
                obtain ⟨h105, h⟩ := h
                refine V_getI kc13 (pc2 := 319) 10 (dk D_X13_readP 169 rfl) fl_13_331 (by decide) (fun _ => rfl) rfl h105 ?_
                refine V_iconst (x := 1) (pc2 := 320) (dk D_X13_readP 170 rfl) (by decide) rfl ?_
                refine V_iadd (pc2 := 321) (dk D_X13_readP 171 rfl) rfl ?_
                refine V_putI kc13 (pc2 := 324) 10 (dk D_X13_readP 172 rfl) fl_13_331 (by decide) (Or.inl rfl) rfl rfl h105 ?_
                have h := h _ rfl
                refine V_aload_n (pc2 := 325) (dk D_X13_readP 173 rfl) rfl (V_lg 0 rfl) rfl ?_
                obtain ⟨e107, he108, hc109⟩ := h
                refine V_callVT (as := []) (st := []) (M' := MX13_mustName) (ci := 13) (pc2 := 328) (dk D_X13_readP 174 rfl) ml_13_399 mv_X13_mustName rfl rfl (by decide) rfl (Nat.le_of_ble_eq_true rfl) rfl (by decide) he108 h105 hc109 (TI.k fun y110 S111 h => ?_)
                refine V_istore_n (pc2 := 329) (lv2 := [(0, _), (2, _)]) (dk D_X13_readP 175 rfl) rfl (by decide) rfl rfl ?_
                refine V_aload_n (pc2 := 330) (dk D_X13_readP 176 rfl) rfl (V_lg 0 rfl) rfl ?_
                refine V_bipush (x := 40) (pc2 := 332) (dk D_X13_readP 177 rfl) (by decide) rfl ?_
                obtain ⟨h117, h⟩ := h
                obtain ⟨e112, he113, hc114⟩ := h
                refine V_callV (as := [_]) (st := []) (M' := MX13_isSign) (ci := 13) (pc2 := 335) (dk D_X13_readP 178 rfl) ml_13_334 mv_X13_isSign rfl rfl (by decide) rfl (Nat.le_of_ble_eq_true rfl) rfl he113 h117 hc114 (RI.k fun y115 S116 h => ?_)
                refine V_ifne (tgt := 351) (pc2 := 338) (dk D_X13_readP 179 rfl) (by decide) rfl (fun q118 => ?_) (fun q118 => ?_)
                · have h := h.1 q118
                  exact h
                · have h := h.2 q118
                  refine V_aload_n (pc2 := 339) (dk D_X13_readP 180 rfl) rfl (V_lg 0 rfl) rfl ?_
                  refine V_aload_n (pc2 := 340) (dk D_X13_readP 181 rfl) rfl (V_lg 0 rfl) rfl ?_
                  obtain ⟨h119, h⟩ := h
                  refine V_getR kc13 (pc2 := 343) 6 (dk D_X13_readP 182 rfl) fl_13_27 (by decide) (fun _ => rfl) rfl h119 ?_
                  refine V_aload_n (pc2 := 344) (dk D_X13_readP 183 rfl) rfl (V_lg 0 rfl) rfl ?_
                  refine V_getI kc13 (pc2 := 347) 10 (dk D_X13_readP 184 rfl) fl_13_331 (by decide) (fun _ => rfl) rfl h119 ?_
                  obtain ⟨h120, h⟩ := h
                  obtain ⟨h121, h⟩ := h
                  refine V_iald (pc2 := 348) (dk D_X13_readP 185 rfl) rfl h120 h121 ?_
                  obtain ⟨e122, he123, hc124⟩ := h
                  refine V_callVT (as := [_]) (st := []) (M' := MX13_fail) (ci := 13) (pc2 := 351) (dk D_X13_readP 186 rfl) ml_13_337 mv_X13_fail rfl rfl (by decide) rfl (Nat.le_of_ble_eq_true rfl) rfl (by decide) he123 h119 hc124 (TV.k fun  S125 h => ?_)
                  exact h
            · have h := h.2 q33
              exact h
        · have h := h.2 q19
          refine V_aload_n (pc2 := 220) (dk D_X13_readP 117 rfl) rfl (V_lg 0 rfl) rfl ?_
          refine V_dup (pc2 := 221) (dk D_X13_readP 118 rfl) rfl rfl ?_
          obtain ⟨h126, h⟩ := h
          refine V_getI kc13 (pc2 := 224) 10 (dk D_X13_readP 119 rfl) fl_13_331 (by decide) (fun _ => rfl) rfl h126 ?_
          refine V_iconst (x := 1) (pc2 := 225) (dk D_X13_readP 120 rfl) (by decide) rfl ?_
          refine V_iadd (pc2 := 226) (dk D_X13_readP 121 rfl) rfl ?_
          refine V_putI kc13 (pc2 := 229) 10 (dk D_X13_readP 122 rfl) fl_13_331 (by decide) (Or.inl rfl) rfl rfl h126 ?_
          have h := h _ rfl
          refine V_aload_n (pc2 := 230) (dk D_X13_readP 123 rfl) rfl (V_lg 0 rfl) rfl ?_
          refine V_bipush (x := 13) (pc2 := 232) (dk D_X13_readP 124 rfl) (by decide) rfl ?_
          refine V_iconst (x := 0) (pc2 := 233) (dk D_X13_readP 125 rfl) (by decide) rfl ?_
          refine V_iconst (x := 0) (pc2 := 234) (dk D_X13_readP 126 rfl) (by decide) rfl ?_
          obtain ⟨e128, he129, hc130⟩ := h
          refine V_callV (as := [_, _, _]) (st := []) (M' := MX13_emit) (ci := 13) (pc2 := 237) (dk D_X13_readP 127 rfl) ml_13_373 mv_X13_emit rfl rfl (by decide) rfl (Nat.le_of_ble_eq_true rfl) rfl he129 h126 hc130 (RI.k fun y131 S132 h => ?_)
          refine V_istore_n (pc2 := 238) (lv2 := [(0, _), (1, _)]) (dk D_X13_readP 128 rfl) rfl (by decide) rfl rfl ?_
          refine V_goto (tgt := 547) (dk D_X13_readP 129 rfl) (by decide) ?_
          refine V_pick [0] (lv2 := [(0, _)]) rfl ?_
          exact h
      · have h := h.2 q12
        refine V_aload_n (pc2 := 194) (dk D_X13_readP 105 rfl) rfl (V_lg 0 rfl) rfl ?_
        obtain ⟨h137, h⟩ := h
        obtain ⟨e133, he134, hc135⟩ := h
        refine V_callVT (as := []) (st := []) (M' := MX13_opens) (ci := 13) (pc2 := 197) (dk D_X13_readP 106 rfl) ml_13_363 mv_X13_opens rfl rfl (by decide) rfl (Nat.le_of_ble_eq_true rfl) rfl (by decide) he134 h137 hc135 (TV.k fun  S136 h => ?_)
        refine V_aload_n (pc2 := 198) (dk D_X13_readP 107 rfl) rfl (V_lg 0 rfl) rfl ?_
        obtain ⟨e138, he139, hc140⟩ := h
        refine V_callST (as := [_]) (st := []) (M' := MX13_readE) (pc2 := 201) (dk D_X13_readP 108 rfl) ml_13_377 mv_X13_readE rfl rfl (Nat.le_of_ble_eq_true rfl) rfl (by decide) he139 hc140 (TV.k fun  S141 h => ?_)
        refine V_aload_n (pc2 := 202) (dk D_X13_readP 109 rfl) rfl (V_lg 0 rfl) rfl ?_
        refine V_bipush (x := 41) (pc2 := 204) (dk D_X13_readP 110 rfl) (by decide) rfl ?_
        obtain ⟨h146, h⟩ := h
        obtain ⟨e142, he143, hc144⟩ := h
        refine V_callVT (as := [_]) (st := []) (M' := MX13_closes) (ci := 13) (pc2 := 207) (dk D_X13_readP 111 rfl) ml_13_370 mv_X13_closes rfl rfl (by decide) rfl (Nat.le_of_ble_eq_true rfl) rfl (by decide) he143 h146 hc144 (TV.k fun  S145 h => ?_)
        refine V_goto (tgt := 547) (dk D_X13_readP 112 rfl) (by decide) ?_
        exact h
    · have h := h.2 q6
      refine V_aload_n (pc2 := 41) (dk D_X13_readP 22 rfl) rfl (V_lg 0 rfl) rfl ?_
      obtain ⟨e147, he148, hc149⟩ := h
      refine V_callVT (as := []) (st := []) (M' := MX13_mustName) (ci := 13) (pc2 := 44) (dk D_X13_readP 23 rfl) ml_13_399 mv_X13_mustName rfl rfl (by decide) rfl (Nat.le_of_ble_eq_true rfl) rfl (by decide) he148 h1 hc149 (TI.k fun y150 S151 h => ?_)
      refine V_istore_n (pc2 := 45) (lv2 := [(0, _), (2, _)]) (dk D_X13_readP 24 rfl) rfl (by decide) rfl rfl ?_
      refine V_aload_n (pc2 := 46) (dk D_X13_readP 25 rfl) rfl (V_lg 0 rfl) rfl ?_
      refine V_bipush (x := 40) (pc2 := 48) (dk D_X13_readP 26 rfl) (by decide) rfl ?_
      obtain ⟨h157, h⟩ := h
      obtain ⟨e152, he153, hc154⟩ := h
      refine V_callV (as := [_]) (st := []) (M' := MX13_isSign) (ci := 13) (pc2 := 51) (dk D_X13_readP 27 rfl) ml_13_334 mv_X13_isSign rfl rfl (by decide) rfl (Nat.le_of_ble_eq_true rfl) rfl he153 h157 hc154 (RI.k fun y155 S156 h => ?_)
      refine V_ifeq (tgt := 143) (pc2 := 54) (dk D_X13_readP 28 rfl) (by decide) rfl (fun q158 => ?_) (fun q158 => ?_)
      · have h := h.1 q158
        refine V_aload_n (pc2 := 144) (dk D_X13_readP 76 rfl) rfl (V_lg 0 rfl) rfl ?_
        refine V_iconst (x := 2) (pc2 := 145) (dk D_X13_readP 77 rfl) (by decide) rfl ?_
        refine V_iconst (x := 0) (pc2 := 146) (dk D_X13_readP 78 rfl) (by decide) rfl ?_
        refine V_iconst (x := 0) (pc2 := 147) (dk D_X13_readP 79 rfl) (by decide) rfl ?_
        obtain ⟨h164, h⟩ := h
        obtain ⟨e159, he160, hc161⟩ := h
        refine V_callV (as := [_, _, _]) (st := []) (M' := MX13_emit) (ci := 13) (pc2 := 150) (dk D_X13_readP 80 rfl) ml_13_373 mv_X13_emit rfl rfl (by decide) rfl (Nat.le_of_ble_eq_true rfl) rfl he160 h164 hc161 (RI.k fun y162 S163 h => ?_)
        refine V_istore_n (pc2 := 151) (lv2 := [(0, _), (1, _), (2, _)]) (dk D_X13_readP 81 rfl) rfl (by decide) rfl rfl ?_
        refine V_aload_n (pc2 := 152) (dk D_X13_readP 82 rfl) rfl (V_lg 0 rfl) rfl ?_
        obtain ⟨h165, h⟩ := h
        refine V_getR kc13 (pc2 := 155) 42 (dk D_X13_readP 83 rfl) fl_13_152 (by decide) (fun _ => rfl) rfl h165 ?_
        refine V_aload_n (pc2 := 156) (dk D_X13_readP 84 rfl) rfl (V_lg 0 rfl) rfl ?_
        refine V_getI kc13 (pc2 := 159) 44 (dk D_X13_readP 85 rfl) fl_13_439 (by decide) (fun _ => rfl) rfl h165 ?_
        refine V_iload_n (pc2 := 160) (dk D_X13_readP 86 rfl) rfl (V_lg 1 rfl) rfl ?_
        obtain ⟨h166, h⟩ := h
        obtain ⟨h167, h⟩ := h
        refine V_iast (pc2 := 161) (dk D_X13_readP 87 rfl) rfl h166 h167 ?_
        have h := h _ rfl
        refine V_aload_n (pc2 := 162) (dk D_X13_readP 88 rfl) rfl (V_lg 0 rfl) rfl ?_
        refine V_getR kc13 (pc2 := 165) 43 (dk D_X13_readP 89 rfl) fl_13_155 (by decide) (fun _ => rfl) rfl h165 ?_
        refine V_aload_n (pc2 := 166) (dk D_X13_readP 90 rfl) rfl (V_lg 0 rfl) rfl ?_
        refine V_getI kc13 (pc2 := 169) 44 (dk D_X13_readP 91 rfl) fl_13_439 (by decide) (fun _ => rfl) rfl h165 ?_
        refine V_iload_n (pc2 := 170) (dk D_X13_readP 92 rfl) rfl (V_lg 2 rfl) rfl ?_
        obtain ⟨h169, h⟩ := h
        obtain ⟨h170, h⟩ := h
        refine V_iast (pc2 := 171) (dk D_X13_readP 93 rfl) rfl h169 h170 ?_
        have h := h _ rfl
        refine V_aload_n (pc2 := 172) (dk D_X13_readP 94 rfl) rfl (V_lg 0 rfl) rfl ?_
        refine V_dup (pc2 := 173) (dk D_X13_readP 95 rfl) rfl rfl ?_
        refine V_getI kc13 (pc2 := 176) 44 (dk D_X13_readP 96 rfl) fl_13_439 (by decide) (fun _ => rfl) rfl h165 ?_
        refine V_iconst (x := 1) (pc2 := 177) (dk D_X13_readP 97 rfl) (by decide) rfl ?_
        refine V_iadd (pc2 := 178) (dk D_X13_readP 98 rfl) rfl ?_
        refine V_putI kc13 (pc2 := 181) 44 (dk D_X13_readP 99 rfl) fl_13_439 (by decide) (Or.inl rfl) rfl rfl h165 ?_
        have h := h _ rfl
        exact h
      · have h := h.2 q158
        refine V_aload_n (pc2 := 55) (dk D_X13_readP 29 rfl) rfl (V_lg 0 rfl) rfl ?_
        obtain ⟨h177, h⟩ := h
        obtain ⟨e173, he174, hc175⟩ := h
        refine V_callVT (as := []) (st := []) (M' := MX13_opens) (ci := 13) (pc2 := 58) (dk D_X13_readP 30 rfl) ml_13_363 mv_X13_opens rfl rfl (by decide) rfl (Nat.le_of_ble_eq_true rfl) rfl (by decide) he174 h177 hc175 (TV.k fun  S176 h => ?_)
        refine V_iconst (x := 0) (pc2 := 59) (dk D_X13_readP 31 rfl) (by decide) rfl ?_
        refine V_istore_n (pc2 := 60) (lv2 := [(0, _), (2, _), (3, _)]) (dk D_X13_readP 32 rfl) rfl (by decide) rfl rfl ?_
        exact h
  · have h := h.2 q4
    refine V_aload_n (pc2 := 14) (dk D_X13_readP 7 rfl) rfl (V_lg 0 rfl) rfl ?_
    refine V_iconst (x := 1) (pc2 := 15) (dk D_X13_readP 8 rfl) (by decide) rfl ?_
    refine V_aload_n (pc2 := 16) (dk D_X13_readP 9 rfl) rfl (V_lg 0 rfl) rfl ?_
    obtain ⟨e178, he179, hc180⟩ := h
    refine V_callVT (as := []) (st := [_, _]) (M' := MX13_mustNumber) (ci := 13) (pc2 := 19) (dk D_X13_readP 10 rfl) ml_13_386 mv_X13_mustNumber rfl rfl (by decide) rfl (Nat.le_of_ble_eq_true rfl) rfl (by decide) he179 h1 hc180 (TI.k fun y181 S182 h => ?_)
    refine V_iconst (x := 0) (pc2 := 20) (dk D_X13_readP 11 rfl) (by decide) rfl ?_
    obtain ⟨h188, h⟩ := h
    obtain ⟨e183, he184, hc185⟩ := h
    refine V_callV (as := [_, _, _]) (st := []) (M' := MX13_emit) (ci := 13) (pc2 := 23) (dk D_X13_readP 12 rfl) ml_13_373 mv_X13_emit rfl rfl (by decide) rfl (Nat.le_of_ble_eq_true rfl) rfl he184 h188 hc185 (RI.k fun y186 S187 h => ?_)
    refine V_istore_n (pc2 := 24) (lv2 := [(0, _), (1, _)]) (dk D_X13_readP 13 rfl) rfl (by decide) rfl rfl ?_
    refine V_goto (tgt := 547) (dk D_X13_readP 14 rfl) (by decide) ?_
    refine V_pick [0] (lv2 := [(0, _)]) rfl ?_
    exact h
theorem w_X13_readP_60 {X : Cx} {d : Nat} {S : Mem} {Q : Res → Mem → Prop} (r0 : Nat) (x2 : Int32) (x3 : Int32) (h : (isK S r0 13) ∧ ∃ e1 : Nat, e1 + 1 ≤ d ∧ C X e1 MX13_isSign [vR r0, vI 41] S (RI fun y4 S5 => ((y4 = 0 → V X d MX13_readP 80 [(0, vR r0), (2, vI x2), (3, vI x3)] [] S5 Q) ∧ (¬ y4 = 0 → ((x3 ≤ 0 → V X d MX13_readP 118 [(0, vR r0), (2, vI x2), (3, vI x3)] [] S5 Q) ∧ (¬ x3 ≤ 0 → ∃ e9 : Nat, e9 + 1 ≤ d ∧ C X e9 MX13_isComma [vR r0] S5 (RI fun y12 S13 => ((y12 = 0 → V X d MX13_readP 118 [(0, vR r0), (2, vI x2), (3, vI x3)] [] S13 Q) ∧ (¬ y12 = 0 → V X d MX13_readP 80 [(0, vR r0), (2, vI x2), (3, vI x3)] [] S13 Q))))))))) : V X d MX13_readP 60 [(0, vR r0), (2, vI x2), (3, vI x3)] [] S Q := by
  refine V_aload_n (pc2 := 61) (dk D_X13_readP 33 rfl) rfl (V_lg 0 rfl) rfl ?_
  refine V_bipush (x := 41) (pc2 := 63) (dk D_X13_readP 34 rfl) (by decide) rfl ?_
  obtain ⟨h6, h⟩ := h
  obtain ⟨e1, he2, hc3⟩ := h
  refine V_callV (as := [_]) (st := []) (M' := MX13_isSign) (ci := 13) (pc2 := 66) (dk D_X13_readP 35 rfl) ml_13_334 mv_X13_isSign rfl rfl (by decide) rfl (Nat.le_of_ble_eq_true rfl) rfl he2 h6 hc3 (RI.k fun y4 S5 h => ?_)
  refine V_ifeq (tgt := 80) (pc2 := 69) (dk D_X13_readP 36 rfl) (by decide) rfl (fun q7 => ?_) (fun q7 => ?_)
  · have h := h.1 q7
    exact h
  · have h := h.2 q7
    refine V_iload_n (pc2 := 70) (dk D_X13_readP 37 rfl) rfl (V_lg 2 rfl) rfl ?_
    refine V_ifle (tgt := 118) (pc2 := 73) (dk D_X13_readP 38 rfl) (by decide) rfl (fun q8 => ?_) (fun q8 => ?_)
    · have h := h.1 q8
      exact h
    · have h := h.2 q8
      refine V_aload_n (pc2 := 74) (dk D_X13_readP 39 rfl) rfl (V_lg 0 rfl) rfl ?_
      obtain ⟨e9, he10, hc11⟩ := h
      refine V_callS (as := [_]) (st := []) (M' := MX13_isComma) (pc2 := 77) (dk D_X13_readP 40 rfl) ml_13_431 mv_X13_isComma rfl rfl (Nat.le_of_ble_eq_true rfl) rfl he10 hc11 (RI.k fun y12 S13 h => ?_)
      refine V_ifeq (tgt := 118) (pc2 := 80) (dk D_X13_readP 41 rfl) (by decide) rfl (fun q14 => ?_) (fun q14 => ?_)
      · have h := h.1 q14
        exact h
      · have h := h.2 q14
        exact h
theorem w_X13_readP_80 {X : Cx} {d : Nat} {S : Mem} {Q : Res → Mem → Prop} (r0 : Nat) (x2 : Int32) (x3 : Int32) (h : ((x3 ≤ 0 → V X d MX13_readP 90 [(0, vR r0), (2, vI x2), (3, vI x3)] [] S Q) ∧ (¬ x3 ≤ 0 → (isK S r0 13) ∧ ∃ e2 : Nat, e2 + 1 ≤ d ∧ C X e2 MX13_mustSign [vR r0, vI 44] S (TV Q fun  S5 => V X d MX13_readP 90 [(0, vR r0), (2, vI x2), (3, vI x3)] [] S5 Q)))) : V X d MX13_readP 80 [(0, vR r0), (2, vI x2), (3, vI x3)] [] S Q := by
  refine V_iload_n (pc2 := 81) (dk D_X13_readP 42 rfl) rfl (V_lg 2 rfl) rfl ?_
  refine V_ifle (tgt := 90) (pc2 := 84) (dk D_X13_readP 43 rfl) (by decide) rfl (fun q1 => ?_) (fun q1 => ?_)
  · have h := h.1 q1
    exact h
  · have h := h.2 q1
    refine V_aload_n (pc2 := 85) (dk D_X13_readP 44 rfl) rfl (V_lg 0 rfl) rfl ?_
    refine V_bipush (x := 44) (pc2 := 87) (dk D_X13_readP 45 rfl) (by decide) rfl ?_
    obtain ⟨h6, h⟩ := h
    obtain ⟨e2, he3, hc4⟩ := h
    refine V_callVT (as := [_]) (st := []) (M' := MX13_mustSign) (ci := 13) (pc2 := 90) (dk D_X13_readP 46 rfl) ml_13_348 mv_X13_mustSign rfl rfl (by decide) rfl (Nat.le_of_ble_eq_true rfl) rfl (by decide) he3 h6 hc4 (TV.k fun  S5 h => ?_)
    exact h
theorem w_X13_readP_90 {X : Cx} {d : Nat} {S : Mem} {Q : Res → Mem → Prop} (r0 : Nat) (x2 : Int32) (x3 : Int32) (h : ((¬ x3 = 4 → V X d MX13_readP 108 [(0, vR r0), (2, vI x2), (3, vI x3)] [] S Q) ∧ (x3 = 4 → (isK S r0 13) ∧ (isK S (gR S r0 6) 21) ∧ (vp_in (gI S r0 10) (gN S (gR S r0 6))) ∧ ∃ e5 : Nat, e5 + 1 ≤ d ∧ C X e5 MX13_fail [vR r0, vI (gI S (gR S r0 6) ((gI S r0 10) : Int32).toNatClampNeg)] S (TV Q fun  S8 => V X d MX13_readP 108 [(0, vR r0), (2, vI x2), (3, vI x3)] [] S8 Q)))) : V X d MX13_readP 90 [(0, vR r0), (2, vI x2), (3, vI x3)] [] S Q := by
  refine V_iload_n (pc2 := 91) (dk D_X13_readP 47 rfl) rfl (V_lg 2 rfl) rfl ?_
  refine V_iconst (x := 4) (pc2 := 92) (dk D_X13_readP 48 rfl) (by decide) rfl ?_
  refine V_cmpne (tgt := 108) (pc2 := 95) (dk D_X13_readP 49 rfl) (by decide) rfl (fun q1 => ?_) (fun q1 => ?_)
  · have h := h.1 q1
    exact h
  · have h := h.2 q1
    refine V_aload_n (pc2 := 96) (dk D_X13_readP 50 rfl) rfl (V_lg 0 rfl) rfl ?_
    refine V_aload_n (pc2 := 97) (dk D_X13_readP 51 rfl) rfl (V_lg 0 rfl) rfl ?_
    obtain ⟨h2, h⟩ := h
    refine V_getR kc13 (pc2 := 100) 6 (dk D_X13_readP 52 rfl) fl_13_27 (by decide) (fun _ => rfl) rfl h2 ?_
    refine V_aload_n (pc2 := 101) (dk D_X13_readP 53 rfl) rfl (V_lg 0 rfl) rfl ?_
    refine V_getI kc13 (pc2 := 104) 10 (dk D_X13_readP 54 rfl) fl_13_331 (by decide) (fun _ => rfl) rfl h2 ?_
    obtain ⟨h3, h⟩ := h
    obtain ⟨h4, h⟩ := h
    refine V_iald (pc2 := 105) (dk D_X13_readP 55 rfl) rfl h3 h4 ?_
    obtain ⟨e5, he6, hc7⟩ := h
    refine V_callVT (as := [_]) (st := []) (M' := MX13_fail) (ci := 13) (pc2 := 108) (dk D_X13_readP 56 rfl) ml_13_337 mv_X13_fail rfl rfl (by decide) rfl (Nat.le_of_ble_eq_true rfl) rfl (by decide) he6 h2 hc7 (TV.k fun  S8 h => ?_)
    exact h
theorem w_X13_readP_108 {X : Cx} {d : Nat} {S : Mem} {Q : Res → Mem → Prop} (r0 : Nat) (x2 : Int32) (x3 : Int32) (h : ∃ e1 : Nat, e1 + 1 ≤ d ∧ C X e1 MX13_readE [vR r0] S (TV Q fun  S4 => V X d MX13_readP 60 [(0, vR r0), (2, vI x2), (3, vI (x3 + 1))] [] S4 Q)) : V X d MX13_readP 108 [(0, vR r0), (2, vI x2), (3, vI x3)] [] S Q := by
  refine V_aload_n (pc2 := 109) (dk D_X13_readP 57 rfl) rfl (V_lg 0 rfl) rfl ?_
  obtain ⟨e1, he2, hc3⟩ := h
  refine V_callST (as := [_]) (st := []) (M' := MX13_readE) (pc2 := 112) (dk D_X13_readP 58 rfl) ml_13_377 mv_X13_readE rfl rfl (Nat.le_of_ble_eq_true rfl) rfl (by decide) he2 hc3 (TV.k fun  S4 h => ?_)
  refine V_iinc (y := _ + 1) (pc2 := 115) (lv2 := [(0, _), (2, _), (3, _)]) (dk D_X13_readP 59 rfl) (V_lg 2 rfl) rfl (by decide) rfl rfl ?_
  refine V_goto (tgt := 60) (dk D_X13_readP 60 rfl) (by decide) ?_
  exact h
theorem w_X13_readP_118 {X : Cx} {d : Nat} {S : Mem} {Q : Res → Mem → Prop} (r0 : Nat) (x2 : Int32) (x3 : Int32) (h : (isK S r0 13) ∧ ∃ e1 : Nat, e1 + 1 ≤ d ∧ C X e1 MX13_closes [vR r0, vI 41] S (TV Q fun  S4 => (isK S4 r0 13) ∧ ∃ e6 : Nat, e6 + 1 ≤ d ∧ C X e6 MX13_emit [vR r0, vI 20, vI 0, vI x3] S4 (RI fun y9 S10 => (isK S10 r0 13) ∧ ∃ e12 : Nat, e12 + 1 ≤ d ∧ C X e12 MX13_asksFor [vR r0, vI y9, vI x2, vI x3] S10 (RV fun  S15 => V X d MX13_readP 181 [(0, vR r0), (1, vI y9), (2, vI x2)] [] S15 Q)))) : V X d MX13_readP 118 [(0, vR r0), (2, vI x2), (3, vI x3)] [] S Q := by
  refine V_aload_n (pc2 := 119) (dk D_X13_readP 61 rfl) rfl (V_lg 0 rfl) rfl ?_
  refine V_bipush (x := 41) (pc2 := 121) (dk D_X13_readP 62 rfl) (by decide) rfl ?_
  obtain ⟨h5, h⟩ := h
  obtain ⟨e1, he2, hc3⟩ := h
  refine V_callVT (as := [_]) (st := []) (M' := MX13_closes) (ci := 13) (pc2 := 124) (dk D_X13_readP 63 rfl) ml_13_370 mv_X13_closes rfl rfl (by decide) rfl (Nat.le_of_ble_eq_true rfl) rfl (by decide) he2 h5 hc3 (TV.k fun  S4 h => ?_)
  refine V_aload_n (pc2 := 125) (dk D_X13_readP 64 rfl) rfl (V_lg 0 rfl) rfl ?_
  refine V_bipush (x := 20) (pc2 := 127) (dk D_X13_readP 65 rfl) (by decide) rfl ?_
  refine V_iconst (x := 0) (pc2 := 128) (dk D_X13_readP 66 rfl) (by decide) rfl ?_
  refine V_iload_n (pc2 := 129) (dk D_X13_readP 67 rfl) rfl (V_lg 2 rfl) rfl ?_
  obtain ⟨h11, h⟩ := h
  obtain ⟨e6, he7, hc8⟩ := h
  refine V_callV (as := [_, _, _]) (st := []) (M' := MX13_emit) (ci := 13) (pc2 := 132) (dk D_X13_readP 68 rfl) ml_13_373 mv_X13_emit rfl rfl (by decide) rfl (Nat.le_of_ble_eq_true rfl) rfl he7 h11 hc8 (RI.k fun y9 S10 h => ?_)
  refine V_istore_n (pc2 := 133) (lv2 := [(0, _), (1, _), (2, _), (3, _)]) (dk D_X13_readP 69 rfl) rfl (by decide) rfl rfl ?_
  refine V_aload_n (pc2 := 134) (dk D_X13_readP 70 rfl) rfl (V_lg 0 rfl) rfl ?_
  refine V_iload_n (pc2 := 135) (dk D_X13_readP 71 rfl) rfl (V_lg 1 rfl) rfl ?_
  refine V_iload_n (pc2 := 136) (dk D_X13_readP 72 rfl) rfl (V_lg 2 rfl) rfl ?_
  refine V_iload_n (pc2 := 137) (dk D_X13_readP 73 rfl) rfl (V_lg 3 rfl) rfl ?_
  obtain ⟨h16, h⟩ := h
  obtain ⟨e12, he13, hc14⟩ := h
  refine V_callV (as := [_, _, _]) (st := []) (M' := MX13_asksFor) (ci := 13) (pc2 := 140) (dk D_X13_readP 74 rfl) ml_13_435 mv_X13_asksFor rfl rfl (by decide) rfl (Nat.le_of_ble_eq_true rfl) rfl he13 h16 hc14 (RV.k fun  S15 h => ?_)
  refine V_goto (tgt := 181) (dk D_X13_readP 75 rfl) (by decide) ?_
  refine V_pick [0, 1, 2] (lv2 := [(0, _), (1, _), (2, _)]) rfl ?_
  exact h
theorem w_X13_readP_181 {X : Cx} {d : Nat} {S : Mem} {Q : Res → Mem → Prop} (r0 : Nat) (x1 : Int32) (x2 : Int32) (h : V X d MX13_readP 547 [(0, vR r0)] [] S Q) : V X d MX13_readP 181 [(0, vR r0), (1, vI x1), (2, vI x2)] [] S Q := by
  refine V_goto (tgt := 547) (dk D_X13_readP 100 rfl) (by decide) ?_
  refine V_pick [0] (lv2 := [(0, _)]) rfl ?_
  exact h
theorem w_X13_readP_259 {X : Cx} {d : Nat} {S : Mem} {Q : Res → Mem → Prop} (r0 : Nat) (h : (isK S r0 13) ∧ ∃ e1 : Nat, e1 + 1 ≤ d ∧ C X e1 MX13_isWord [vR r0, vR 24] S (RI fun y4 S5 => ((y4 = 0 → V X d MX13_readP 275 [(0, vR r0)] [vI 15] S5 Q) ∧ (¬ y4 = 0 → V X d MX13_readP 275 [(0, vR r0)] [vI 14] S5 Q)))) : V X d MX13_readP 259 [(0, vR r0)] [] S Q := by
  refine V_aload_n (pc2 := 260) (dk D_X13_readP 138 rfl) rfl (V_lg 0 rfl) rfl ?_
  refine V_ldcs 22 (pc2 := 262) (dk D_X13_readP 139 rfl) rfl rfl ?_
  obtain ⟨h6, h⟩ := h
  obtain ⟨e1, he2, hc3⟩ := h
  refine V_callV (as := [_]) (st := []) (M' := MX13_isWord) (ci := 13) (pc2 := 265) (dk D_X13_readP 140 rfl) ml_13_341 mv_X13_isWord rfl rfl (by decide) rfl (Nat.le_of_ble_eq_true rfl) rfl he2 h6 hc3 (RI.k fun y4 S5 h => ?_)
  refine V_ifeq (tgt := 273) (pc2 := 268) (dk D_X13_readP 141 rfl) (by decide) rfl (fun q7 => ?_) (fun q7 => ?_)
  · have h := h.1 q7
    refine V_bipush (x := 15) (pc2 := 275) (dk D_X13_readP 144 rfl) (by decide) rfl ?_
    exact h
  · have h := h.2 q7
    refine V_bipush (x := 14) (pc2 := 270) (dk D_X13_readP 142 rfl) (by decide) rfl ?_
    refine V_goto (tgt := 275) (dk D_X13_readP 143 rfl) (by decide) ?_
    exact h
theorem w_X13_readP_275 {X : Cx} {d : Nat} {S : Mem} {Q : Res → Mem → Prop} (r0 : Nat) (t0 : Int32) (h : (isK S r0 13) ∧ ∃ e1 : Nat, e1 + 1 ≤ d ∧ C X e1 MX13_opens [vR r0] S (TV Q fun  S4 => ∃ e6 : Nat, e6 + 1 ≤ d ∧ C X e6 MX13_readU [vR r0] S4 (TV Q fun  S9 => (isK S9 r0 13) ∧ ∀ S11 : Mem, S11 = uI S9 r0 12 ((gI S9 r0 12) - 1) → ∃ e12 : Nat, e12 + 1 ≤ d ∧ C X e12 MX13_emit [vR r0, vI t0, vI 0, vI 0] S11 (RI fun y15 S16 => V X d MX13_readP 547 [(0, vR r0)] [] S16 Q)))) : V X d MX13_readP 275 [(0, vR r0)] [vI t0] S Q := by
  refine V_istore_n (pc2 := 276) (lv2 := [(0, _), (2, _)]) (dk D_X13_readP 145 rfl) rfl (by decide) rfl rfl ?_
  refine V_aload_n (pc2 := 277) (dk D_X13_readP 146 rfl) rfl (V_lg 0 rfl) rfl ?_
  obtain ⟨h5, h⟩ := h
  obtain ⟨e1, he2, hc3⟩ := h
  refine V_callVT (as := []) (st := []) (M' := MX13_opens) (ci := 13) (pc2 := 280) (dk D_X13_readP 147 rfl) ml_13_363 mv_X13_opens rfl rfl (by decide) rfl (Nat.le_of_ble_eq_true rfl) rfl (by decide) he2 h5 hc3 (TV.k fun  S4 h => ?_)
  refine V_aload_n (pc2 := 281) (dk D_X13_readP 148 rfl) rfl (V_lg 0 rfl) rfl ?_
  obtain ⟨e6, he7, hc8⟩ := h
  refine V_callST (as := [_]) (st := []) (M' := MX13_readU) (pc2 := 284) (dk D_X13_readP 149 rfl) ml_13_425 mv_X13_readU rfl rfl (Nat.le_of_ble_eq_true rfl) rfl (by decide) he7 hc8 (TV.k fun  S9 h => ?_)
  refine V_aload_n (pc2 := 285) (dk D_X13_readP 150 rfl) rfl (V_lg 0 rfl) rfl ?_
  refine V_dup (pc2 := 286) (dk D_X13_readP 151 rfl) rfl rfl ?_
  obtain ⟨h10, h⟩ := h
  refine V_getI kc13 (pc2 := 289) 12 (dk D_X13_readP 152 rfl) fl_13_345 (by decide) (fun _ => rfl) rfl h10 ?_
  refine V_iconst (x := 1) (pc2 := 290) (dk D_X13_readP 153 rfl) (by decide) rfl ?_
  refine V_isub (pc2 := 291) (dk D_X13_readP 154 rfl) rfl ?_
  refine V_putI kc13 (pc2 := 294) 12 (dk D_X13_readP 155 rfl) fl_13_345 (by decide) (Or.inl rfl) rfl rfl h10 ?_
  have h := h _ rfl
  refine V_aload_n (pc2 := 295) (dk D_X13_readP 156 rfl) rfl (V_lg 0 rfl) rfl ?_
  refine V_iload_n (pc2 := 296) (dk D_X13_readP 157 rfl) rfl (V_lg 1 rfl) rfl ?_
  refine V_iconst (x := 0) (pc2 := 297) (dk D_X13_readP 158 rfl) (by decide) rfl ?_
  refine V_iconst (x := 0) (pc2 := 298) (dk D_X13_readP 159 rfl) (by decide) rfl ?_
  obtain ⟨e12, he13, hc14⟩ := h
  refine V_callV (as := [_, _, _]) (st := []) (M' := MX13_emit) (ci := 13) (pc2 := 301) (dk D_X13_readP 160 rfl) ml_13_373 mv_X13_emit rfl rfl (by decide) rfl (Nat.le_of_ble_eq_true rfl) rfl he13 h10 hc14 (RI.k fun y15 S16 h => ?_)
  refine V_istore_n (pc2 := 302) (lv2 := [(0, _), (1, _), (2, _)]) (dk D_X13_readP 161 rfl) rfl (by decide) rfl rfl ?_
  refine V_goto (tgt := 547) (dk D_X13_readP 162 rfl) (by decide) ?_
  refine V_pick [0] (lv2 := [(0, _)]) rfl ?_
  exact h
theorem w_X13_readP_351 {X : Cx} {d : Nat} {S : Mem} {Q : Res → Mem → Prop} (r0 : Nat) (x2 : Int32) (h : (isK S r0 13) ∧ ∃ e1 : Nat, e1 + 1 ≤ d ∧ C X e1 MX13_opens [vR r0] S (TV Q fun  S4 => (isK S4 r0 13) ∧ ∃ e6 : Nat, e6 + 1 ≤ d ∧ C X e6 MX13_isSign [vR r0, vI 41] S4 (RI fun y9 S10 => ((¬ y9 = 0 → V X d MX13_readP 372 [(0, vR r0), (2, vI x2), (3, vI 0)] [] S10 Q) ∧ (y9 = 0 → ∃ e13 : Nat, e13 + 1 ≤ d ∧ C X e13 MX13_readE [vR r0] S10 (TV Q fun  S16 => V X d MX13_readP 372 [(0, vR r0), (2, vI x2), (3, vI 1)] [] S16 Q)))))) : V X d MX13_readP 351 [(0, vR r0), (2, vI x2)] [] S Q := by
  refine V_aload_n (pc2 := 352) (dk D_X13_readP 187 rfl) rfl (V_lg 0 rfl) rfl ?_
  obtain ⟨h5, h⟩ := h
  obtain ⟨e1, he2, hc3⟩ := h
  refine V_callVT (as := []) (st := []) (M' := MX13_opens) (ci := 13) (pc2 := 355) (dk D_X13_readP 188 rfl) ml_13_363 mv_X13_opens rfl rfl (by decide) rfl (Nat.le_of_ble_eq_true rfl) rfl (by decide) he2 h5 hc3 (TV.k fun  S4 h => ?_)
  refine V_iconst (x := 0) (pc2 := 356) (dk D_X13_readP 189 rfl) (by decide) rfl ?_
  refine V_istore_n (pc2 := 357) (lv2 := [(0, _), (2, _), (3, _)]) (dk D_X13_readP 190 rfl) rfl (by decide) rfl rfl ?_
  refine V_aload_n (pc2 := 358) (dk D_X13_readP 191 rfl) rfl (V_lg 0 rfl) rfl ?_
  refine V_bipush (x := 41) (pc2 := 360) (dk D_X13_readP 192 rfl) (by decide) rfl ?_
  obtain ⟨h11, h⟩ := h
  obtain ⟨e6, he7, hc8⟩ := h
  refine V_callV (as := [_]) (st := []) (M' := MX13_isSign) (ci := 13) (pc2 := 363) (dk D_X13_readP 193 rfl) ml_13_334 mv_X13_isSign rfl rfl (by decide) rfl (Nat.le_of_ble_eq_true rfl) rfl he7 h11 hc8 (RI.k fun y9 S10 h => ?_)
  refine V_ifne (tgt := 372) (pc2 := 366) (dk D_X13_readP 194 rfl) (by decide) rfl (fun q12 => ?_) (fun q12 => ?_)
  · have h := h.1 q12
    exact h
  · have h := h.2 q12
    refine V_aload_n (pc2 := 367) (dk D_X13_readP 195 rfl) rfl (V_lg 0 rfl) rfl ?_
    obtain ⟨e13, he14, hc15⟩ := h
    refine V_callST (as := [_]) (st := []) (M' := MX13_readE) (pc2 := 370) (dk D_X13_readP 196 rfl) ml_13_377 mv_X13_readE rfl rfl (Nat.le_of_ble_eq_true rfl) rfl (by decide) he14 hc15 (TV.k fun  S16 h => ?_)
    refine V_iconst (x := 1) (pc2 := 371) (dk D_X13_readP 197 rfl) (by decide) rfl ?_
    refine V_istore_n (pc2 := 372) (lv2 := [(0, _), (2, _), (3, _)]) (dk D_X13_readP 198 rfl) rfl (by decide) rfl rfl ?_
    exact h
theorem w_X13_readP_372 {X : Cx} {d : Nat} {S : Mem} {Q : Res → Mem → Prop} (r0 : Nat) (x2 : Int32) (x3 : Int32) (h : (isK S r0 13) ∧ ∃ e1 : Nat, e1 + 1 ≤ d ∧ C X e1 MX13_closes [vR r0, vI 41] S (TV Q fun  S4 => (isK S4 r0 13) ∧ ∃ e6 : Nat, e6 + 1 ≤ d ∧ C X e6 MX13_emit [vR r0, vI 16, vI 0, vI x3] S4 (RI fun y9 S10 => (isK S10 r0 13) ∧ ∃ e12 : Nat, e12 + 1 ≤ d ∧ C X e12 MX13_asksFor [vR r0, vI y9, vI x2, vI x3] S10 (RV fun  S15 => V X d MX13_readP 547 [(0, vR r0)] [] S15 Q)))) : V X d MX13_readP 372 [(0, vR r0), (2, vI x2), (3, vI x3)] [] S Q := by
  refine V_aload_n (pc2 := 373) (dk D_X13_readP 199 rfl) rfl (V_lg 0 rfl) rfl ?_
  refine V_bipush (x := 41) (pc2 := 375) (dk D_X13_readP 200 rfl) (by decide) rfl ?_
  obtain ⟨h5, h⟩ := h
  obtain ⟨e1, he2, hc3⟩ := h
  refine V_callVT (as := [_]) (st := []) (M' := MX13_closes) (ci := 13) (pc2 := 378) (dk D_X13_readP 201 rfl) ml_13_370 mv_X13_closes rfl rfl (by decide) rfl (Nat.le_of_ble_eq_true rfl) rfl (by decide) he2 h5 hc3 (TV.k fun  S4 h => ?_)
  refine V_aload_n (pc2 := 379) (dk D_X13_readP 202 rfl) rfl (V_lg 0 rfl) rfl ?_
  refine V_bipush (x := 16) (pc2 := 381) (dk D_X13_readP 203 rfl) (by decide) rfl ?_
  refine V_iconst (x := 0) (pc2 := 382) (dk D_X13_readP 204 rfl) (by decide) rfl ?_
  refine V_iload_n (pc2 := 383) (dk D_X13_readP 205 rfl) rfl (V_lg 2 rfl) rfl ?_
  obtain ⟨h11, h⟩ := h
  obtain ⟨e6, he7, hc8⟩ := h
  refine V_callV (as := [_, _, _]) (st := []) (M' := MX13_emit) (ci := 13) (pc2 := 386) (dk D_X13_readP 206 rfl) ml_13_373 mv_X13_emit rfl rfl (by decide) rfl (Nat.le_of_ble_eq_true rfl) rfl he7 h11 hc8 (RI.k fun y9 S10 h => ?_)
  refine V_istore_n (pc2 := 387) (lv2 := [(0, _), (1, _), (2, _), (3, _)]) (dk D_X13_readP 207 rfl) rfl (by decide) rfl rfl ?_
  refine V_aload_n (pc2 := 388) (dk D_X13_readP 208 rfl) rfl (V_lg 0 rfl) rfl ?_
  refine V_iload_n (pc2 := 389) (dk D_X13_readP 209 rfl) rfl (V_lg 1 rfl) rfl ?_
  refine V_iload_n (pc2 := 390) (dk D_X13_readP 210 rfl) rfl (V_lg 2 rfl) rfl ?_
  refine V_iload_n (pc2 := 391) (dk D_X13_readP 211 rfl) rfl (V_lg 3 rfl) rfl ?_
  obtain ⟨h16, h⟩ := h
  obtain ⟨e12, he13, hc14⟩ := h
  refine V_callV (as := [_, _, _]) (st := []) (M' := MX13_asksFor) (ci := 13) (pc2 := 394) (dk D_X13_readP 212 rfl) ml_13_435 mv_X13_asksFor rfl rfl (by decide) rfl (Nat.le_of_ble_eq_true rfl) rfl he13 h16 hc14 (RV.k fun  S15 h => ?_)
  refine V_goto (tgt := 547) (dk D_X13_readP 213 rfl) (by decide) ?_
  refine V_pick [0] (lv2 := [(0, _)]) rfl ?_
  exact h
theorem w_X13_readP_415 {X : Cx} {d : Nat} {S : Mem} {Q : Res → Mem → Prop} (r0 : Nat) (h : (isK S r0 13) ∧ ∃ e1 : Nat, e1 + 1 ≤ d ∧ C X e1 MX13_isWord [vR r0, vR 17] S (RI fun y4 S5 => ((y4 = 0 → V X d MX13_readP 431 [(0, vR r0)] [vI 19] S5 Q) ∧ (¬ y4 = 0 → V X d MX13_readP 431 [(0, vR r0)] [vI 17] S5 Q)))) : V X d MX13_readP 415 [(0, vR r0)] [] S Q := by
  refine V_aload_n (pc2 := 416) (dk D_X13_readP 222 rfl) rfl (V_lg 0 rfl) rfl ?_
  refine V_ldcs 15 (pc2 := 418) (dk D_X13_readP 223 rfl) rfl rfl ?_
  obtain ⟨h6, h⟩ := h
  obtain ⟨e1, he2, hc3⟩ := h
  refine V_callV (as := [_]) (st := []) (M' := MX13_isWord) (ci := 13) (pc2 := 421) (dk D_X13_readP 224 rfl) ml_13_341 mv_X13_isWord rfl rfl (by decide) rfl (Nat.le_of_ble_eq_true rfl) rfl he2 h6 hc3 (RI.k fun y4 S5 h => ?_)
  refine V_ifeq (tgt := 429) (pc2 := 424) (dk D_X13_readP 225 rfl) (by decide) rfl (fun q7 => ?_) (fun q7 => ?_)
  · have h := h.1 q7
    refine V_bipush (x := 19) (pc2 := 431) (dk D_X13_readP 228 rfl) (by decide) rfl ?_
    exact h
  · have h := h.2 q7
    refine V_bipush (x := 17) (pc2 := 426) (dk D_X13_readP 226 rfl) (by decide) rfl ?_
    refine V_goto (tgt := 431) (dk D_X13_readP 227 rfl) (by decide) ?_
    exact h
theorem w_X13_readP_431 {X : Cx} {d : Nat} {S : Mem} {Q : Res → Mem → Prop} (r0 : Nat) (t0 : Int32) (h : (isK S r0 13) ∧ ∃ e1 : Nat, e1 + 1 ≤ d ∧ C X e1 MX13_opens [vR r0] S (TV Q fun  S4 => ∃ e6 : Nat, e6 + 1 ≤ d ∧ C X e6 MX13_readU [vR r0] S4 (TV Q fun  S9 => (isK S9 r0 13) ∧ ∃ e10 : Nat, e10 + 1 ≤ d ∧ C X e10 MX13_mustWord [vR r0, vR 21] S9 (TV Q fun  S13 => ∃ e15 : Nat, e15 + 1 ≤ d ∧ C X e15 MX13_readU [vR r0] S13 (TV Q fun  S18 => (isK S18 r0 13) ∧ ∀ S20 : Mem, S20 = uI S18 r0 12 ((gI S18 r0 12) - 1) → ∃ e21 : Nat, e21 + 1 ≤ d ∧ C X e21 MX13_emit [vR r0, vI t0, vI 0, vI 0] S20 (RI fun y24 S25 => V X d MX13_readP 547 [(0, vR r0)] [] S25 Q)))))) : V X d MX13_readP 431 [(0, vR r0)] [vI t0] S Q := by
  refine V_istore_n (pc2 := 432) (lv2 := [(0, _), (2, _)]) (dk D_X13_readP 229 rfl) rfl (by decide) rfl rfl ?_
  refine V_aload_n (pc2 := 433) (dk D_X13_readP 230 rfl) rfl (V_lg 0 rfl) rfl ?_
  obtain ⟨h5, h⟩ := h
  obtain ⟨e1, he2, hc3⟩ := h
  refine V_callVT (as := []) (st := []) (M' := MX13_opens) (ci := 13) (pc2 := 436) (dk D_X13_readP 231 rfl) ml_13_363 mv_X13_opens rfl rfl (by decide) rfl (Nat.le_of_ble_eq_true rfl) rfl (by decide) he2 h5 hc3 (TV.k fun  S4 h => ?_)
  refine V_aload_n (pc2 := 437) (dk D_X13_readP 232 rfl) rfl (V_lg 0 rfl) rfl ?_
  obtain ⟨e6, he7, hc8⟩ := h
  refine V_callST (as := [_]) (st := []) (M' := MX13_readU) (pc2 := 440) (dk D_X13_readP 233 rfl) ml_13_425 mv_X13_readU rfl rfl (Nat.le_of_ble_eq_true rfl) rfl (by decide) he7 hc8 (TV.k fun  S9 h => ?_)
  refine V_aload_n (pc2 := 441) (dk D_X13_readP 234 rfl) rfl (V_lg 0 rfl) rfl ?_
  refine V_ldcs 19 (pc2 := 443) (dk D_X13_readP 235 rfl) rfl rfl ?_
  obtain ⟨h14, h⟩ := h
  obtain ⟨e10, he11, hc12⟩ := h
  refine V_callVT (as := [_]) (st := []) (M' := MX13_mustWord) (ci := 13) (pc2 := 446) (dk D_X13_readP 236 rfl) ml_13_406 mv_X13_mustWord rfl rfl (by decide) rfl (Nat.le_of_ble_eq_true rfl) rfl (by decide) he11 h14 hc12 (TV.k fun  S13 h => ?_)
  refine V_aload_n (pc2 := 447) (dk D_X13_readP 237 rfl) rfl (V_lg 0 rfl) rfl ?_
  obtain ⟨e15, he16, hc17⟩ := h
  refine V_callST (as := [_]) (st := []) (M' := MX13_readU) (pc2 := 450) (dk D_X13_readP 238 rfl) ml_13_425 mv_X13_readU rfl rfl (Nat.le_of_ble_eq_true rfl) rfl (by decide) he16 hc17 (TV.k fun  S18 h => ?_)
  refine V_aload_n (pc2 := 451) (dk D_X13_readP 239 rfl) rfl (V_lg 0 rfl) rfl ?_
  refine V_dup (pc2 := 452) (dk D_X13_readP 240 rfl) rfl rfl ?_
  obtain ⟨h19, h⟩ := h
  refine V_getI kc13 (pc2 := 455) 12 (dk D_X13_readP 241 rfl) fl_13_345 (by decide) (fun _ => rfl) rfl h19 ?_
  refine V_iconst (x := 1) (pc2 := 456) (dk D_X13_readP 242 rfl) (by decide) rfl ?_
  refine V_isub (pc2 := 457) (dk D_X13_readP 243 rfl) rfl ?_
  refine V_putI kc13 (pc2 := 460) 12 (dk D_X13_readP 244 rfl) fl_13_345 (by decide) (Or.inl rfl) rfl rfl h19 ?_
  have h := h _ rfl
  refine V_aload_n (pc2 := 461) (dk D_X13_readP 245 rfl) rfl (V_lg 0 rfl) rfl ?_
  refine V_iload_n (pc2 := 462) (dk D_X13_readP 246 rfl) rfl (V_lg 1 rfl) rfl ?_
  refine V_iconst (x := 0) (pc2 := 463) (dk D_X13_readP 247 rfl) (by decide) rfl ?_
  refine V_iconst (x := 0) (pc2 := 464) (dk D_X13_readP 248 rfl) (by decide) rfl ?_
  obtain ⟨e21, he22, hc23⟩ := h
  refine V_callV (as := [_, _, _]) (st := []) (M' := MX13_emit) (ci := 13) (pc2 := 467) (dk D_X13_readP 249 rfl) ml_13_373 mv_X13_emit rfl rfl (by decide) rfl (Nat.le_of_ble_eq_true rfl) rfl he22 h19 hc23 (RI.k fun y24 S25 h => ?_)
  refine V_istore_n (pc2 := 468) (lv2 := [(0, _), (1, _), (2, _)]) (dk D_X13_readP 250 rfl) rfl (by decide) rfl rfl ?_
  refine V_goto (tgt := 547) (dk D_X13_readP 251 rfl) (by decide) ?_
  refine V_pick [0] (lv2 := [(0, _)]) rfl ?_
  exact h
theorem w_X13_readP_547 {X : Cx} {d : Nat} {S : Mem} {Q : Res → Mem → Prop} (r0 : Nat) (h : Q (.inl none) S) : V X d MX13_readP 547 [(0, vR r0)] [] S Q := by
  exact V_return (dk D_X13_readP 293 rfl) rfl h
def L_X13_readBody : List (Nat × Instr × Nat) := [(0, .aload_n 0, 1), (1, .getfield 445, 3), (4, .bipush 12, 2), (6, .if_icmp .eq 21, 3), (9, .aload_n 0, 1), (10, .ldc 42, 2), (12, .invokevirtual 341, 3), (15, .ifCond .ne 25, 3), (18, .aload_n 0, 1), (19, .ldc 44, 2), (21, .invokevirtual 341, 3), (24, .ifCond .ne 16, 3), (27, .aload_n 0, 1), (28, .aload_n 0, 1), (29, .getfield 27, 3), (32, .aload_n 0, 1), (33, .getfield 331, 3), (36, .iaload, 1), (37, .invokevirtual 337, 3), (40, .aload_n 0, 1), (41, .ldc 42, 2), (43, .invokevirtual 341, 3), (46, .istore_n 1, 1), (47, .aload_n 0, 1), (48, .dup, 1), (49, .getfield 331, 3), (52, .iconst 1, 1), (53, .iadd, 1), (54, .putfield 331, 3), (57, .aload_n 0, 1), (58, .invokevirtual 399, 3), (61, .istore_n 2, 1), (62, .aload_n 0, 1), (63, .getfield 445, 3), (66, .istore_n 3, 1), (67, .aload_n 0, 1), (68, .getfield 104, 3), (71, .iload_n 3, 1), (72, .iload_n 1, 1), (73, .ifCond .eq 7, 3), (76, .iconst 1, 1), (77, .goto 4, 3), (80, .iconst 0, 1), (81, .iastore, 1), (82, .aload_n 0, 1), (83, .getfield 113, 3), (86, .iload_n 3, 1), (87, .aload_n 0, 1), (88, .getfield 27, 3), (91, .iload_n 2, 1), (92, .iaload, 1), (93, .iastore, 1), (94, .iconst 0, 1), (95, .istore 4, 2), (97, .iload 4, 2), (99, .iload_n 3, 1), (100, .if_icmp .ge 31, 3), (103, .aload_n 0, 1), (104, .getfield 122, 3), (107, .iload 4, 2), (109, .laload, 1), (110, .aload_n 0, 1), (111, .getfield 36, 3), (114, .iload_n 2, 1), (115, .laload, 1), (116, .lcmp, 1), (117, .ifCond .ne 8, 3), (120, .aload_n 0, 1), (121, .iload_n 2, 1), (122, .invokevirtual 360, 3), (125, .iinc 4 1, 3), (128, .goto (-31), 3), (131, .aload_n 0, 1), (132, .getfield 122, 3), (135, .iload_n 3, 1), (136, .aload_n 0, 1), (137, .getfield 36, 3), (140, .iload_n 2, 1), (141, .laload, 1), (142, .lastore, 1), (143, .aload_n 0, 1), (144, .dup, 1), (145, .getfield 445, 3), (148, .iconst 1, 1), (149, .iadd, 1), (150, .putfield 445, 3), (153, .aload_n 0, 1), (154, .iconst 0, 1), (155, .putfield 357, 3), (158, .aload_n 0, 1), (159, .iconst 0, 1), (160, .putfield 439, 3), (163, .aload_n 0, 1), (164, .bipush 40, 2), (166, .invokevirtual 334, 3), (169, .ifCond .ne 16, 3), (172, .aload_n 0, 1), (173, .aload_n 0, 1), (174, .getfield 27, 3), (177, .aload_n 0, 1), (178, .getfield 331, 3), (181, .iaload, 1), (182, .invokevirtual 337, 3), (185, .aload_n 0, 1), (186, .invokevirtual 363, 3), (189, .iconst 0, 1), (190, .istore 4, 2), (192, .aload_n 0, 1), (193, .getfield 23, 3), (196, .aload_n 0, 1), (197, .getfield 331, 3), (200, .iaload, 1), (201, .iconst 1, 1), (202, .if_icmp .eq 17, 3), (205, .iload 4, 2), (207, .ifCond .le 120, 3), (210, .aload_n 0, 1), (211, .bipush 41, 2), (213, .invokevirtual 334, 3), (216, .ifCond .ne 111, 3), (219, .iload 4, 2), (221, .ifCond .le 26, 3), (224, .iload_n 1, 1), (225, .ifCond .eq 16, 3), (228, .aload_n 0, 1), (229, .aload_n 0, 1), (230, .getfield 27, 3), (233, .aload_n 0, 1), (234, .getfield 331, 3), (237, .iaload, 1), (238, .invokevirtual 337, 3), (241, .aload_n 0, 1), (242, .bipush 44, 2), (244, .invokevirtual 348, 3), (247, .iload 4, 2), (249, .iconst 4, 1), (250, .if_icmp .ne 16, 3), (253, .aload_n 0, 1), (254, .aload_n 0, 1), (255, .getfield 27, 3), (258, .aload_n 0, 1), (259, .getfield 331, 3), (262, .iaload, 1), (263, .invokevirtual 337, 3), (266, .aload_n 0, 1), (267, .invokevirtual 399, 3), (270, .istore 5, 2), (272, .aload_n 0, 1), (273, .getfield 357, 3), (276, .istore 6, 2), (278, .aload_n 0, 1), (279, .iload 5, 2), (281, .invokevirtual 402, 3), (284, .istore 7, 2), (286, .aload_n 0, 1), (287, .getfield 357, 3), (290, .iload 6, 2), (292, .if_icmp .ne 29, 3), (295, .aload_n 0, 1), (296, .iload 5, 2), (298, .invokevirtual 360, 3), (301, .aload_n 0, 1), (302, .getfield 119, 3), (305, .aload_n 0, 1), (306, .getfield 357, 3), (309, .lconst 0, 1), (310, .lastore, 1), (311, .aload_n 0, 1), (312, .dup, 1), (313, .getfield 357, 3), (316, .iconst 1, 1), (317, .iadd, 1), (318, .putfield 357, 3), (321, .iinc 4 1, 3), (324, .goto (-132), 3), (327, .aload_n 0, 1), (328, .bipush 41, 2), (330, .invokevirtual 370, 3), (333, .aload_n 0, 1), (334, .getfield 107, 3), (337, .iload_n 3, 1), (338, .iload 4, 2), (340, .iastore, 1), (341, .aload_n 0, 1), (342, .getfield 116, 3), (345, .iload_n 3, 1), (346, .aload_n 0, 1), (347, .getfield 351, 3), (350, .iastore, 1), (351, .aload_n 0, 1), (352, .iconst 0, 1), (353, .putfield 389, 3), (356, .aload_n 0, 1), (357, .iconst 0, 1), (358, .putfield 410, 3), (361, .aload_n 0, 1), (362, .invokestatic 383, 3), (365, .aload_n 0, 1), (366, .iconst 1, 1), (367, .iconst 0, 1), (368, .iconst 0, 1), (369, .invokevirtual 373, 3), (372, .istore 5, 2), (374, .aload_n 0, 1), (375, .bipush 26, 2), (377, .iconst 0, 1), (378, .iconst 0, 1), (379, .invokevirtual 373, 3), (382, .istore 5, 2), (384, .aload_n 0, 1), (385, .getfield 110, 3), (388, .iload_n 3, 1), (389, .aload_n 0, 1), (390, .getfield 357, 3), (393, .iastore, 1), (394, .iconst 0, 1), (395, .istore 6, 2), (397, .iload 6, 2), (399, .aload_n 0, 1), (400, .getfield 439, 3), (403, .if_icmp .ge 102, 3), (406, .bipush (-9), 2), (408, .istore 7, 2), (410, .iconst 0, 1), (411, .istore 8, 2), (413, .iload 8, 2), (415, .aload_n 0, 1), (416, .getfield 357, 3), (419, .if_icmp .ge 48, 3), (422, .iload 7, 2), (424, .bipush (-9), 2), (426, .if_icmp .ne 31, 3), (429, .aload_n 0, 1), (430, .getfield 119, 3), (433, .iload 8, 2), (435, .laload, 1), (436, .aload_n 0, 1), (437, .getfield 36, 3), (440, .aload_n 0, 1), (441, .getfield 155, 3), (444, .iload 6, 2), (446, .iaload, 1), (447, .laload, 1), (448, .lcmp, 1), (449, .ifCond .ne 8, 3), (452, .iload 8, 2), (454, .goto 5, 3), (457, .iload 7, 2), (459, .istore 7, 2), (461, .iinc 8 1, 3), (464, .goto (-51), 3), (467, .iload 7, 2), (469, .bipush (-9), 2), (471, .if_icmp .ne 14, 3), (474, .aload_n 0, 1), (475, .aload_n 0, 1), (476, .getfield 155, 3), (479, .iload 6, 2), (481, .iaload, 1), (482, .invokevirtual 360, 3), (485, .aload_n 0, 1), (486, .getfield 95, 3), (489, .aload_n 0, 1), (490, .getfield 152, 3), (493, .iload 6, 2), (495, .iaload, 1), (496, .iload 7, 2), (498, .iastore, 1), (499, .iinc 6 1, 3), (502, .goto (-105), 3), (505, .return_, 1)]
theorem D_X13_readBody : dOk cX13_readBody L_X13_readBody = true := by decide +kernel
theorem w_X13_readBody_0 {X : Cx} {d : Nat} {S : Mem} {Q : Res → Mem → Prop} (r0 : Nat) (h : (isK S r0 13) ∧ (((gI S r0 18) = 12 → V X d MX13_readBody 27 [(0, vR r0)] [] S Q) ∧ (¬ (gI S r0 18) = 12 → ∃ e3 : Nat, e3 + 1 ≤ d ∧ C X e3 MX13_isWord [vR r0, vR 4] S (RI fun y6 S7 => ((¬ y6 = 0 → V X d MX13_readBody 40 [(0, vR r0)] [] S7 Q) ∧ (y6 = 0 → (isK S7 r0 13) ∧ ∃ e9 : Nat, e9 + 1 ≤ d ∧ C X e9 MX13_isWord [vR r0, vR 5] S7 (RI fun y12 S13 => ((¬ y12 = 0 → V X d MX13_readBody 40 [(0, vR r0)] [] S13 Q) ∧ (y12 = 0 → V X d MX13_readBody 27 [(0, vR r0)] [] S13 Q))))))))) : V X d MX13_readBody 0 [(0, vR r0)] [] S Q := by
  refine V_aload_n (pc2 := 1) (dk D_X13_readBody 0 rfl) rfl (V_lg 0 rfl) rfl ?_
  obtain ⟨h1, h⟩ := h
  refine V_getI kc13 (pc2 := 4) 18 (dk D_X13_readBody 1 rfl) fl_13_445 (by decide) (fun _ => rfl) rfl h1 ?_
  refine V_bipush (x := 12) (pc2 := 6) (dk D_X13_readBody 2 rfl) (by decide) rfl ?_
  refine V_cmpeq (tgt := 27) (pc2 := 9) (dk D_X13_readBody 3 rfl) (by decide) rfl (fun q2 => ?_) (fun q2 => ?_)
  · have h := h.1 q2
    exact h
  · have h := h.2 q2
    refine V_aload_n (pc2 := 10) (dk D_X13_readBody 4 rfl) rfl (V_lg 0 rfl) rfl ?_
    refine V_ldcs 2 (pc2 := 12) (dk D_X13_readBody 5 rfl) rfl rfl ?_
    obtain ⟨e3, he4, hc5⟩ := h
    refine V_callV (as := [_]) (st := []) (M' := MX13_isWord) (ci := 13) (pc2 := 15) (dk D_X13_readBody 6 rfl) ml_13_341 mv_X13_isWord rfl rfl (by decide) rfl (Nat.le_of_ble_eq_true rfl) rfl he4 h1 hc5 (RI.k fun y6 S7 h => ?_)
    refine V_ifne (tgt := 40) (pc2 := 18) (dk D_X13_readBody 7 rfl) (by decide) rfl (fun q8 => ?_) (fun q8 => ?_)
    · have h := h.1 q8
      exact h
    · have h := h.2 q8
      refine V_aload_n (pc2 := 19) (dk D_X13_readBody 8 rfl) rfl (V_lg 0 rfl) rfl ?_
      refine V_ldcs 3 (pc2 := 21) (dk D_X13_readBody 9 rfl) rfl rfl ?_
      obtain ⟨h14, h⟩ := h
      obtain ⟨e9, he10, hc11⟩ := h
      refine V_callV (as := [_]) (st := []) (M' := MX13_isWord) (ci := 13) (pc2 := 24) (dk D_X13_readBody 10 rfl) ml_13_341 mv_X13_isWord rfl rfl (by decide) rfl (Nat.le_of_ble_eq_true rfl) rfl he10 h14 hc11 (RI.k fun y12 S13 h => ?_)
      refine V_ifne (tgt := 40) (pc2 := 27) (dk D_X13_readBody 11 rfl) (by decide) rfl (fun q15 => ?_) (fun q15 => ?_)
      · have h := h.1 q15
        exact h
      · have h := h.2 q15
        exact h
theorem w_X13_readBody_27 {X : Cx} {d : Nat} {S : Mem} {Q : Res → Mem → Prop} (r0 : Nat) (h : (isK S r0 13) ∧ (isK S (gR S r0 6) 21) ∧ (vp_in (gI S r0 10) (gN S (gR S r0 6))) ∧ ∃ e4 : Nat, e4 + 1 ≤ d ∧ C X e4 MX13_fail [vR r0, vI (gI S (gR S r0 6) ((gI S r0 10) : Int32).toNatClampNeg)] S (TV Q fun  S7 => V X d MX13_readBody 40 [(0, vR r0)] [] S7 Q)) : V X d MX13_readBody 27 [(0, vR r0)] [] S Q := by
  refine V_aload_n (pc2 := 28) (dk D_X13_readBody 12 rfl) rfl (V_lg 0 rfl) rfl ?_
  refine V_aload_n (pc2 := 29) (dk D_X13_readBody 13 rfl) rfl (V_lg 0 rfl) rfl ?_
  obtain ⟨h1, h⟩ := h
  refine V_getR kc13 (pc2 := 32) 6 (dk D_X13_readBody 14 rfl) fl_13_27 (by decide) (fun _ => rfl) rfl h1 ?_
  refine V_aload_n (pc2 := 33) (dk D_X13_readBody 15 rfl) rfl (V_lg 0 rfl) rfl ?_
  refine V_getI kc13 (pc2 := 36) 10 (dk D_X13_readBody 16 rfl) fl_13_331 (by decide) (fun _ => rfl) rfl h1 ?_
  obtain ⟨h2, h⟩ := h
  obtain ⟨h3, h⟩ := h
  refine V_iald (pc2 := 37) (dk D_X13_readBody 17 rfl) rfl h2 h3 ?_
  obtain ⟨e4, he5, hc6⟩ := h
  refine V_callVT (as := [_]) (st := []) (M' := MX13_fail) (ci := 13) (pc2 := 40) (dk D_X13_readBody 18 rfl) ml_13_337 mv_X13_fail rfl rfl (by decide) rfl (Nat.le_of_ble_eq_true rfl) rfl (by decide) he5 h1 hc6 (TV.k fun  S7 h => ?_)
  exact h
theorem w_X13_readBody_40 {X : Cx} {d : Nat} {S : Mem} {Q : Res → Mem → Prop} (r0 : Nat) (h : (isK S r0 13) ∧ ∃ e1 : Nat, e1 + 1 ≤ d ∧ C X e1 MX13_isWord [vR r0, vR 4] S (RI fun y4 S5 => (isK S5 r0 13) ∧ ∀ S8 : Mem, S8 = uI S5 r0 10 ((gI S5 r0 10) + 1) → ∃ e9 : Nat, e9 + 1 ≤ d ∧ C X e9 MX13_mustName [vR r0] S8 (TI Q fun y12 S13 => (isK S13 r0 13) ∧ ((y4 = 0 → V X d MX13_readBody 81 [(0, vR r0), (1, vI y4), (2, vI y12), (3, vI (gI S13 r0 18))] [vI 0, vI (gI S13 r0 18), vR (gR S13 r0 19)] S13 Q) ∧ (¬ y4 = 0 → V X d MX13_readBody 81 [(0, vR r0), (1, vI y4), (2, vI y12), (3, vI (gI S13 r0 18))] [vI 1, vI (gI S13 r0 18), vR (gR S13 r0 19)] S13 Q))))) : V X d MX13_readBody 40 [(0, vR r0)] [] S Q := by
  refine V_aload_n (pc2 := 41) (dk D_X13_readBody 19 rfl) rfl (V_lg 0 rfl) rfl ?_
  refine V_ldcs 2 (pc2 := 43) (dk D_X13_readBody 20 rfl) rfl rfl ?_
  obtain ⟨h6, h⟩ := h
  obtain ⟨e1, he2, hc3⟩ := h
  refine V_callV (as := [_]) (st := []) (M' := MX13_isWord) (ci := 13) (pc2 := 46) (dk D_X13_readBody 21 rfl) ml_13_341 mv_X13_isWord rfl rfl (by decide) rfl (Nat.le_of_ble_eq_true rfl) rfl he2 h6 hc3 (RI.k fun y4 S5 h => ?_)
  refine V_istore_n (pc2 := 47) (lv2 := [(0, _), (1, _)]) (dk D_X13_readBody 22 rfl) rfl (by decide) rfl rfl ?_
  refine V_aload_n (pc2 := 48) (dk D_X13_readBody 23 rfl) rfl (V_lg 0 rfl) rfl ?_
  refine V_dup (pc2 := 49) (dk D_X13_readBody 24 rfl) rfl rfl ?_
  obtain ⟨h7, h⟩ := h
  refine V_getI kc13 (pc2 := 52) 10 (dk D_X13_readBody 25 rfl) fl_13_331 (by decide) (fun _ => rfl) rfl h7 ?_
  refine V_iconst (x := 1) (pc2 := 53) (dk D_X13_readBody 26 rfl) (by decide) rfl ?_
  refine V_iadd (pc2 := 54) (dk D_X13_readBody 27 rfl) rfl ?_
  refine V_putI kc13 (pc2 := 57) 10 (dk D_X13_readBody 28 rfl) fl_13_331 (by decide) (Or.inl rfl) rfl rfl h7 ?_
  have h := h _ rfl
  refine V_aload_n (pc2 := 58) (dk D_X13_readBody 29 rfl) rfl (V_lg 0 rfl) rfl ?_
  obtain ⟨e9, he10, hc11⟩ := h
  refine V_callVT (as := []) (st := []) (M' := MX13_mustName) (ci := 13) (pc2 := 61) (dk D_X13_readBody 30 rfl) ml_13_399 mv_X13_mustName rfl rfl (by decide) rfl (Nat.le_of_ble_eq_true rfl) rfl (by decide) he10 h7 hc11 (TI.k fun y12 S13 h => ?_)
  refine V_istore_n (pc2 := 62) (lv2 := [(0, _), (1, _), (2, _)]) (dk D_X13_readBody 31 rfl) rfl (by decide) rfl rfl ?_
  refine V_aload_n (pc2 := 63) (dk D_X13_readBody 32 rfl) rfl (V_lg 0 rfl) rfl ?_
  obtain ⟨h14, h⟩ := h
  refine V_getI kc13 (pc2 := 66) 18 (dk D_X13_readBody 33 rfl) fl_13_445 (by decide) (fun _ => rfl) rfl h14 ?_
  refine V_istore_n (pc2 := 67) (lv2 := [(0, _), (1, _), (2, _), (3, _)]) (dk D_X13_readBody 34 rfl) rfl (by decide) rfl rfl ?_
  refine V_aload_n (pc2 := 68) (dk D_X13_readBody 35 rfl) rfl (V_lg 0 rfl) rfl ?_
  refine V_getR kc13 (pc2 := 71) 19 (dk D_X13_readBody 36 rfl) fl_13_104 (by decide) (fun _ => rfl) rfl h14 ?_
  refine V_iload_n (pc2 := 72) (dk D_X13_readBody 37 rfl) rfl (V_lg 3 rfl) rfl ?_
  refine V_iload_n (pc2 := 73) (dk D_X13_readBody 38 rfl) rfl (V_lg 1 rfl) rfl ?_
  refine V_ifeq (tgt := 80) (pc2 := 76) (dk D_X13_readBody 39 rfl) (by decide) rfl (fun q15 => ?_) (fun q15 => ?_)
  · have h := h.1 q15
    refine V_iconst (x := 0) (pc2 := 81) (dk D_X13_readBody 42 rfl) (by decide) rfl ?_
    exact h
  · have h := h.2 q15
    refine V_iconst (x := 1) (pc2 := 77) (dk D_X13_readBody 40 rfl) (by decide) rfl ?_
    refine V_goto (tgt := 81) (dk D_X13_readBody 41 rfl) (by decide) ?_
    exact h
theorem w_X13_readBody_81 {X : Cx} {d : Nat} {S : Mem} {Q : Res → Mem → Prop} (r0 : Nat) (x1 : Int32) (x2 : Int32) (x3 : Int32) (t0 : Nat) (t1 : Int32) (t2 : Int32) (h : (isK S t0 21) ∧ (vp_in t1 (gN S t0)) ∧ ∀ S3 : Mem, S3 = uI S t0 ((t1 : Int32).toNatClampNeg) t2 → (isK S r0 13) ∧ (isK S (gR S r0 6) 21) ∧ (vp_in x2 (gN S (gR S r0 6))) ∧ (isK S (gR S r0 22) 21) ∧ (vp_in x3 (gN S (gR S r0 22))) ∧ ∀ S9 : Mem, S9 = uI S3 (gR S r0 22) ((x3 : Int32).toNatClampNeg) (gI S3 (gR S r0 6) (x2 : Int32).toNatClampNeg) → V X d MX13_readBody 97 [(0, vR r0), (1, vI x1), (2, vI x2), (3, vI x3), (4, vI 0)] [] S9 Q) : V X d MX13_readBody 81 [(0, vR r0), (1, vI x1), (2, vI x2), (3, vI x3)] [vI t2, vI t1, vR t0] S Q := by
  obtain ⟨h1, h⟩ := h
  obtain ⟨h2, h⟩ := h
  refine V_iast (pc2 := 82) (dk D_X13_readBody 43 rfl) rfl h1 h2 ?_
  have h := h _ rfl
  refine V_aload_n (pc2 := 83) (dk D_X13_readBody 44 rfl) rfl (V_lg 0 rfl) rfl ?_
  obtain ⟨h4, h⟩ := h
  refine V_getR kc13 (pc2 := 86) 22 (dk D_X13_readBody 45 rfl) fl_13_113 (by decide) (fun _ => rfl) rfl h4 ?_
  refine V_iload_n (pc2 := 87) (dk D_X13_readBody 46 rfl) rfl (V_lg 3 rfl) rfl ?_
  refine V_aload_n (pc2 := 88) (dk D_X13_readBody 47 rfl) rfl (V_lg 0 rfl) rfl ?_
  refine V_getR kc13 (pc2 := 91) 6 (dk D_X13_readBody 48 rfl) fl_13_27 (by decide) (fun _ => rfl) rfl h4 ?_
  refine V_iload_n (pc2 := 92) (dk D_X13_readBody 49 rfl) rfl (V_lg 2 rfl) rfl ?_
  obtain ⟨h5, h⟩ := h
  obtain ⟨h6, h⟩ := h
  refine V_iald (pc2 := 93) (dk D_X13_readBody 50 rfl) rfl h5 h6 ?_
  obtain ⟨h7, h⟩ := h
  obtain ⟨h8, h⟩ := h
  refine V_iast (pc2 := 94) (dk D_X13_readBody 51 rfl) rfl h7 h8 ?_
  have h := h _ rfl
  refine V_iconst (x := 0) (pc2 := 95) (dk D_X13_readBody 52 rfl) (by decide) rfl ?_
  refine V_istore (pc2 := 97) (lv2 := [(0, _), (1, _), (2, _), (3, _), (4, _)]) (dk D_X13_readBody 53 rfl) (by decide) rfl rfl ?_
  exact h
theorem w_X13_readBody_97 {X : Cx} {d : Nat} {S : Mem} {Q : Res → Mem → Prop} (r0 : Nat) (x1 : Int32) (x2 : Int32) (x3 : Int32) (x4 : Int32) (h : ((x3 ≤ x4 → (isK S r0 13) ∧ (isK S (gR S r0 9) 22) ∧ (vp_in x2 (gN S (gR S r0 9))) ∧ (isK S (gR S r0 26) 22) ∧ (vp_in x3 (gN S (gR S r0 26))) ∧ ∀ S7 : Mem, S7 = uL S (gR S r0 26) ((x3 : Int32).toNatClampNeg) (gL S (gR S r0 9) (x2 : Int32).toNatClampNeg) → ∀ S8 : Mem, S8 = uI S7 r0 18 ((gI S r0 18) + 1) → ∀ S9 : Mem, S9 = uI S8 r0 25 0 → ∀ S10 : Mem, S10 = uI S9 r0 44 0 → ∃ e11 : Nat, e11 + 1 ≤ d ∧ C X e11 MX13_isSign [vR r0, vI 40] S10 (RI fun y14 S15 => ((¬ y14 = 0 → V X d MX13_readBody 185 [(0, vR r0), (1, vI x1), (2, vI x2), (3, vI x3), (4, vI x4)] [] S15 Q) ∧ (y14 = 0 → (isK S15 r0 13) ∧ (isK S15 (gR S15 r0 6) 21) ∧ (vp_in (gI S15 r0 10) (gN S15 (gR S15 r0 6))) ∧ ∃ e20 : Nat, e20 + 1 ≤ d ∧ C X e20 MX13_fail [vR r0, vI (gI S15 (gR S15 r0 6) ((gI S15 r0 10) : Int32).toNatClampNeg)] S15 (TV Q fun  S23 => V X d MX13_readBody 185 [(0, vR r0), (1, vI x1), (2, vI x2), (3, vI x3), (4, vI x4)] [] S23 Q))))) ∧ (¬ x3 ≤ x4 → (isK S r0 13) ∧ (isK S (gR S r0 26) 22) ∧ (vp_in x4 (gN S (gR S r0 26))) ∧ (isK S (gR S r0 9) 22) ∧ (vp_in x2 (gN S (gR S r0 9))) ∧ ((¬ (lg_cmp (gL S (gR S r0 26) (x4 : Int32).toNatClampNeg) (gL S (gR S r0 9) (x2 : Int32).toNatClampNeg)) = 0 → V X d MX13_readBody 125 [(0, vR r0), (1, vI x1), (2, vI x2), (3, vI x3), (4, vI x4)] [] S Q) ∧ ((lg_cmp (gL S (gR S r0 26) (x4 : Int32).toNatClampNeg) (gL S (gR S r0 9) (x2 : Int32).toNatClampNeg)) = 0 → ∃ e30 : Nat, e30 + 1 ≤ d ∧ C X e30 MX13_blame [vR r0, vI x2] S (RV fun  S33 => V X d MX13_readBody 125 [(0, vR r0), (1, vI x1), (2, vI x2), (3, vI x3), (4, vI x4)] [] S33 Q)))))) : V X d MX13_readBody 97 [(0, vR r0), (1, vI x1), (2, vI x2), (3, vI x3), (4, vI x4)] [] S Q := by
  refine V_iload (pc2 := 99) (dk D_X13_readBody 54 rfl) (V_lg 4 rfl) rfl ?_
  refine V_iload_n (pc2 := 100) (dk D_X13_readBody 55 rfl) rfl (V_lg 3 rfl) rfl ?_
  refine V_cmpge (tgt := 131) (pc2 := 103) (dk D_X13_readBody 56 rfl) (by decide) rfl (fun q1 => ?_) (fun q1 => ?_)
  · have h := h.1 q1
    refine V_aload_n (pc2 := 132) (dk D_X13_readBody 72 rfl) rfl (V_lg 0 rfl) rfl ?_
    obtain ⟨h2, h⟩ := h
    refine V_getR kc13 (pc2 := 135) 26 (dk D_X13_readBody 73 rfl) fl_13_122 (by decide) (fun _ => rfl) rfl h2 ?_
    refine V_iload_n (pc2 := 136) (dk D_X13_readBody 74 rfl) rfl (V_lg 3 rfl) rfl ?_
    refine V_aload_n (pc2 := 137) (dk D_X13_readBody 75 rfl) rfl (V_lg 0 rfl) rfl ?_
    refine V_getR kc13 (pc2 := 140) 9 (dk D_X13_readBody 76 rfl) fl_13_36 (by decide) (fun _ => rfl) rfl h2 ?_
    refine V_iload_n (pc2 := 141) (dk D_X13_readBody 77 rfl) rfl (V_lg 2 rfl) rfl ?_
    obtain ⟨h3, h⟩ := h
    obtain ⟨h4, h⟩ := h
    refine V_lald (pc2 := 142) (dk D_X13_readBody 78 rfl) rfl h3 h4 ?_
    obtain ⟨h5, h⟩ := h
    obtain ⟨h6, h⟩ := h
    refine V_last (pc2 := 143) (dk D_X13_readBody 79 rfl) rfl h5 h6 ?_
    have h := h _ rfl
    refine V_aload_n (pc2 := 144) (dk D_X13_readBody 80 rfl) rfl (V_lg 0 rfl) rfl ?_
    refine V_dup (pc2 := 145) (dk D_X13_readBody 81 rfl) rfl rfl ?_
    refine V_getI kc13 (pc2 := 148) 18 (dk D_X13_readBody 82 rfl) fl_13_445 (by decide) (fun _ => rfl) rfl h2 ?_
    refine V_iconst (x := 1) (pc2 := 149) (dk D_X13_readBody 83 rfl) (by decide) rfl ?_
    refine V_iadd (pc2 := 150) (dk D_X13_readBody 84 rfl) rfl ?_
    refine V_putI kc13 (pc2 := 153) 18 (dk D_X13_readBody 85 rfl) fl_13_445 (by decide) (Or.inl rfl) rfl rfl h2 ?_
    have h := h _ rfl
    refine V_aload_n (pc2 := 154) (dk D_X13_readBody 86 rfl) rfl (V_lg 0 rfl) rfl ?_
    refine V_iconst (x := 0) (pc2 := 155) (dk D_X13_readBody 87 rfl) (by decide) rfl ?_
    refine V_putI kc13 (pc2 := 158) 25 (dk D_X13_readBody 88 rfl) fl_13_357 (by decide) (Or.inl rfl) rfl rfl h2 ?_
    have h := h _ rfl
    refine V_aload_n (pc2 := 159) (dk D_X13_readBody 89 rfl) rfl (V_lg 0 rfl) rfl ?_
    refine V_iconst (x := 0) (pc2 := 160) (dk D_X13_readBody 90 rfl) (by decide) rfl ?_
    refine V_putI kc13 (pc2 := 163) 44 (dk D_X13_readBody 91 rfl) fl_13_439 (by decide) (Or.inl rfl) rfl rfl h2 ?_
    have h := h _ rfl
    refine V_aload_n (pc2 := 164) (dk D_X13_readBody 92 rfl) rfl (V_lg 0 rfl) rfl ?_
    refine V_bipush (x := 40) (pc2 := 166) (dk D_X13_readBody 93 rfl) (by decide) rfl ?_
    obtain ⟨e11, he12, hc13⟩ := h
    refine V_callV (as := [_]) (st := []) (M' := MX13_isSign) (ci := 13) (pc2 := 169) (dk D_X13_readBody 94 rfl) ml_13_334 mv_X13_isSign rfl rfl (by decide) rfl (Nat.le_of_ble_eq_true rfl) rfl he12 h2 hc13 (RI.k fun y14 S15 h => ?_)
    refine V_ifne (tgt := 185) (pc2 := 172) (dk D_X13_readBody 95 rfl) (by decide) rfl (fun q16 => ?_) (fun q16 => ?_)
    · have h := h.1 q16
      exact h
    · have h := h.2 q16
      refine V_aload_n (pc2 := 173) (dk D_X13_readBody 96 rfl) rfl (V_lg 0 rfl) rfl ?_
      refine V_aload_n (pc2 := 174) (dk D_X13_readBody 97 rfl) rfl (V_lg 0 rfl) rfl ?_
      obtain ⟨h17, h⟩ := h
      refine V_getR kc13 (pc2 := 177) 6 (dk D_X13_readBody 98 rfl) fl_13_27 (by decide) (fun _ => rfl) rfl h17 ?_
      refine V_aload_n (pc2 := 178) (dk D_X13_readBody 99 rfl) rfl (V_lg 0 rfl) rfl ?_
      refine V_getI kc13 (pc2 := 181) 10 (dk D_X13_readBody 100 rfl) fl_13_331 (by decide) (fun _ => rfl) rfl h17 ?_
      obtain ⟨h18, h⟩ := h
      obtain ⟨h19, h⟩ := h
      refine V_iald (pc2 := 182) (dk D_X13_readBody 101 rfl) rfl h18 h19 ?_
      obtain ⟨e20, he21, hc22⟩ := h
      refine V_callVT (as := [_]) (st := []) (M' := MX13_fail) (ci := 13) (pc2 := 185) (dk D_X13_readBody 102 rfl) ml_13_337 mv_X13_fail rfl rfl (by decide) rfl (Nat.le_of_ble_eq_true rfl) rfl (by decide) he21 h17 hc22 (TV.k fun  S23 h => ?_)
      exact h
  · have h := h.2 q1
    refine V_aload_n (pc2 := 104) (dk D_X13_readBody 57 rfl) rfl (V_lg 0 rfl) rfl ?_
    obtain ⟨h24, h⟩ := h
    refine V_getR kc13 (pc2 := 107) 26 (dk D_X13_readBody 58 rfl) fl_13_122 (by decide) (fun _ => rfl) rfl h24 ?_
    refine V_iload (pc2 := 109) (dk D_X13_readBody 59 rfl) (V_lg 4 rfl) rfl ?_
    obtain ⟨h25, h⟩ := h
    obtain ⟨h26, h⟩ := h
    refine V_lald (pc2 := 110) (dk D_X13_readBody 60 rfl) rfl h25 h26 ?_
    refine V_aload_n (pc2 := 111) (dk D_X13_readBody 61 rfl) rfl (V_lg 0 rfl) rfl ?_
    refine V_getR kc13 (pc2 := 114) 9 (dk D_X13_readBody 62 rfl) fl_13_36 (by decide) (fun _ => rfl) rfl h24 ?_
    refine V_iload_n (pc2 := 115) (dk D_X13_readBody 63 rfl) rfl (V_lg 2 rfl) rfl ?_
    obtain ⟨h27, h⟩ := h
    obtain ⟨h28, h⟩ := h
    refine V_lald (pc2 := 116) (dk D_X13_readBody 64 rfl) rfl h27 h28 ?_
    refine V_lcmp (pc2 := 117) (dk D_X13_readBody 65 rfl) rfl ?_
    refine V_ifne (tgt := 125) (pc2 := 120) (dk D_X13_readBody 66 rfl) (by decide) rfl (fun q29 => ?_) (fun q29 => ?_)
    · have h := h.1 q29
      exact h
    · have h := h.2 q29
      refine V_aload_n (pc2 := 121) (dk D_X13_readBody 67 rfl) rfl (V_lg 0 rfl) rfl ?_
      refine V_iload_n (pc2 := 122) (dk D_X13_readBody 68 rfl) rfl (V_lg 2 rfl) rfl ?_
      obtain ⟨e30, he31, hc32⟩ := h
      refine V_callV (as := [_]) (st := []) (M' := MX13_blame) (ci := 13) (pc2 := 125) (dk D_X13_readBody 69 rfl) ml_13_360 mv_X13_blame rfl rfl (by decide) rfl (Nat.le_of_ble_eq_true rfl) rfl he31 h24 hc32 (RV.k fun  S33 h => ?_)
      exact h
theorem w_X13_readBody_125 {X : Cx} {d : Nat} {S : Mem} {Q : Res → Mem → Prop} (r0 : Nat) (x1 : Int32) (x2 : Int32) (x3 : Int32) (x4 : Int32) (h : V X d MX13_readBody 97 [(0, vR r0), (1, vI x1), (2, vI x2), (3, vI x3), (4, vI (x4 + 1))] [] S Q) : V X d MX13_readBody 125 [(0, vR r0), (1, vI x1), (2, vI x2), (3, vI x3), (4, vI x4)] [] S Q := by
  refine V_iinc (y := _ + 1) (pc2 := 128) (lv2 := [(0, _), (1, _), (2, _), (3, _), (4, _)]) (dk D_X13_readBody 70 rfl) (V_lg 4 rfl) rfl (by decide) rfl rfl ?_
  refine V_goto (tgt := 97) (dk D_X13_readBody 71 rfl) (by decide) ?_
  exact h
theorem w_X13_readBody_185 {X : Cx} {d : Nat} {S : Mem} {Q : Res → Mem → Prop} (r0 : Nat) (x1 : Int32) (x2 : Int32) (x3 : Int32) (x4 : Int32) (h : (isK S r0 13) ∧ ∃ e1 : Nat, e1 + 1 ≤ d ∧ C X e1 MX13_opens [vR r0] S (TV Q fun  S4 => V X d MX13_readBody 192 [(0, vR r0), (1, vI x1), (2, vI x2), (3, vI x3), (4, vI 0)] [] S4 Q)) : V X d MX13_readBody 185 [(0, vR r0), (1, vI x1), (2, vI x2), (3, vI x3), (4, vI x4)] [] S Q := by
  refine V_aload_n (pc2 := 186) (dk D_X13_readBody 103 rfl) rfl (V_lg 0 rfl) rfl ?_
  obtain ⟨h5, h⟩ := h
  obtain ⟨e1, he2, hc3⟩ := h
  refine V_callVT (as := []) (st := []) (M' := MX13_opens) (ci := 13) (pc2 := 189) (dk D_X13_readBody 104 rfl) ml_13_363 mv_X13_opens rfl rfl (by decide) rfl (Nat.le_of_ble_eq_true rfl) rfl (by decide) he2 h5 hc3 (TV.k fun  S4 h => ?_)
  refine V_iconst (x := 0) (pc2 := 190) (dk D_X13_readBody 105 rfl) (by decide) rfl ?_
  refine V_istore (pc2 := 192) (lv2 := [(0, _), (1, _), (2, _), (3, _), (4, _)]) (dk D_X13_readBody 106 rfl) (by decide) rfl rfl ?_
  exact h
theorem w_X13_readBody_192 {X : Cx} {d : Nat} {S : Mem} {Q : Res → Mem → Prop} (r0 : Nat) (x1 : Int32) (x2 : Int32) (x3 : Int32) (x4 : Int32) (h : (isK S r0 13) ∧ (isK S (gR S r0 5) 21) ∧ (vp_in (gI S r0 10) (gN S (gR S r0 5))) ∧ (((gI S (gR S r0 5) ((gI S r0 10) : Int32).toNatClampNeg) = 1 → V X d MX13_readBody 219 [(0, vR r0), (1, vI x1), (2, vI x2), (3, vI x3), (4, vI x4)] [] S Q) ∧ (¬ (gI S (gR S r0 5) ((gI S r0 10) : Int32).toNatClampNeg) = 1 → ((x4 ≤ 0 → V X d MX13_readBody 327 [(0, vR r0), (1, vI x1), (2, vI x2), (3, vI x3), (4, vI x4)] [] S Q) ∧ (¬ x4 ≤ 0 → ∃ e6 : Nat, e6 + 1 ≤ d ∧ C X e6 MX13_isSign [vR r0, vI 41] S (RI fun y9 S10 => ((¬ y9 = 0 → V X d MX13_readBody 327 [(0, vR r0), (1, vI x1), (2, vI x2), (3, vI x3), (4, vI x4)] [] S10 Q) ∧ (y9 = 0 → V X d MX13_readBody 219 [(0, vR r0), (1, vI x1), (2, vI x2), (3, vI x3), (4, vI x4)] [] S10 Q)))))))) : V X d MX13_readBody 192 [(0, vR r0), (1, vI x1), (2, vI x2), (3, vI x3), (4, vI x4)] [] S Q := by
  refine V_aload_n (pc2 := 193) (dk D_X13_readBody 107 rfl) rfl (V_lg 0 rfl) rfl ?_
  obtain ⟨h1, h⟩ := h
  refine V_getR kc13 (pc2 := 196) 5 (dk D_X13_readBody 108 rfl) fl_13_23 (by decide) (fun _ => rfl) rfl h1 ?_
  refine V_aload_n (pc2 := 197) (dk D_X13_readBody 109 rfl) rfl (V_lg 0 rfl) rfl ?_
  refine V_getI kc13 (pc2 := 200) 10 (dk D_X13_readBody 110 rfl) fl_13_331 (by decide) (fun _ => rfl) rfl h1 ?_
  obtain ⟨h2, h⟩ := h
  obtain ⟨h3, h⟩ := h
  refine V_iald (pc2 := 201) (dk D_X13_readBody 111 rfl) rfl h2 h3 ?_
  refine V_iconst (x := 1) (pc2 := 202) (dk D_X13_readBody 112 rfl) (by decide) rfl ?_
  refine V_cmpeq (tgt := 219) (pc2 := 205) (dk D_X13_readBody 113 rfl) (by decide) rfl (fun q4 => ?_) (fun q4 => ?_)
  · have h := h.1 q4
    exact h
  · have h := h.2 q4
    refine V_iload (pc2 := 207) (dk D_X13_readBody 114 rfl) (V_lg 4 rfl) rfl ?_
    refine V_ifle (tgt := 327) (pc2 := 210) (dk D_X13_readBody 115 rfl) (by decide) rfl (fun q5 => ?_) (fun q5 => ?_)
    · have h := h.1 q5
      exact h
    · have h := h.2 q5
      refine V_aload_n (pc2 := 211) (dk D_X13_readBody 116 rfl) rfl (V_lg 0 rfl) rfl ?_
      refine V_bipush (x := 41) (pc2 := 213) (dk D_X13_readBody 117 rfl) (by decide) rfl ?_
      obtain ⟨e6, he7, hc8⟩ := h
      refine V_callV (as := [_]) (st := []) (M' := MX13_isSign) (ci := 13) (pc2 := 216) (dk D_X13_readBody 118 rfl) ml_13_334 mv_X13_isSign rfl rfl (by decide) rfl (Nat.le_of_ble_eq_true rfl) rfl he7 h1 hc8 (RI.k fun y9 S10 h => ?_)
      refine V_ifne (tgt := 327) (pc2 := 219) (dk D_X13_readBody 119 rfl) (by decide) rfl (fun q11 => ?_) (fun q11 => ?_)
      · have h := h.1 q11
        exact h
      · have h := h.2 q11
        exact h
theorem w_X13_readBody_219 {X : Cx} {d : Nat} {S : Mem} {Q : Res → Mem → Prop} (r0 : Nat) (x1 : Int32) (x2 : Int32) (x3 : Int32) (x4 : Int32) (h : ((x4 ≤ 0 → V X d MX13_readBody 247 [(0, vR r0), (1, vI x1), (2, vI x2), (3, vI x3), (4, vI x4)] [] S Q) ∧ (¬ x4 ≤ 0 → ((x1 = 0 → V X d MX13_readBody 241 [(0, vR r0), (1, vI x1), (2, vI x2), (3, vI x3), (4, vI x4)] [] S Q) ∧ (¬ x1 = 0 → (isK S r0 13) ∧ (isK S (gR S r0 6) 21) ∧ (vp_in (gI S r0 10) (gN S (gR S r0 6))) ∧ ∃ e6 : Nat, e6 + 1 ≤ d ∧ C X e6 MX13_fail [vR r0, vI (gI S (gR S r0 6) ((gI S r0 10) : Int32).toNatClampNeg)] S (TV Q fun  S9 => V X d MX13_readBody 241 [(0, vR r0), (1, vI x1), (2, vI x2), (3, vI x3), (4, vI x4)] [] S9 Q)))))) : V X d MX13_readBody 219 [(0, vR r0), (1, vI x1), (2, vI x2), (3, vI x3), (4, vI x4)] [] S Q := by
  refine V_iload (pc2 := 221) (dk D_X13_readBody 120 rfl) (V_lg 4 rfl) rfl ?_
  refine V_ifle (tgt := 247) (pc2 := 224) (dk D_X13_readBody 121 rfl) (by decide) rfl (fun q1 => ?_) (fun q1 => ?_)
  · have h := h.1 q1
    exact h
  · have h := h.2 q1
    refine V_iload_n (pc2 := 225) (dk D_X13_readBody 122 rfl) rfl (V_lg 1 rfl) rfl ?_
    refine V_ifeq (tgt := 241) (pc2 := 228) (dk D_X13_readBody 123 rfl) (by decide) rfl (fun q2 => ?_) (fun q2 => ?_)
    · have h := h.1 q2
      exact h
    · have h := h.2 q2
      refine V_aload_n (pc2 := 229) (dk D_X13_readBody 124 rfl) rfl (V_lg 0 rfl) rfl ?_
      refine V_aload_n (pc2 := 230) (dk D_X13_readBody 125 rfl) rfl (V_lg 0 rfl) rfl ?_
      obtain ⟨h3, h⟩ := h
      refine V_getR kc13 (pc2 := 233) 6 (dk D_X13_readBody 126 rfl) fl_13_27 (by decide) (fun _ => rfl) rfl h3 ?_
      refine V_aload_n (pc2 := 234) (dk D_X13_readBody 127 rfl) rfl (V_lg 0 rfl) rfl ?_
      refine V_getI kc13 (pc2 := 237) 10 (dk D_X13_readBody 128 rfl) fl_13_331 (by decide) (fun _ => rfl) rfl h3 ?_
      obtain ⟨h4, h⟩ := h
      obtain ⟨h5, h⟩ := h
      refine V_iald (pc2 := 238) (dk D_X13_readBody 129 rfl) rfl h4 h5 ?_
      obtain ⟨e6, he7, hc8⟩ := h
      refine V_callVT (as := [_]) (st := []) (M' := MX13_fail) (ci := 13) (pc2 := 241) (dk D_X13_readBody 130 rfl) ml_13_337 mv_X13_fail rfl rfl (by decide) rfl (Nat.le_of_ble_eq_true rfl) rfl (by decide) he7 h3 hc8 (TV.k fun  S9 h => ?_)
      exact h
theorem w_X13_readBody_241 {X : Cx} {d : Nat} {S : Mem} {Q : Res → Mem → Prop} (r0 : Nat) (x1 : Int32) (x2 : Int32) (x3 : Int32) (x4 : Int32) (h : (isK S r0 13) ∧ ∃ e1 : Nat, e1 + 1 ≤ d ∧ C X e1 MX13_mustSign [vR r0, vI 44] S (TV Q fun  S4 => V X d MX13_readBody 247 [(0, vR r0), (1, vI x1), (2, vI x2), (3, vI x3), (4, vI x4)] [] S4 Q)) : V X d MX13_readBody 241 [(0, vR r0), (1, vI x1), (2, vI x2), (3, vI x3), (4, vI x4)] [] S Q := by
  refine V_aload_n (pc2 := 242) (dk D_X13_readBody 131 rfl) rfl (V_lg 0 rfl) rfl ?_
  refine V_bipush (x := 44) (pc2 := 244) (dk D_X13_readBody 132 rfl) (by decide) rfl ?_
  obtain ⟨h5, h⟩ := h
  obtain ⟨e1, he2, hc3⟩ := h
  refine V_callVT (as := [_]) (st := []) (M' := MX13_mustSign) (ci := 13) (pc2 := 247) (dk D_X13_readBody 133 rfl) ml_13_348 mv_X13_mustSign rfl rfl (by decide) rfl (Nat.le_of_ble_eq_true rfl) rfl (by decide) he2 h5 hc3 (TV.k fun  S4 h => ?_)
  exact h
theorem w_X13_readBody_247 {X : Cx} {d : Nat} {S : Mem} {Q : Res → Mem → Prop} (r0 : Nat) (x1 : Int32) (x2 : Int32) (x3 : Int32) (x4 : Int32) (h : ((¬ x4 = 4 → V X d MX13_readBody 266 [(0, vR r0), (1, vI x1), (2, vI x2), (3, vI x3), (4, vI x4)] [] S Q) ∧ (x4 = 4 → (isK S r0 13) ∧ (isK S (gR S r0 6) 21) ∧ (vp_in (gI S r0 10) (gN S (gR S r0 6))) ∧ ∃ e5 : Nat, e5 + 1 ≤ d ∧ C X e5 MX13_fail [vR r0, vI (gI S (gR S r0 6) ((gI S r0 10) : Int32).toNatClampNeg)] S (TV Q fun  S8 => V X d MX13_readBody 266 [(0, vR r0), (1, vI x1), (2, vI x2), (3, vI x3), (4, vI x4)] [] S8 Q)))) : V X d MX13_readBody 247 [(0, vR r0), (1, vI x1), (2, vI x2), (3, vI x3), (4, vI x4)] [] S Q := by
  refine V_iload (pc2 := 249) (dk D_X13_readBody 134 rfl) (V_lg 4 rfl) rfl ?_
  refine V_iconst (x := 4) (pc2 := 250) (dk D_X13_readBody 135 rfl) (by decide) rfl ?_
  refine V_cmpne (tgt := 266) (pc2 := 253) (dk D_X13_readBody 136 rfl) (by decide) rfl (fun q1 => ?_) (fun q1 => ?_)
  · have h := h.1 q1
    exact h
  · have h := h.2 q1
    refine V_aload_n (pc2 := 254) (dk D_X13_readBody 137 rfl) rfl (V_lg 0 rfl) rfl ?_
    refine V_aload_n (pc2 := 255) (dk D_X13_readBody 138 rfl) rfl (V_lg 0 rfl) rfl ?_
    obtain ⟨h2, h⟩ := h
    refine V_getR kc13 (pc2 := 258) 6 (dk D_X13_readBody 139 rfl) fl_13_27 (by decide) (fun _ => rfl) rfl h2 ?_
    refine V_aload_n (pc2 := 259) (dk D_X13_readBody 140 rfl) rfl (V_lg 0 rfl) rfl ?_
    refine V_getI kc13 (pc2 := 262) 10 (dk D_X13_readBody 141 rfl) fl_13_331 (by decide) (fun _ => rfl) rfl h2 ?_
    obtain ⟨h3, h⟩ := h
    obtain ⟨h4, h⟩ := h
    refine V_iald (pc2 := 263) (dk D_X13_readBody 142 rfl) rfl h3 h4 ?_
    obtain ⟨e5, he6, hc7⟩ := h
    refine V_callVT (as := [_]) (st := []) (M' := MX13_fail) (ci := 13) (pc2 := 266) (dk D_X13_readBody 143 rfl) ml_13_337 mv_X13_fail rfl rfl (by decide) rfl (Nat.le_of_ble_eq_true rfl) rfl (by decide) he6 h2 hc7 (TV.k fun  S8 h => ?_)
    exact h
theorem w_X13_readBody_266 {X : Cx} {d : Nat} {S : Mem} {Q : Res → Mem → Prop} (r0 : Nat) (x1 : Int32) (x2 : Int32) (x3 : Int32) (x4 : Int32) (h : (isK S r0 13) ∧ ∃ e1 : Nat, e1 + 1 ≤ d ∧ C X e1 MX13_mustName [vR r0] S (TI Q fun y4 S5 => (isK S5 r0 13) ∧ ∃ e8 : Nat, e8 + 1 ≤ d ∧ C X e8 MX13_variable [vR r0, vI y4] S5 (RI fun y11 S12 => (isK S12 r0 13) ∧ ((¬ (gI S12 r0 25) = (gI S5 r0 25) → V X d MX13_readBody 321 [(0, vR r0), (1, vI x1), (2, vI x2), (3, vI x3), (4, vI x4), (5, vI y4), (6, vI (gI S5 r0 25)), (7, vI y11)] [] S12 Q) ∧ ((gI S12 r0 25) = (gI S5 r0 25) → ∃ e15 : Nat, e15 + 1 ≤ d ∧ C X e15 MX13_blame [vR r0, vI y4] S12 (RV fun  S18 => (isK S18 r0 13) ∧ (isK S18 (gR S18 r0 24) 22) ∧ (vp_in (gI S18 r0 25) (gN S18 (gR S18 r0 24))) ∧ ∀ S22 : Mem, S22 = uL S18 (gR S18 r0 24) (((gI S18 r0 25) : Int32).toNatClampNeg) 0 → ∀ S23 : Mem, S23 = uI S22 r0 25 ((gI S18 r0 25) + 1) → V X d MX13_readBody 321 [(0, vR r0), (1, vI x1), (2, vI x2), (3, vI x3), (4, vI x4), (5, vI y4), (6, vI (gI S5 r0 25)), (7, vI y11)] [] S23 Q)))))) : V X d MX13_readBody 266 [(0, vR r0), (1, vI x1), (2, vI x2), (3, vI x3), (4, vI x4)] [] S Q := by
  refine V_aload_n (pc2 := 267) (dk D_X13_readBody 144 rfl) rfl (V_lg 0 rfl) rfl ?_
  obtain ⟨h6, h⟩ := h
  obtain ⟨e1, he2, hc3⟩ := h
  refine V_callVT (as := []) (st := []) (M' := MX13_mustName) (ci := 13) (pc2 := 270) (dk D_X13_readBody 145 rfl) ml_13_399 mv_X13_mustName rfl rfl (by decide) rfl (Nat.le_of_ble_eq_true rfl) rfl (by decide) he2 h6 hc3 (TI.k fun y4 S5 h => ?_)
  refine V_istore (pc2 := 272) (lv2 := [(0, _), (1, _), (2, _), (3, _), (4, _), (5, _)]) (dk D_X13_readBody 146 rfl) (by decide) rfl rfl ?_
  refine V_aload_n (pc2 := 273) (dk D_X13_readBody 147 rfl) rfl (V_lg 0 rfl) rfl ?_
  obtain ⟨h7, h⟩ := h
  refine V_getI kc13 (pc2 := 276) 25 (dk D_X13_readBody 148 rfl) fl_13_357 (by decide) (fun _ => rfl) rfl h7 ?_
  refine V_istore (pc2 := 278) (lv2 := [(0, _), (1, _), (2, _), (3, _), (4, _), (5, _), (6, _)]) (dk D_X13_readBody 149 rfl) (by decide) rfl rfl ?_
  refine V_aload_n (pc2 := 279) (dk D_X13_readBody 150 rfl) rfl (V_lg 0 rfl) rfl ?_
  refine V_iload (pc2 := 281) (dk D_X13_readBody 151 rfl) (V_lg 5 rfl) rfl ?_
  obtain ⟨e8, he9, hc10⟩ := h
  refine V_callV (as := [_]) (st := []) (M' := MX13_variable) (ci := 13) (pc2 := 284) (dk D_X13_readBody 152 rfl) ml_13_402 mv_X13_variable rfl rfl (by decide) rfl (Nat.le_of_ble_eq_true rfl) rfl he9 h7 hc10 (RI.k fun y11 S12 h => ?_)
  refine V_istore (pc2 := 286) (lv2 := [(0, _), (1, _), (2, _), (3, _), (4, _), (5, _), (6, _), (7, _)]) (dk D_X13_readBody 153 rfl) (by decide) rfl rfl ?_
  refine V_aload_n (pc2 := 287) (dk D_X13_readBody 154 rfl) rfl (V_lg 0 rfl) rfl ?_
  obtain ⟨h13, h⟩ := h
  refine V_getI kc13 (pc2 := 290) 25 (dk D_X13_readBody 155 rfl) fl_13_357 (by decide) (fun _ => rfl) rfl h13 ?_
  refine V_iload (pc2 := 292) (dk D_X13_readBody 156 rfl) (V_lg 6 rfl) rfl ?_
  refine V_cmpne (tgt := 321) (pc2 := 295) (dk D_X13_readBody 157 rfl) (by decide) rfl (fun q14 => ?_) (fun q14 => ?_)
  · have h := h.1 q14
    exact h
  · have h := h.2 q14
    refine V_aload_n (pc2 := 296) (dk D_X13_readBody 158 rfl) rfl (V_lg 0 rfl) rfl ?_
    refine V_iload (pc2 := 298) (dk D_X13_readBody 159 rfl) (V_lg 5 rfl) rfl ?_
    obtain ⟨e15, he16, hc17⟩ := h
    refine V_callV (as := [_]) (st := []) (M' := MX13_blame) (ci := 13) (pc2 := 301) (dk D_X13_readBody 160 rfl) ml_13_360 mv_X13_blame rfl rfl (by decide) rfl (Nat.le_of_ble_eq_true rfl) rfl he16 h13 hc17 (RV.k fun  S18 h => ?_)
    refine V_aload_n (pc2 := 302) (dk D_X13_readBody 161 rfl) rfl (V_lg 0 rfl) rfl ?_
    obtain ⟨h19, h⟩ := h
    refine V_getR kc13 (pc2 := 305) 24 (dk D_X13_readBody 162 rfl) fl_13_119 (by decide) (fun _ => rfl) rfl h19 ?_
    refine V_aload_n (pc2 := 306) (dk D_X13_readBody 163 rfl) rfl (V_lg 0 rfl) rfl ?_
    refine V_getI kc13 (pc2 := 309) 25 (dk D_X13_readBody 164 rfl) fl_13_357 (by decide) (fun _ => rfl) rfl h19 ?_
    refine V_lconst (x := 0) (pc2 := 310) (dk D_X13_readBody 165 rfl) (by decide) rfl ?_
    obtain ⟨h20, h⟩ := h
    obtain ⟨h21, h⟩ := h
    refine V_last (pc2 := 311) (dk D_X13_readBody 166 rfl) rfl h20 h21 ?_
    have h := h _ rfl
    refine V_aload_n (pc2 := 312) (dk D_X13_readBody 167 rfl) rfl (V_lg 0 rfl) rfl ?_
    refine V_dup (pc2 := 313) (dk D_X13_readBody 168 rfl) rfl rfl ?_
    refine V_getI kc13 (pc2 := 316) 25 (dk D_X13_readBody 169 rfl) fl_13_357 (by decide) (fun _ => rfl) rfl h19 ?_
    refine V_iconst (x := 1) (pc2 := 317) (dk D_X13_readBody 170 rfl) (by decide) rfl ?_
    refine V_iadd (pc2 := 318) (dk D_X13_readBody 171 rfl) rfl ?_
    refine V_putI kc13 (pc2 := 321) 25 (dk D_X13_readBody 172 rfl) fl_13_357 (by decide) (Or.inl rfl) rfl rfl h19 ?_
    have h := h _ rfl
    exact h
theorem w_X13_readBody_321 {X : Cx} {d : Nat} {S : Mem} {Q : Res → Mem → Prop} (r0 : Nat) (x1 : Int32) (x2 : Int32) (x3 : Int32) (x4 : Int32) (x5 : Int32) (x6 : Int32) (x7 : Int32) (h : V X d MX13_readBody 192 [(0, vR r0), (1, vI x1), (2, vI x2), (3, vI x3), (4, vI (x4 + 1))] [] S Q) : V X d MX13_readBody 321 [(0, vR r0), (1, vI x1), (2, vI x2), (3, vI x3), (4, vI x4), (5, vI x5), (6, vI x6), (7, vI x7)] [] S Q := by
  refine V_iinc (y := _ + 1) (pc2 := 324) (lv2 := [(0, _), (1, _), (2, _), (3, _), (4, _), (5, _), (6, _), (7, _)]) (dk D_X13_readBody 173 rfl) (V_lg 4 rfl) rfl (by decide) rfl rfl ?_
  refine V_goto (tgt := 192) (dk D_X13_readBody 174 rfl) (by decide) ?_
  refine V_pick [0, 1, 2, 3, 4] (lv2 := [(0, _), (1, _), (2, _), (3, _), (4, _)]) rfl ?_
  exact h
theorem w_X13_readBody_327 {X : Cx} {d : Nat} {S : Mem} {Q : Res → Mem → Prop} (r0 : Nat) (x1 : Int32) (x2 : Int32) (x3 : Int32) (x4 : Int32) (h : (isK S r0 13) ∧ ∃ e1 : Nat, e1 + 1 ≤ d ∧ C X e1 MX13_closes [vR r0, vI 41] S (TV Q fun  S4 => (isK S4 r0 13) ∧ (isK S4 (gR S4 r0 20) 21) ∧ (vp_in x3 (gN S4 (gR S4 r0 20))) ∧ ∀ S9 : Mem, S9 = uI S4 (gR S4 r0 20) ((x3 : Int32).toNatClampNeg) x4 → (isK S4 (gR S4 r0 23) 21) ∧ (vp_in x3 (gN S4 (gR S4 r0 23))) ∧ ∀ S12 : Mem, S12 = uI S9 (gR S4 r0 23) ((x3 : Int32).toNatClampNeg) (gI S9 r0 17) → ∀ S13 : Mem, S13 = uI S12 r0 35 0 → ∀ S14 : Mem, S14 = uI S13 r0 36 0 → ∃ e15 : Nat, e15 + 1 ≤ d ∧ C X e15 MX13_readBlock [vR r0] S14 (TV Q fun  S18 => (isK S18 r0 13) ∧ ∃ e19 : Nat, e19 + 1 ≤ d ∧ C X e19 MX13_emit [vR r0, vI 1, vI 0, vI 0] S18 (RI fun y22 S23 => (isK S23 r0 13) ∧ ∃ e25 : Nat, e25 + 1 ≤ d ∧ C X e25 MX13_emit [vR r0, vI 26, vI 0, vI 0] S23 (RI fun y28 S29 => (isK S29 r0 13) ∧ (isK S29 (gR S29 r0 21) 21) ∧ (vp_in x3 (gN S29 (gR S29 r0 21))) ∧ ∀ S34 : Mem, S34 = uI S29 (gR S29 r0 21) ((x3 : Int32).toNatClampNeg) (gI S29 r0 25) → V X d MX13_readBody 397 [(0, vR r0), (1, vI x1), (2, vI x2), (3, vI x3), (4, vI x4), (5, vI y28), (6, vI 0)] [] S34 Q))))) : V X d MX13_readBody 327 [(0, vR r0), (1, vI x1), (2, vI x2), (3, vI x3), (4, vI x4)] [] S Q := by
  refine V_aload_n (pc2 := 328) (dk D_X13_readBody 175 rfl) rfl (V_lg 0 rfl) rfl ?_
  refine V_bipush (x := 41) (pc2 := 330) (dk D_X13_readBody 176 rfl) (by decide) rfl ?_
  obtain ⟨h5, h⟩ := h
  obtain ⟨e1, he2, hc3⟩ := h
  refine V_callVT (as := [_]) (st := []) (M' := MX13_closes) (ci := 13) (pc2 := 333) (dk D_X13_readBody 177 rfl) ml_13_370 mv_X13_closes rfl rfl (by decide) rfl (Nat.le_of_ble_eq_true rfl) rfl (by decide) he2 h5 hc3 (TV.k fun  S4 h => ?_)
  refine V_aload_n (pc2 := 334) (dk D_X13_readBody 178 rfl) rfl (V_lg 0 rfl) rfl ?_
  obtain ⟨h6, h⟩ := h
  refine V_getR kc13 (pc2 := 337) 20 (dk D_X13_readBody 179 rfl) fl_13_107 (by decide) (fun _ => rfl) rfl h6 ?_
  refine V_iload_n (pc2 := 338) (dk D_X13_readBody 180 rfl) rfl (V_lg 3 rfl) rfl ?_
  refine V_iload (pc2 := 340) (dk D_X13_readBody 181 rfl) (V_lg 4 rfl) rfl ?_
  obtain ⟨h7, h⟩ := h
  obtain ⟨h8, h⟩ := h
  refine V_iast (pc2 := 341) (dk D_X13_readBody 182 rfl) rfl h7 h8 ?_
  have h := h _ rfl
  refine V_aload_n (pc2 := 342) (dk D_X13_readBody 183 rfl) rfl (V_lg 0 rfl) rfl ?_
  refine V_getR kc13 (pc2 := 345) 23 (dk D_X13_readBody 184 rfl) fl_13_116 (by decide) (fun _ => rfl) rfl h6 ?_
  refine V_iload_n (pc2 := 346) (dk D_X13_readBody 185 rfl) rfl (V_lg 3 rfl) rfl ?_
  refine V_aload_n (pc2 := 347) (dk D_X13_readBody 186 rfl) rfl (V_lg 0 rfl) rfl ?_
  refine V_getI kc13 (pc2 := 350) 17 (dk D_X13_readBody 187 rfl) fl_13_351 (by decide) (fun _ => rfl) rfl h6 ?_
  obtain ⟨h10, h⟩ := h
  obtain ⟨h11, h⟩ := h
  refine V_iast (pc2 := 351) (dk D_X13_readBody 188 rfl) rfl h10 h11 ?_
  have h := h _ rfl
  refine V_aload_n (pc2 := 352) (dk D_X13_readBody 189 rfl) rfl (V_lg 0 rfl) rfl ?_
  refine V_iconst (x := 0) (pc2 := 353) (dk D_X13_readBody 190 rfl) (by decide) rfl ?_
  refine V_putI kc13 (pc2 := 356) 35 (dk D_X13_readBody 191 rfl) fl_13_389 (by decide) (Or.inl rfl) rfl rfl h6 ?_
  have h := h _ rfl
  refine V_aload_n (pc2 := 357) (dk D_X13_readBody 192 rfl) rfl (V_lg 0 rfl) rfl ?_
  refine V_iconst (x := 0) (pc2 := 358) (dk D_X13_readBody 193 rfl) (by decide) rfl ?_
  refine V_putI kc13 (pc2 := 361) 36 (dk D_X13_readBody 194 rfl) fl_13_410 (by decide) (Or.inl rfl) rfl rfl h6 ?_
  have h := h _ rfl
  refine V_aload_n (pc2 := 362) (dk D_X13_readBody 195 rfl) rfl (V_lg 0 rfl) rfl ?_
  obtain ⟨e15, he16, hc17⟩ := h
  refine V_callST (as := [_]) (st := []) (M' := MX13_readBlock) (pc2 := 365) (dk D_X13_readBody 196 rfl) ml_13_383 mv_X13_readBlock rfl rfl (Nat.le_of_ble_eq_true rfl) rfl (by decide) he16 hc17 (TV.k fun  S18 h => ?_)
  refine V_aload_n (pc2 := 366) (dk D_X13_readBody 197 rfl) rfl (V_lg 0 rfl) rfl ?_
  refine V_iconst (x := 1) (pc2 := 367) (dk D_X13_readBody 198 rfl) (by decide) rfl ?_
  refine V_iconst (x := 0) (pc2 := 368) (dk D_X13_readBody 199 rfl) (by decide) rfl ?_
  refine V_iconst (x := 0) (pc2 := 369) (dk D_X13_readBody 200 rfl) (by decide) rfl ?_
  obtain ⟨h24, h⟩ := h
  obtain ⟨e19, he20, hc21⟩ := h
  refine V_callV (as := [_, _, _]) (st := []) (M' := MX13_emit) (ci := 13) (pc2 := 372) (dk D_X13_readBody 201 rfl) ml_13_373 mv_X13_emit rfl rfl (by decide) rfl (Nat.le_of_ble_eq_true rfl) rfl he20 h24 hc21 (RI.k fun y22 S23 h => ?_)
  refine V_istore (pc2 := 374) (lv2 := [(0, _), (1, _), (2, _), (3, _), (4, _), (5, _)]) (dk D_X13_readBody 202 rfl) (by decide) rfl rfl ?_
  refine V_aload_n (pc2 := 375) (dk D_X13_readBody 203 rfl) rfl (V_lg 0 rfl) rfl ?_
  refine V_bipush (x := 26) (pc2 := 377) (dk D_X13_readBody 204 rfl) (by decide) rfl ?_
  refine V_iconst (x := 0) (pc2 := 378) (dk D_X13_readBody 205 rfl) (by decide) rfl ?_
  refine V_iconst (x := 0) (pc2 := 379) (dk D_X13_readBody 206 rfl) (by decide) rfl ?_
  obtain ⟨h30, h⟩ := h
  obtain ⟨e25, he26, hc27⟩ := h
  refine V_callV (as := [_, _, _]) (st := []) (M' := MX13_emit) (ci := 13) (pc2 := 382) (dk D_X13_readBody 207 rfl) ml_13_373 mv_X13_emit rfl rfl (by decide) rfl (Nat.le_of_ble_eq_true rfl) rfl he26 h30 hc27 (RI.k fun y28 S29 h => ?_)
  refine V_istore (pc2 := 384) (lv2 := [(0, _), (1, _), (2, _), (3, _), (4, _), (5, _)]) (dk D_X13_readBody 208 rfl) (by decide) rfl rfl ?_
  refine V_aload_n (pc2 := 385) (dk D_X13_readBody 209 rfl) rfl (V_lg 0 rfl) rfl ?_
  obtain ⟨h31, h⟩ := h
  refine V_getR kc13 (pc2 := 388) 21 (dk D_X13_readBody 210 rfl) fl_13_110 (by decide) (fun _ => rfl) rfl h31 ?_
  refine V_iload_n (pc2 := 389) (dk D_X13_readBody 211 rfl) rfl (V_lg 3 rfl) rfl ?_
  refine V_aload_n (pc2 := 390) (dk D_X13_readBody 212 rfl) rfl (V_lg 0 rfl) rfl ?_
  refine V_getI kc13 (pc2 := 393) 25 (dk D_X13_readBody 213 rfl) fl_13_357 (by decide) (fun _ => rfl) rfl h31 ?_
  obtain ⟨h32, h⟩ := h
  obtain ⟨h33, h⟩ := h
  refine V_iast (pc2 := 394) (dk D_X13_readBody 214 rfl) rfl h32 h33 ?_
  have h := h _ rfl
  refine V_iconst (x := 0) (pc2 := 395) (dk D_X13_readBody 215 rfl) (by decide) rfl ?_
  refine V_istore (pc2 := 397) (lv2 := [(0, _), (1, _), (2, _), (3, _), (4, _), (5, _), (6, _)]) (dk D_X13_readBody 216 rfl) (by decide) rfl rfl ?_
  exact h
theorem w_X13_readBody_397 {X : Cx} {d : Nat} {S : Mem} {Q : Res → Mem → Prop} (r0 : Nat) (x1 : Int32) (x2 : Int32) (x3 : Int32) (x4 : Int32) (x5 : Int32) (x6 : Int32) (h : (isK S r0 13) ∧ (((gI S r0 44) ≤ x6 → Q (.inl none) S) ∧ (¬ (gI S r0 44) ≤ x6 → V X d MX13_readBody 413 [(0, vR r0), (1, vI x1), (2, vI x2), (3, vI x3), (4, vI x4), (5, vI x5), (6, vI x6), (7, vI (-9)), (8, vI 0)] [] S Q))) : V X d MX13_readBody 397 [(0, vR r0), (1, vI x1), (2, vI x2), (3, vI x3), (4, vI x4), (5, vI x5), (6, vI x6)] [] S Q := by
  refine V_iload (pc2 := 399) (dk D_X13_readBody 217 rfl) (V_lg 6 rfl) rfl ?_
  refine V_aload_n (pc2 := 400) (dk D_X13_readBody 218 rfl) rfl (V_lg 0 rfl) rfl ?_
  obtain ⟨h1, h⟩ := h
  refine V_getI kc13 (pc2 := 403) 44 (dk D_X13_readBody 219 rfl) fl_13_439 (by decide) (fun _ => rfl) rfl h1 ?_
  refine V_cmpge (tgt := 505) (pc2 := 406) (dk D_X13_readBody 220 rfl) (by decide) rfl (fun q2 => ?_) (fun q2 => ?_)
  · have h := h.1 q2
    exact V_return (dk D_X13_readBody 270 rfl) rfl h
  · have h := h.2 q2
    refine V_bipush (x := (-9)) (pc2 := 408) (dk D_X13_readBody 221 rfl) (by decide) rfl ?_
    refine V_istore (pc2 := 410) (lv2 := [(0, _), (1, _), (2, _), (3, _), (4, _), (5, _), (6, _), (7, _)]) (dk D_X13_readBody 222 rfl) (by decide) rfl rfl ?_
    refine V_iconst (x := 0) (pc2 := 411) (dk D_X13_readBody 223 rfl) (by decide) rfl ?_
    refine V_istore (pc2 := 413) (lv2 := [(0, _), (1, _), (2, _), (3, _), (4, _), (5, _), (6, _), (7, _), (8, _)]) (dk D_X13_readBody 224 rfl) (by decide) rfl rfl ?_
    exact h
theorem w_X13_readBody_413 {X : Cx} {d : Nat} {S : Mem} {Q : Res → Mem → Prop} (r0 : Nat) (x1 : Int32) (x2 : Int32) (x3 : Int32) (x4 : Int32) (x5 : Int32) (x6 : Int32) (x7 : Int32) (x8 : Int32) (h : (isK S r0 13) ∧ (((gI S r0 25) ≤ x8 → ((¬ x7 = (-9) → V X d MX13_readBody 485 [(0, vR r0), (1, vI x1), (2, vI x2), (3, vI x3), (4, vI x4), (5, vI x5), (6, vI x6), (7, vI x7), (8, vI x8)] [] S Q) ∧ (x7 = (-9) → (isK S (gR S r0 43) 21) ∧ (vp_in x6 (gN S (gR S r0 43))) ∧ ∃ e6 : Nat, e6 + 1 ≤ d ∧ C X e6 MX13_blame [vR r0, vI (gI S (gR S r0 43) (x6 : Int32).toNatClampNeg)] S (RV fun  S9 => V X d MX13_readBody 485 [(0, vR r0), (1, vI x1), (2, vI x2), (3, vI x3), (4, vI x4), (5, vI x5), (6, vI x6), (7, vI x7), (8, vI x8)] [] S9 Q)))) ∧ (¬ (gI S r0 25) ≤ x8 → ((¬ x7 = (-9) → V X d MX13_readBody 457 [(0, vR r0), (1, vI x1), (2, vI x2), (3, vI x3), (4, vI x4), (5, vI x5), (6, vI x6), (7, vI x7), (8, vI x8)] [] S Q) ∧ (x7 = (-9) → (isK S (gR S r0 24) 22) ∧ (vp_in x8 (gN S (gR S r0 24))) ∧ (isK S (gR S r0 43) 21) ∧ (vp_in x6 (gN S (gR S r0 43))) ∧ (isK S (gR S r0 9) 22) ∧ (vp_in (gI S (gR S r0 43) (x6 : Int32).toNatClampNeg) (gN S (gR S r0 9))) ∧ ((¬ (lg_cmp (gL S (gR S r0 24) (x8 : Int32).toNatClampNeg) (gL S (gR S r0 9) ((gI S (gR S r0 43) (x6 : Int32).toNatClampNeg) : Int32).toNatClampNeg)) = 0 → V X d MX13_readBody 457 [(0, vR r0), (1, vI x1), (2, vI x2), (3, vI x3), (4, vI x4), (5, vI x5), (6, vI x6), (7, vI x7), (8, vI x8)] [] S Q) ∧ ((lg_cmp (gL S (gR S r0 24) (x8 : Int32).toNatClampNeg) (gL S (gR S r0 9) ((gI S (gR S r0 43) (x6 : Int32).toNatClampNeg) : Int32).toNatClampNeg)) = 0 → V X d MX13_readBody 459 [(0, vR r0), (1, vI x1), (2, vI x2), (3, vI x3), (4, vI x4), (5, vI x5), (6, vI x6), (7, vI x7), (8, vI x8)] [vI x8] S Q))))))) : V X d MX13_readBody 413 [(0, vR r0), (1, vI x1), (2, vI x2), (3, vI x3), (4, vI x4), (5, vI x5), (6, vI x6), (7, vI x7), (8, vI x8)] [] S Q := by
  refine V_iload (pc2 := 415) (dk D_X13_readBody 225 rfl) (V_lg 8 rfl) rfl ?_
  refine V_aload_n (pc2 := 416) (dk D_X13_readBody 226 rfl) rfl (V_lg 0 rfl) rfl ?_
  obtain ⟨h1, h⟩ := h
  refine V_getI kc13 (pc2 := 419) 25 (dk D_X13_readBody 227 rfl) fl_13_357 (by decide) (fun _ => rfl) rfl h1 ?_
  refine V_cmpge (tgt := 467) (pc2 := 422) (dk D_X13_readBody 228 rfl) (by decide) rfl (fun q2 => ?_) (fun q2 => ?_)
  · have h := h.1 q2
    refine V_iload (pc2 := 469) (dk D_X13_readBody 251 rfl) (V_lg 7 rfl) rfl ?_
    refine V_bipush (x := (-9)) (pc2 := 471) (dk D_X13_readBody 252 rfl) (by decide) rfl ?_
    refine V_cmpne (tgt := 485) (pc2 := 474) (dk D_X13_readBody 253 rfl) (by decide) rfl (fun q3 => ?_) (fun q3 => ?_)
    · have h := h.1 q3
      exact h
    · have h := h.2 q3
      refine V_aload_n (pc2 := 475) (dk D_X13_readBody 254 rfl) rfl (V_lg 0 rfl) rfl ?_
      refine V_aload_n (pc2 := 476) (dk D_X13_readBody 255 rfl) rfl (V_lg 0 rfl) rfl ?_
      refine V_getR kc13 (pc2 := 479) 43 (dk D_X13_readBody 256 rfl) fl_13_155 (by decide) (fun _ => rfl) rfl h1 ?_
      refine V_iload (pc2 := 481) (dk D_X13_readBody 257 rfl) (V_lg 6 rfl) rfl ?_
      obtain ⟨h4, h⟩ := h
      obtain ⟨h5, h⟩ := h
      refine V_iald (pc2 := 482) (dk D_X13_readBody 258 rfl) rfl h4 h5 ?_
      obtain ⟨e6, he7, hc8⟩ := h
      refine V_callV (as := [_]) (st := []) (M' := MX13_blame) (ci := 13) (pc2 := 485) (dk D_X13_readBody 259 rfl) ml_13_360 mv_X13_blame rfl rfl (by decide) rfl (Nat.le_of_ble_eq_true rfl) rfl he7 h1 hc8 (RV.k fun  S9 h => ?_)
      exact h
  · have h := h.2 q2
    refine V_iload (pc2 := 424) (dk D_X13_readBody 229 rfl) (V_lg 7 rfl) rfl ?_
    refine V_bipush (x := (-9)) (pc2 := 426) (dk D_X13_readBody 230 rfl) (by decide) rfl ?_
    refine V_cmpne (tgt := 457) (pc2 := 429) (dk D_X13_readBody 231 rfl) (by decide) rfl (fun q10 => ?_) (fun q10 => ?_)
    · have h := h.1 q10
      exact h
    · have h := h.2 q10
      refine V_aload_n (pc2 := 430) (dk D_X13_readBody 232 rfl) rfl (V_lg 0 rfl) rfl ?_
      refine V_getR kc13 (pc2 := 433) 24 (dk D_X13_readBody 233 rfl) fl_13_119 (by decide) (fun _ => rfl) rfl h1 ?_
      refine V_iload (pc2 := 435) (dk D_X13_readBody 234 rfl) (V_lg 8 rfl) rfl ?_
      obtain ⟨h11, h⟩ := h
      obtain ⟨h12, h⟩ := h
      refine V_lald (pc2 := 436) (dk D_X13_readBody 235 rfl) rfl h11 h12 ?_
      refine V_aload_n (pc2 := 437) (dk D_X13_readBody 236 rfl) rfl (V_lg 0 rfl) rfl ?_
      refine V_getR kc13 (pc2 := 440) 9 (dk D_X13_readBody 237 rfl) fl_13_36 (by decide) (fun _ => rfl) rfl h1 ?_
      refine V_aload_n (pc2 := 441) (dk D_X13_readBody 238 rfl) rfl (V_lg 0 rfl) rfl ?_
      refine V_getR kc13 (pc2 := 444) 43 (dk D_X13_readBody 239 rfl) fl_13_155 (by decide) (fun _ => rfl) rfl h1 ?_
      refine V_iload (pc2 := 446) (dk D_X13_readBody 240 rfl) (V_lg 6 rfl) rfl ?_
      obtain ⟨h13, h⟩ := h
      obtain ⟨h14, h⟩ := h
      refine V_iald (pc2 := 447) (dk D_X13_readBody 241 rfl) rfl h13 h14 ?_
      obtain ⟨h15, h⟩ := h
      obtain ⟨h16, h⟩ := h
      refine V_lald (pc2 := 448) (dk D_X13_readBody 242 rfl) rfl h15 h16 ?_
      refine V_lcmp (pc2 := 449) (dk D_X13_readBody 243 rfl) rfl ?_
      refine V_ifne (tgt := 457) (pc2 := 452) (dk D_X13_readBody 244 rfl) (by decide) rfl (fun q17 => ?_) (fun q17 => ?_)
      · have h := h.1 q17
        exact h
      · have h := h.2 q17
        refine V_iload (pc2 := 454) (dk D_X13_readBody 245 rfl) (V_lg 8 rfl) rfl ?_
        refine V_goto (tgt := 459) (dk D_X13_readBody 246 rfl) (by decide) ?_
        exact h
theorem w_X13_readBody_457 {X : Cx} {d : Nat} {S : Mem} {Q : Res → Mem → Prop} (r0 : Nat) (x1 : Int32) (x2 : Int32) (x3 : Int32) (x4 : Int32) (x5 : Int32) (x6 : Int32) (x7 : Int32) (x8 : Int32) (h : V X d MX13_readBody 459 [(0, vR r0), (1, vI x1), (2, vI x2), (3, vI x3), (4, vI x4), (5, vI x5), (6, vI x6), (7, vI x7), (8, vI x8)] [vI x7] S Q) : V X d MX13_readBody 457 [(0, vR r0), (1, vI x1), (2, vI x2), (3, vI x3), (4, vI x4), (5, vI x5), (6, vI x6), (7, vI x7), (8, vI x8)] [] S Q := by
  refine V_iload (pc2 := 459) (dk D_X13_readBody 247 rfl) (V_lg 7 rfl) rfl ?_
  exact h
theorem w_X13_readBody_459 {X : Cx} {d : Nat} {S : Mem} {Q : Res → Mem → Prop} (r0 : Nat) (x1 : Int32) (x2 : Int32) (x3 : Int32) (x4 : Int32) (x5 : Int32) (x6 : Int32) (x7 : Int32) (x8 : Int32) (t0 : Int32) (h : V X d MX13_readBody 413 [(0, vR r0), (1, vI x1), (2, vI x2), (3, vI x3), (4, vI x4), (5, vI x5), (6, vI x6), (7, vI t0), (8, vI (x8 + 1))] [] S Q) : V X d MX13_readBody 459 [(0, vR r0), (1, vI x1), (2, vI x2), (3, vI x3), (4, vI x4), (5, vI x5), (6, vI x6), (7, vI x7), (8, vI x8)] [vI t0] S Q := by
  refine V_istore (pc2 := 461) (lv2 := [(0, _), (1, _), (2, _), (3, _), (4, _), (5, _), (6, _), (7, _), (8, _)]) (dk D_X13_readBody 248 rfl) (by decide) rfl rfl ?_
  refine V_iinc (y := _ + 1) (pc2 := 464) (lv2 := [(0, _), (1, _), (2, _), (3, _), (4, _), (5, _), (6, _), (7, _), (8, _)]) (dk D_X13_readBody 249 rfl) (V_lg 8 rfl) rfl (by decide) rfl rfl ?_
  refine V_goto (tgt := 413) (dk D_X13_readBody 250 rfl) (by decide) ?_
  exact h
theorem w_X13_readBody_485 {X : Cx} {d : Nat} {S : Mem} {Q : Res → Mem → Prop} (r0 : Nat) (x1 : Int32) (x2 : Int32) (x3 : Int32) (x4 : Int32) (x5 : Int32) (x6 : Int32) (x7 : Int32) (x8 : Int32) (h : (isK S r0 13) ∧ (isK S (gR S r0 42) 21) ∧ (vp_in x6 (gN S (gR S r0 42))) ∧ (isK S (gR S r0 14) 21) ∧ (vp_in (gI S (gR S r0 42) (x6 : Int32).toNatClampNeg) (gN S (gR S r0 14))) ∧ ∀ S6 : Mem, S6 = uI S (gR S r0 14) (((gI S (gR S r0 42) (x6 : Int32).toNatClampNeg) : Int32).toNatClampNeg) x7 → V X d MX13_readBody 397 [(0, vR r0), (1, vI x1), (2, vI x2), (3, vI x3), (4, vI x4), (5, vI x5), (6, vI (x6 + 1))] [] S6 Q) : V X d MX13_readBody 485 [(0, vR r0), (1, vI x1), (2, vI x2), (3, vI x3), (4, vI x4), (5, vI x5), (6, vI x6), (7, vI x7), (8, vI x8)] [] S Q := by
  refine V_aload_n (pc2 := 486) (dk D_X13_readBody 260 rfl) rfl (V_lg 0 rfl) rfl ?_
  obtain ⟨h1, h⟩ := h
  refine V_getR kc13 (pc2 := 489) 14 (dk D_X13_readBody 261 rfl) fl_13_95 (by decide) (fun _ => rfl) rfl h1 ?_
  refine V_aload_n (pc2 := 490) (dk D_X13_readBody 262 rfl) rfl (V_lg 0 rfl) rfl ?_
  refine V_getR kc13 (pc2 := 493) 42 (dk D_X13_readBody 263 rfl) fl_13_152 (by decide) (fun _ => rfl) rfl h1 ?_
  refine V_iload (pc2 := 495) (dk D_X13_readBody 264 rfl) (V_lg 6 rfl) rfl ?_
  obtain ⟨h2, h⟩ := h
  obtain ⟨h3, h⟩ := h
  refine V_iald (pc2 := 496) (dk D_X13_readBody 265 rfl) rfl h2 h3 ?_
  refine V_iload (pc2 := 498) (dk D_X13_readBody 266 rfl) (V_lg 7 rfl) rfl ?_
  obtain ⟨h4, h⟩ := h
  obtain ⟨h5, h⟩ := h
  refine V_iast (pc2 := 499) (dk D_X13_readBody 267 rfl) rfl h4 h5 ?_
  have h := h _ rfl
  refine V_iinc (y := _ + 1) (pc2 := 502) (lv2 := [(0, _), (1, _), (2, _), (3, _), (4, _), (5, _), (6, _), (7, _), (8, _)]) (dk D_X13_readBody 268 rfl) (V_lg 6 rfl) rfl (by decide) rfl rfl ?_
  refine V_goto (tgt := 397) (dk D_X13_readBody 269 rfl) (by decide) ?_
  refine V_pick [0, 1, 2, 3, 4, 5, 6] (lv2 := [(0, _), (1, _), (2, _), (3, _), (4, _), (5, _), (6, _)]) rfl ?_
  exact h
