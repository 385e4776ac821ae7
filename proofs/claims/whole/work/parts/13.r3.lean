def L_X13_tells : List (Nat × Instr × Nat) := [(0, .aload_n 0, 1), (1, .getfield 479, 3), (4, .sipush 300, 3), (7, .if_icmp .ge 23, 3), (10, .aload_n 0, 1), (11, .getfield 241, 3), (14, .aload_n 0, 1), (15, .getfield 479, 3), (18, .iload_n 1, 1), (19, .iastore, 1), (20, .aload_n 0, 1), (21, .getfield 244, 3), (24, .aload_n 0, 1), (25, .getfield 479, 3), (28, .iload_n 2, 1), (29, .iastore, 1), (30, .aload_n 0, 1), (31, .dup, 1), (32, .getfield 479, 3), (35, .iconst 1, 1), (36, .iadd, 1), (37, .putfield 479, 3), (40, .return_, 1)]
theorem D_X13_tells : dOk cX13_tells L_X13_tells = true := by decide +kernel
theorem w_X13_tells_0 {X : Cx} {d : Nat} {S : Mem} {Q : Res → Mem → Prop} (r0 : Nat) (x1 : Int32) (x2 : Int32) (h : (isK S r0 13) ∧ ((300 ≤ (gI S r0 80) → V X d MX13_tells 30 [(0, vR r0), (1, vI x1), (2, vI x2)] [] S Q) ∧ (¬ 300 ≤ (gI S r0 80) → (isK S (gR S r0 81) 21) ∧ (vp_in (gI S r0 80) (gN S (gR S r0 81))) ∧ ∀ S5 : Mem, S5 = uI S (gR S r0 81) (((gI S r0 80) : Int32).toNatClampNeg) x1 → (isK S (gR S r0 82) 21) ∧ (vp_in (gI S5 r0 80) (gN S (gR S r0 82))) ∧ ∀ S8 : Mem, S8 = uI S5 (gR S r0 82) (((gI S5 r0 80) : Int32).toNatClampNeg) x2 → V X d MX13_tells 30 [(0, vR r0), (1, vI x1), (2, vI x2)] [] S8 Q))) : V X d MX13_tells 0 [(0, vR r0), (1, vI x1), (2, vI x2)] [] S Q := by
  refine V_aload_n (pc2 := 1) (dk D_X13_tells 0 rfl) rfl (V_lg 0 rfl) rfl ?_
  obtain ⟨h1, h⟩ := h
  refine V_getI kc13 (pc2 := 4) 80 (dk D_X13_tells 1 rfl) fl_13_479 (by decide) (fun _ => rfl) rfl h1 ?_
  refine V_sipush (x := 300) (pc2 := 7) (dk D_X13_tells 2 rfl) (by decide) rfl ?_
  refine V_cmpge (tgt := 30) (pc2 := 10) (dk D_X13_tells 3 rfl) (by decide) rfl (fun q2 => ?_) (fun q2 => ?_)
  · have h := h.1 q2
    exact h
  · have h := h.2 q2
    refine V_aload_n (pc2 := 11) (dk D_X13_tells 4 rfl) rfl (V_lg 0 rfl) rfl ?_
    refine V_getR kc13 (pc2 := 14) 81 (dk D_X13_tells 5 rfl) fl_13_241 (by decide) (fun _ => rfl) rfl h1 ?_
    refine V_aload_n (pc2 := 15) (dk D_X13_tells 6 rfl) rfl (V_lg 0 rfl) rfl ?_
    refine V_getI kc13 (pc2 := 18) 80 (dk D_X13_tells 7 rfl) fl_13_479 (by decide) (fun _ => rfl) rfl h1 ?_
    refine V_iload_n (pc2 := 19) (dk D_X13_tells 8 rfl) rfl (V_lg 1 rfl) rfl ?_
    obtain ⟨h3, h⟩ := h
    obtain ⟨h4, h⟩ := h
    refine V_iast (pc2 := 20) (dk D_X13_tells 9 rfl) rfl h3 h4 ?_
    have h := h _ rfl
    refine V_aload_n (pc2 := 21) (dk D_X13_tells 10 rfl) rfl (V_lg 0 rfl) rfl ?_
    refine V_getR kc13 (pc2 := 24) 82 (dk D_X13_tells 11 rfl) fl_13_244 (by decide) (fun _ => rfl) rfl h1 ?_
    refine V_aload_n (pc2 := 25) (dk D_X13_tells 12 rfl) rfl (V_lg 0 rfl) rfl ?_
    refine V_getI kc13 (pc2 := 28) 80 (dk D_X13_tells 13 rfl) fl_13_479 (by decide) (fun _ => rfl) rfl h1 ?_
    refine V_iload_n (pc2 := 29) (dk D_X13_tells 14 rfl) rfl (V_lg 2 rfl) rfl ?_
    obtain ⟨h6, h⟩ := h
    obtain ⟨h7, h⟩ := h
    refine V_iast (pc2 := 30) (dk D_X13_tells 15 rfl) rfl h6 h7 ?_
    have h := h _ rfl
    exact h
theorem w_X13_tells_30 {X : Cx} {d : Nat} {S : Mem} {Q : Res → Mem → Prop} (r0 : Nat) (x1 : Int32) (x2 : Int32) (h : (isK S r0 13) ∧ ∀ S2 : Mem, S2 = uI S r0 80 ((gI S r0 80) + 1) → Q (.inl none) S2) : V X d MX13_tells 30 [(0, vR r0), (1, vI x1), (2, vI x2)] [] S Q := by
  refine V_aload_n (pc2 := 31) (dk D_X13_tells 16 rfl) rfl (V_lg 0 rfl) rfl ?_
  refine V_dup (pc2 := 32) (dk D_X13_tells 17 rfl) rfl rfl ?_
  obtain ⟨h1, h⟩ := h
  refine V_getI kc13 (pc2 := 35) 80 (dk D_X13_tells 18 rfl) fl_13_479 (by decide) (fun _ => rfl) rfl h1 ?_
  refine V_iconst (x := 1) (pc2 := 36) (dk D_X13_tells 19 rfl) (by decide) rfl ?_
  refine V_iadd (pc2 := 37) (dk D_X13_tells 20 rfl) rfl ?_
  refine V_putI kc13 (pc2 := 40) 80 (dk D_X13_tells 21 rfl) fl_13_479 (by decide) (Or.inl rfl) rfl rfl h1 ?_
  have h := h _ rfl
  exact V_return (dk D_X13_tells 22 rfl) rfl h
def L_X13_goes : List (Nat × Instr × Nat) := [(0, .aload_n 0, 1), (1, .getfield 473, 3), (4, .ifCond .le 10, 3), (7, .aload_n 0, 1), (8, .invokevirtual 616, 3), (11, .goto (-11), 3), (14, .aload_n 0, 1), (15, .getfield 519, 3), (18, .ireturn, 1)]
theorem D_X13_goes : dOk cX13_goes L_X13_goes = true := by decide +kernel
theorem w_X13_goes_0 {X : Cx} {d : Nat} {S : Mem} {Q : Res → Mem → Prop} (r0 : Nat) (h : (isK S r0 13) ∧ (((gI S r0 77) ≤ 0 → Q (.inl (some (vI (gI S r0 78)))) S) ∧ (¬ (gI S r0 77) ≤ 0 → ∃ e3 : Nat, e3 + 1 ≤ d ∧ C X e3 MX13_goesOn [vR r0] S (RV fun  S6 => V X d MX13_goes 0 [(0, vR r0)] [] S6 Q)))) : V X d MX13_goes 0 [(0, vR r0)] [] S Q := by
  refine V_aload_n (pc2 := 1) (dk D_X13_goes 0 rfl) rfl (V_lg 0 rfl) rfl ?_
  obtain ⟨h1, h⟩ := h
  refine V_getI kc13 (pc2 := 4) 77 (dk D_X13_goes 1 rfl) fl_13_473 (by decide) (fun _ => rfl) rfl h1 ?_
  refine V_ifle (tgt := 14) (pc2 := 7) (dk D_X13_goes 2 rfl) (by decide) rfl (fun q2 => ?_) (fun q2 => ?_)
  · have h := h.1 q2
    refine V_aload_n (pc2 := 15) (dk D_X13_goes 6 rfl) rfl (V_lg 0 rfl) rfl ?_
    refine V_getI kc13 (pc2 := 18) 78 (dk D_X13_goes 7 rfl) fl_13_519 (by decide) (fun _ => rfl) rfl h1 ?_
    exact V_ireturn (dk D_X13_goes 8 rfl) rfl h
  · have h := h.2 q2
    refine V_aload_n (pc2 := 8) (dk D_X13_goes 3 rfl) rfl (V_lg 0 rfl) rfl ?_
    obtain ⟨e3, he4, hc5⟩ := h
    refine V_callV (as := []) (st := []) (M' := MX13_goesOn) (ci := 13) (pc2 := 11) (dk D_X13_goes 4 rfl) ml_13_616 mv_X13_goesOn rfl rfl (by decide) rfl (Nat.le_of_ble_eq_true rfl) rfl he4 h1 hc5 (RV.k fun  S6 h => ?_)
    refine V_goto (tgt := 0) (dk D_X13_goes 5 rfl) (by decide) ?_
    exact h
def L_X13_isSilent : List (Nat × Instr × Nat) := [(0, .aload_n 0, 1), (1, .getfield 448, 3), (4, .ifCond .eq 10, 3), (7, .aload_n 0, 1), (8, .getfield 470, 3), (11, .ifCond .eq 7, 3), (14, .iconst 1, 1), (15, .goto 4, 3), (18, .iconst 0, 1), (19, .ireturn, 1)]
theorem D_X13_isSilent : dOk cX13_isSilent L_X13_isSilent = true := by decide +kernel
theorem w_X13_isSilent_0 {X : Cx} {d : Nat} {S : Mem} {Q : Res → Mem → Prop} (r0 : Nat) (h : (isK S r0 13) ∧ (((gI S r0 46) = 0 → V X d MX13_isSilent 14 [(0, vR r0)] [] S Q) ∧ (¬ (gI S r0 46) = 0 → (((gI S r0 76) = 0 → V X d MX13_isSilent 19 [(0, vR r0)] [vI 0] S Q) ∧ (¬ (gI S r0 76) = 0 → V X d MX13_isSilent 14 [(0, vR r0)] [] S Q))))) : V X d MX13_isSilent 0 [(0, vR r0)] [] S Q := by
  refine V_aload_n (pc2 := 1) (dk D_X13_isSilent 0 rfl) rfl (V_lg 0 rfl) rfl ?_
  obtain ⟨h1, h⟩ := h
  refine V_getI kc13 (pc2 := 4) 46 (dk D_X13_isSilent 1 rfl) fl_13_448 (by decide) (fun _ => rfl) rfl h1 ?_
  refine V_ifeq (tgt := 14) (pc2 := 7) (dk D_X13_isSilent 2 rfl) (by decide) rfl (fun q2 => ?_) (fun q2 => ?_)
  · have h := h.1 q2
    exact h
  · have h := h.2 q2
    refine V_aload_n (pc2 := 8) (dk D_X13_isSilent 3 rfl) rfl (V_lg 0 rfl) rfl ?_
    refine V_getI kc13 (pc2 := 11) 76 (dk D_X13_isSilent 4 rfl) fl_13_470 (by decide) (fun _ => rfl) rfl h1 ?_
    refine V_ifeq (tgt := 18) (pc2 := 14) (dk D_X13_isSilent 5 rfl) (by decide) rfl (fun q3 => ?_) (fun q3 => ?_)
    · have h := h.1 q3
      refine V_iconst (x := 0) (pc2 := 19) (dk D_X13_isSilent 8 rfl) (by decide) rfl ?_
      exact h
    · have h := h.2 q3
      exact h
theorem w_X13_isSilent_14 {X : Cx} {d : Nat} {S : Mem} {Q : Res → Mem → Prop} (r0 : Nat) (h : V X d MX13_isSilent 19 [(0, vR r0)] [vI 1] S Q) : V X d MX13_isSilent 14 [(0, vR r0)] [] S Q := by
  refine V_iconst (x := 1) (pc2 := 15) (dk D_X13_isSilent 6 rfl) (by decide) rfl ?_
  refine V_goto (tgt := 19) (dk D_X13_isSilent 7 rfl) (by decide) ?_
  exact h
theorem w_X13_isSilent_19 {X : Cx} {d : Nat} {S : Mem} {Q : Res → Mem → Prop} (r0 : Nat) (t0 : Int32) (h : (t0 = 0 ∨ t0 = 1) ∧ Q (.inl (some (vI t0))) S) : V X d MX13_isSilent 19 [(0, vR r0)] [vI t0] S Q := by
  obtain ⟨h1, h⟩ := h
  exact V_zreturn (dk D_X13_isSilent 9 rfl) rfl h1 h
def L_X13_voice : List (Nat × Instr × Nat) := [(0, .aload_n 0, 1), (1, .invokevirtual 619, 3), (4, .ifCond .eq 6, 3), (7, .bipush (-2), 2), (9, .ireturn, 1), (10, .iload_n 1, 1), (11, .iconst 0, 1), (12, .aload_n 0, 1), (13, .getfield 445, 3), (16, .iconst 1, 1), (17, .isub, 1), (18, .invokestatic 292, 3), (21, .ifCond .eq 12, 3), (24, .aload_n 0, 1), (25, .getfield 104, 3), (28, .iload_n 1, 1), (29, .iaload, 1), (30, .ifCond .ne 5, 3), (33, .iconst (-1), 1), (34, .ireturn, 1), (35, .aload_n 0, 1), (36, .getfield 461, 3), (39, .bipush 60, 2), (41, .if_icmp .eq 12, 3), (44, .aload_n 0, 1), (45, .getfield 464, 3), (48, .bipush 12, 2), (50, .if_icmp .ne 8, 3), (53, .bipush (-3), 2), (55, .goto 10, 3), (58, .aload_n 0, 1), (59, .iload_n 1, 1), (60, .iload_n 2, 1), (61, .iconst 0, 1), (62, .invokevirtual 604, 3), (65, .ireturn, 1)]
theorem D_X13_voice : dOk cX13_voice L_X13_voice = true := by decide +kernel
theorem w_X13_voice_0 {X : Cx} {d : Nat} {S : Mem} {Q : Res → Mem → Prop} (r0 : Nat) (x1 : Int32) (x2 : Int32) (h : (isK S r0 13) ∧ ∃ e1 : Nat, e1 + 1 ≤ d ∧ C X e1 MX13_isSilent [vR r0] S (RI fun y4 S5 => ((y4 = 0 → (isK S5 r0 13) ∧ ∃ e9 : Nat, e9 + 1 ≤ d ∧ C X e9 MX13_in [vI x1, vI 0, vI ((gI S5 r0 18) - 1)] S5 (RI fun y12 S13 => ((y12 = 0 → V X d MX13_voice 33 [(0, vR r0), (1, vI x1), (2, vI x2)] [] S13 Q) ∧ (¬ y12 = 0 → (isK S13 r0 13) ∧ (isK S13 (gR S13 r0 19) 21) ∧ (vp_in x1 (gN S13 (gR S13 r0 19))) ∧ ((¬ (gI S13 (gR S13 r0 19) (x1 : Int32).toNatClampNeg) = 0 → (((gI S13 r0 47) = 60 → V X d MX13_voice 53 [(0, vR r0), (1, vI x1), (2, vI x2)] [] S13 Q) ∧ (¬ (gI S13 r0 47) = 60 → ((¬ (gI S13 r0 48) = 12 → ∃ e21 : Nat, e21 + 1 ≤ d ∧ C X e21 MX13_made [vR r0, vI x1, vI x2, vI 0] S13 (RI fun y24 S25 => V X d MX13_voice 65 [(0, vR r0), (1, vI x1), (2, vI x2)] [vI y24] S25 Q)) ∧ ((gI S13 r0 48) = 12 → V X d MX13_voice 53 [(0, vR r0), (1, vI x1), (2, vI x2)] [] S13 Q))))) ∧ ((gI S13 (gR S13 r0 19) (x1 : Int32).toNatClampNeg) = 0 → V X d MX13_voice 33 [(0, vR r0), (1, vI x1), (2, vI x2)] [] S13 Q)))))) ∧ (¬ y4 = 0 → Q (.inl (some (vI (-2)))) S5)))) : V X d MX13_voice 0 [(0, vR r0), (1, vI x1), (2, vI x2)] [] S Q := by
  refine V_aload_n (pc2 := 1) (dk D_X13_voice 0 rfl) rfl (V_lg 0 rfl) rfl ?_
  obtain ⟨h6, h⟩ := h
  obtain ⟨e1, he2, hc3⟩ := h
  refine V_callV (as := []) (st := []) (M' := MX13_isSilent) (ci := 13) (pc2 := 4) (dk D_X13_voice 1 rfl) ml_13_619 mv_X13_isSilent rfl rfl (by decide) rfl (Nat.le_of_ble_eq_true rfl) rfl he2 h6 hc3 (RI.k fun y4 S5 h => ?_)
  refine V_ifeq (tgt := 10) (pc2 := 7) (dk D_X13_voice 2 rfl) (by decide) rfl (fun q7 => ?_) (fun q7 => ?_)
  · have h := h.1 q7
    refine V_iload_n (pc2 := 11) (dk D_X13_voice 5 rfl) rfl (V_lg 1 rfl) rfl ?_
    refine V_iconst (x := 0) (pc2 := 12) (dk D_X13_voice 6 rfl) (by decide) rfl ?_
    refine V_aload_n (pc2 := 13) (dk D_X13_voice 7 rfl) rfl (V_lg 0 rfl) rfl ?_
    obtain ⟨h8, h⟩ := h
    refine V_getI kc13 (pc2 := 16) 18 (dk D_X13_voice 8 rfl) fl_13_445 (by decide) (fun _ => rfl) rfl h8 ?_
    refine V_iconst (x := 1) (pc2 := 17) (dk D_X13_voice 9 rfl) (by decide) rfl ?_
    refine V_isub (pc2 := 18) (dk D_X13_voice 10 rfl) rfl ?_
    obtain ⟨e9, he10, hc11⟩ := h
    refine V_callS (as := [_, _, _]) (st := []) (M' := MX13_in) (pc2 := 21) (dk D_X13_voice 11 rfl) ml_13_292 mv_X13_in rfl rfl (Nat.le_of_ble_eq_true rfl) rfl he10 hc11 (RI.k fun y12 S13 h => ?_)
    refine V_ifeq (tgt := 33) (pc2 := 24) (dk D_X13_voice 12 rfl) (by decide) rfl (fun q14 => ?_) (fun q14 => ?_)
    · have h := h.1 q14
      exact h
    · have h := h.2 q14
      refine V_aload_n (pc2 := 25) (dk D_X13_voice 13 rfl) rfl (V_lg 0 rfl) rfl ?_
      obtain ⟨h15, h⟩ := h
      refine V_getR kc13 (pc2 := 28) 19 (dk D_X13_voice 14 rfl) fl_13_104 (by decide) (fun _ => rfl) rfl h15 ?_
      refine V_iload_n (pc2 := 29) (dk D_X13_voice 15 rfl) rfl (V_lg 1 rfl) rfl ?_
      obtain ⟨h16, h⟩ := h
      obtain ⟨h17, h⟩ := h
      refine V_iald (pc2 := 30) (dk D_X13_voice 16 rfl) rfl h16 h17 ?_
      refine V_ifne (tgt := 35) (pc2 := 33) (dk D_X13_voice 17 rfl) (by decide) rfl (fun q18 => ?_) (fun q18 => ?_)
      · have h := h.1 q18
        refine V_aload_n (pc2 := 36) (dk D_X13_voice 20 rfl) rfl (V_lg 0 rfl) rfl ?_
        refine V_getI kc13 (pc2 := 39) 47 (dk D_X13_voice 21 rfl) fl_13_461 (by decide) (fun _ => rfl) rfl h15 ?_
        refine V_bipush (x := 60) (pc2 := 41) (dk D_X13_voice 22 rfl) (by decide) rfl ?_
        refine V_cmpeq (tgt := 53) (pc2 := 44) (dk D_X13_voice 23 rfl) (by decide) rfl (fun q19 => ?_) (fun q19 => ?_)
        · have h := h.1 q19
          exact h
        · have h := h.2 q19
          refine V_aload_n (pc2 := 45) (dk D_X13_voice 24 rfl) rfl (V_lg 0 rfl) rfl ?_
          refine V_getI kc13 (pc2 := 48) 48 (dk D_X13_voice 25 rfl) fl_13_464 (by decide) (fun _ => rfl) rfl h15 ?_
          refine V_bipush (x := 12) (pc2 := 50) (dk D_X13_voice 26 rfl) (by decide) rfl ?_
          refine V_cmpne (tgt := 58) (pc2 := 53) (dk D_X13_voice 27 rfl) (by decide) rfl (fun q20 => ?_) (fun q20 => ?_)
          · have h := h.1 q20
            refine V_aload_n (pc2 := 59) (dk D_X13_voice 30 rfl) rfl (V_lg 0 rfl) rfl ?_
            refine V_iload_n (pc2 := 60) (dk D_X13_voice 31 rfl) rfl (V_lg 1 rfl) rfl ?_
            refine V_iload_n (pc2 := 61) (dk D_X13_voice 32 rfl) rfl (V_lg 2 rfl) rfl ?_
            refine V_iconst (x := 0) (pc2 := 62) (dk D_X13_voice 33 rfl) (by decide) rfl ?_
            obtain ⟨e21, he22, hc23⟩ := h
            refine V_callV (as := [_, _, _]) (st := []) (M' := MX13_made) (ci := 13) (pc2 := 65) (dk D_X13_voice 34 rfl) ml_13_604 mv_X13_made rfl rfl (by decide) rfl (Nat.le_of_ble_eq_true rfl) rfl he22 h15 hc23 (RI.k fun y24 S25 h => ?_)
            exact h
          · have h := h.2 q20
            exact h
      · have h := h.2 q18
        exact h
  · have h := h.2 q7
    refine V_bipush (x := (-2)) (pc2 := 9) (dk D_X13_voice 3 rfl) (by decide) rfl ?_
    exact V_ireturn (dk D_X13_voice 4 rfl) rfl h
theorem w_X13_voice_33 {X : Cx} {d : Nat} {S : Mem} {Q : Res → Mem → Prop} (r0 : Nat) (x1 : Int32) (x2 : Int32) (h : Q (.inl (some (vI (-1)))) S) : V X d MX13_voice 33 [(0, vR r0), (1, vI x1), (2, vI x2)] [] S Q := by
  refine V_iconst (x := (-1)) (pc2 := 34) (dk D_X13_voice 18 rfl) (by decide) rfl ?_
  exact V_ireturn (dk D_X13_voice 19 rfl) rfl h
theorem w_X13_voice_53 {X : Cx} {d : Nat} {S : Mem} {Q : Res → Mem → Prop} (r0 : Nat) (x1 : Int32) (x2 : Int32) (h : V X d MX13_voice 65 [(0, vR r0), (1, vI x1), (2, vI x2)] [vI (-3)] S Q) : V X d MX13_voice 53 [(0, vR r0), (1, vI x1), (2, vI x2)] [] S Q := by
  refine V_bipush (x := (-3)) (pc2 := 55) (dk D_X13_voice 28 rfl) (by decide) rfl ?_
  refine V_goto (tgt := 65) (dk D_X13_voice 29 rfl) (by decide) ?_
  exact h
theorem w_X13_voice_65 {X : Cx} {d : Nat} {S : Mem} {Q : Res → Mem → Prop} (r0 : Nat) (x1 : Int32) (x2 : Int32) (t0 : Int32) (h : Q (.inl (some (vI t0))) S) : V X d MX13_voice 65 [(0, vR r0), (1, vI x1), (2, vI x2)] [vI t0] S Q := by
  exact V_ireturn (dk D_X13_voice 35 rfl) rfl h
def L_X13_resume : List (Nat × Instr × Nat) := [(0, .aload_n 0, 1), (1, .invokevirtual 619, 3), (4, .ifCond .eq 6, 3), (7, .bipush (-2), 2), (9, .ireturn, 1), (10, .aload_n 0, 1), (11, .iload_n 1, 1), (12, .invokevirtual 554, 3), (15, .ifCond .ne 5, 3), (18, .iconst (-1), 1), (19, .ireturn, 1), (20, .aload_n 0, 1), (21, .iload_n 1, 1), (22, .invokevirtual 510, 3), (25, .ifCond .eq 5, 3), (28, .iconst 3, 1), (29, .ireturn, 1), (30, .aload_n 0, 1), (31, .getfield 176, 3), (34, .iload_n 1, 1), (35, .iconst 0, 1), (36, .iastore, 1), (37, .aload_n 0, 1), (38, .iconst 0, 1), (39, .iload_n 1, 1), (40, .iload_n 2, 1), (41, .invokevirtual 570, 3), (44, .aload_n 0, 1), (45, .invokevirtual 623, 3), (48, .ireturn, 1)]
theorem D_X13_resume : dOk cX13_resume L_X13_resume = true := by decide +kernel
theorem w_X13_resume_0 {X : Cx} {d : Nat} {S : Mem} {Q : Res → Mem → Prop} (r0 : Nat) (x1 : Int32) (x2 : Int32) (h : (isK S r0 13) ∧ ∃ e1 : Nat, e1 + 1 ≤ d ∧ C X e1 MX13_isSilent [vR r0] S (RI fun y4 S5 => ((y4 = 0 → (isK S5 r0 13) ∧ ∃ e8 : Nat, e8 + 1 ≤ d ∧ C X e8 MX13_isVoice [vR r0, vI x1] S5 (RI fun y11 S12 => ((¬ y11 = 0 → (isK S12 r0 13) ∧ ∃ e15 : Nat, e15 + 1 ≤ d ∧ C X e15 MX13_isOver [vR r0, vI x1] S12 (RI fun y18 S19 => ((y18 = 0 → (isK S19 r0 13) ∧ (isK S19 (gR S19 r0 54) 21) ∧ (vp_in x1 (gN S19 (gR S19 r0 54))) ∧ ∀ S25 : Mem, S25 = uI S19 (gR S19 r0 54) ((x1 : Int32).toNatClampNeg) 0 → ∃ e26 : Nat, e26 + 1 ≤ d ∧ C X e26 MX13_goesTo [vR r0, vI 0, vI x1, vI x2] S25 (RV fun  S29 => (isK S29 r0 13) ∧ ∃ e30 : Nat, e30 + 1 ≤ d ∧ C X e30 MX13_goes [vR r0] S29 (RI fun y33 S34 => Q (.inl (some (vI y33))) S34))) ∧ (¬ y18 = 0 → Q (.inl (some (vI 3))) S19)))) ∧ (y11 = 0 → Q (.inl (some (vI (-1)))) S12)))) ∧ (¬ y4 = 0 → Q (.inl (some (vI (-2)))) S5)))) : V X d MX13_resume 0 [(0, vR r0), (1, vI x1), (2, vI x2)] [] S Q := by
  refine V_aload_n (pc2 := 1) (dk D_X13_resume 0 rfl) rfl (V_lg 0 rfl) rfl ?_
  obtain ⟨h6, h⟩ := h
  obtain ⟨e1, he2, hc3⟩ := h
  refine V_callV (as := []) (st := []) (M' := MX13_isSilent) (ci := 13) (pc2 := 4) (dk D_X13_resume 1 rfl) ml_13_619 mv_X13_isSilent rfl rfl (by decide) rfl (Nat.le_of_ble_eq_true rfl) rfl he2 h6 hc3 (RI.k fun y4 S5 h => ?_)
  refine V_ifeq (tgt := 10) (pc2 := 7) (dk D_X13_resume 2 rfl) (by decide) rfl (fun q7 => ?_) (fun q7 => ?_)
  · have h := h.1 q7
    refine V_aload_n (pc2 := 11) (dk D_X13_resume 5 rfl) rfl (V_lg 0 rfl) rfl ?_
    refine V_iload_n (pc2 := 12) (dk D_X13_resume 6 rfl) rfl (V_lg 1 rfl) rfl ?_
    obtain ⟨h13, h⟩ := h
    obtain ⟨e8, he9, hc10⟩ := h
    refine V_callV (as := [_]) (st := []) (M' := MX13_isVoice) (ci := 13) (pc2 := 15) (dk D_X13_resume 7 rfl) ml_13_554 mv_X13_isVoice rfl rfl (by decide) rfl (Nat.le_of_ble_eq_true rfl) rfl he9 h13 hc10 (RI.k fun y11 S12 h => ?_)
    refine V_ifne (tgt := 20) (pc2 := 18) (dk D_X13_resume 8 rfl) (by decide) rfl (fun q14 => ?_) (fun q14 => ?_)
    · have h := h.1 q14
      refine V_aload_n (pc2 := 21) (dk D_X13_resume 11 rfl) rfl (V_lg 0 rfl) rfl ?_
      refine V_iload_n (pc2 := 22) (dk D_X13_resume 12 rfl) rfl (V_lg 1 rfl) rfl ?_
      obtain ⟨h20, h⟩ := h
      obtain ⟨e15, he16, hc17⟩ := h
      refine V_callV (as := [_]) (st := []) (M' := MX13_isOver) (ci := 13) (pc2 := 25) (dk D_X13_resume 13 rfl) ml_13_510 mv_X13_isOver rfl rfl (by decide) rfl (Nat.le_of_ble_eq_true rfl) rfl he16 h20 hc17 (RI.k fun y18 S19 h => ?_)
      refine V_ifeq (tgt := 30) (pc2 := 28) (dk D_X13_resume 14 rfl) (by decide) rfl (fun q21 => ?_) (fun q21 => ?_)
      · have h := h.1 q21
        refine V_aload_n (pc2 := 31) (dk D_X13_resume 17 rfl) rfl (V_lg 0 rfl) rfl ?_
        obtain ⟨h22, h⟩ := h
        refine V_getR kc13 (pc2 := 34) 54 (dk D_X13_resume 18 rfl) fl_13_176 (by decide) (fun _ => rfl) rfl h22 ?_
        refine V_iload_n (pc2 := 35) (dk D_X13_resume 19 rfl) rfl (V_lg 1 rfl) rfl ?_
        refine V_iconst (x := 0) (pc2 := 36) (dk D_X13_resume 20 rfl) (by decide) rfl ?_
        obtain ⟨h23, h⟩ := h
        obtain ⟨h24, h⟩ := h
        refine V_iast (pc2 := 37) (dk D_X13_resume 21 rfl) rfl h23 h24 ?_
        have h := h _ rfl
        refine V_aload_n (pc2 := 38) (dk D_X13_resume 22 rfl) rfl (V_lg 0 rfl) rfl ?_
        refine V_iconst (x := 0) (pc2 := 39) (dk D_X13_resume 23 rfl) (by decide) rfl ?_
        refine V_iload_n (pc2 := 40) (dk D_X13_resume 24 rfl) rfl (V_lg 1 rfl) rfl ?_
        refine V_iload_n (pc2 := 41) (dk D_X13_resume 25 rfl) rfl (V_lg 2 rfl) rfl ?_
        obtain ⟨e26, he27, hc28⟩ := h
        refine V_callV (as := [_, _, _]) (st := []) (M' := MX13_goesTo) (ci := 13) (pc2 := 44) (dk D_X13_resume 26 rfl) ml_13_570 mv_X13_goesTo rfl rfl (by decide) rfl (Nat.le_of_ble_eq_true rfl) rfl he27 h22 hc28 (RV.k fun  S29 h => ?_)
        refine V_aload_n (pc2 := 45) (dk D_X13_resume 27 rfl) rfl (V_lg 0 rfl) rfl ?_
        obtain ⟨h35, h⟩ := h
        obtain ⟨e30, he31, hc32⟩ := h
        refine V_callV (as := []) (st := []) (M' := MX13_goes) (ci := 13) (pc2 := 48) (dk D_X13_resume 28 rfl) ml_13_623 mv_X13_goes rfl rfl (by decide) rfl (Nat.le_of_ble_eq_true rfl) rfl he31 h35 hc32 (RI.k fun y33 S34 h => ?_)
        exact V_ireturn (dk D_X13_resume 29 rfl) rfl h
      · have h := h.2 q21
        refine V_iconst (x := 3) (pc2 := 29) (dk D_X13_resume 15 rfl) (by decide) rfl ?_
        exact V_ireturn (dk D_X13_resume 16 rfl) rfl h
    · have h := h.2 q14
      refine V_iconst (x := (-1)) (pc2 := 19) (dk D_X13_resume 9 rfl) (by decide) rfl ?_
      exact V_ireturn (dk D_X13_resume 10 rfl) rfl h
  · have h := h.2 q7
    refine V_bipush (x := (-2)) (pc2 := 9) (dk D_X13_resume 3 rfl) (by decide) rfl ?_
    exact V_ireturn (dk D_X13_resume 4 rfl) rfl h
def L_X13_inject : List (Nat × Instr × Nat) := [(0, .aload_n 0, 1), (1, .invokevirtual 619, 3), (4, .ifCond .eq 6, 3), (7, .bipush (-2), 2), (9, .ireturn, 1), (10, .aload_n 0, 1), (11, .iload_n 1, 1), (12, .invokevirtual 554, 3), (15, .ifCond .eq 13, 3), (18, .iload_n 2, 1), (19, .iconst 0, 1), (20, .bipush 9, 2), (22, .invokestatic 292, 3), (25, .ifCond .ne 5, 3), (28, .iconst (-1), 1), (29, .ireturn, 1), (30, .aload_n 0, 1), (31, .iload_n 1, 1), (32, .invokevirtual 510, 3), (35, .ifCond .eq 5, 3), (38, .iconst 3, 1), (39, .ireturn, 1), (40, .aload_n 0, 1), (41, .iload_n 2, 1), (42, .iload_n 3, 1), (43, .iconst 0, 1), (44, .bipush (-9), 2), (46, .bipush (-9), 2), (48, .invokevirtual 525, 3), (51, .istore 4, 2), (53, .aload_n 0, 1), (54, .getfield 161, 3), (57, .iload_n 1, 1), (58, .iaload, 1), (59, .ifCond .ne 17, 3), (62, .aload_n 0, 1), (63, .iload_n 1, 1), (64, .iconst 5, 1), (65, .invokevirtual 513, 3), (68, .aload_n 0, 1), (69, .iload 4, 2), (71, .putfield 491, 3), (74, .iconst 2, 1), (75, .ireturn, 1), (76, .aload_n 0, 1), (77, .iconst 0, 1), (78, .iload_n 1, 1), (79, .iload 4, 2), (81, .invokevirtual 573, 3), (84, .aload_n 0, 1), (85, .invokevirtual 623, 3), (88, .ireturn, 1)]
theorem D_X13_inject : dOk cX13_inject L_X13_inject = true := by decide +kernel
theorem w_X13_inject_0 {X : Cx} {d : Nat} {S : Mem} {Q : Res → Mem → Prop} (r0 : Nat) (x1 : Int32) (x2 : Int32) (x3 : Int32) (h : (isK S r0 13) ∧ ∃ e1 : Nat, e1 + 1 ≤ d ∧ C X e1 MX13_isSilent [vR r0] S (RI fun y4 S5 => ((y4 = 0 → (isK S5 r0 13) ∧ ∃ e8 : Nat, e8 + 1 ≤ d ∧ C X e8 MX13_isVoice [vR r0, vI x1] S5 (RI fun y11 S12 => ((y11 = 0 → V X d MX13_inject 28 [(0, vR r0), (1, vI x1), (2, vI x2), (3, vI x3)] [] S12 Q) ∧ (¬ y11 = 0 → ∃ e15 : Nat, e15 + 1 ≤ d ∧ C X e15 MX13_in [vI x2, vI 0, vI 9] S12 (RI fun y18 S19 => ((¬ y18 = 0 → (isK S19 r0 13) ∧ ∃ e21 : Nat, e21 + 1 ≤ d ∧ C X e21 MX13_isOver [vR r0, vI x1] S19 (RI fun y24 S25 => ((y24 = 0 → (isK S25 r0 13) ∧ ∃ e28 : Nat, e28 + 1 ≤ d ∧ C X e28 MX13_failure [vR r0, vI x2, vI x3, vI 0, vI (-9), vI (-9)] S25 (RI fun y31 S32 => (isK S32 r0 13) ∧ (isK S32 (gR S32 r0 49) 21) ∧ (vp_in x1 (gN S32 (gR S32 r0 49))) ∧ ((¬ (gI S32 (gR S32 r0 49) (x1 : Int32).toNatClampNeg) = 0 → ∃ e38 : Nat, e38 + 1 ≤ d ∧ C X e38 MX13_thrownInto [vR r0, vI 0, vI x1, vI y31] S32 (RV fun  S41 => (isK S41 r0 13) ∧ ∃ e42 : Nat, e42 + 1 ≤ d ∧ C X e42 MX13_goes [vR r0] S41 (RI fun y45 S46 => Q (.inl (some (vI y45))) S46))) ∧ ((gI S32 (gR S32 r0 49) (x1 : Int32).toNatClampNeg) = 0 → ∃ e48 : Nat, e48 + 1 ≤ d ∧ C X e48 MX13_over [vR r0, vI x1, vI 5] S32 (RV fun  S51 => (isK S51 r0 13) ∧ ∀ S53 : Mem, S53 = uI S51 r0 97 y31 → Q (.inl (some (vI 2))) S53))))) ∧ (¬ y24 = 0 → Q (.inl (some (vI 3))) S25)))) ∧ (y18 = 0 → V X d MX13_inject 28 [(0, vR r0), (1, vI x1), (2, vI x2), (3, vI x3)] [] S19 Q))))))) ∧ (¬ y4 = 0 → Q (.inl (some (vI (-2)))) S5)))) : V X d MX13_inject 0 [(0, vR r0), (1, vI x1), (2, vI x2), (3, vI x3)] [] S Q := by
  refine V_aload_n (pc2 := 1) (dk D_X13_inject 0 rfl) rfl (V_lg 0 rfl) rfl ?_
  obtain ⟨h6, h⟩ := h
  obtain ⟨e1, he2, hc3⟩ := h
  refine V_callV (as := []) (st := []) (M' := MX13_isSilent) (ci := 13) (pc2 := 4) (dk D_X13_inject 1 rfl) ml_13_619 mv_X13_isSilent rfl rfl (by decide) rfl (Nat.le_of_ble_eq_true rfl) rfl he2 h6 hc3 (RI.k fun y4 S5 h => ?_)
  refine V_ifeq (tgt := 10) (pc2 := 7) (dk D_X13_inject 2 rfl) (by decide) rfl (fun q7 => ?_) (fun q7 => ?_)
  · have h := h.1 q7
    refine V_aload_n (pc2 := 11) (dk D_X13_inject 5 rfl) rfl (V_lg 0 rfl) rfl ?_
    refine V_iload_n (pc2 := 12) (dk D_X13_inject 6 rfl) rfl (V_lg 1 rfl) rfl ?_
    obtain ⟨h13, h⟩ := h
    obtain ⟨e8, he9, hc10⟩ := h
    refine V_callV (as := [_]) (st := []) (M' := MX13_isVoice) (ci := 13) (pc2 := 15) (dk D_X13_inject 7 rfl) ml_13_554 mv_X13_isVoice rfl rfl (by decide) rfl (Nat.le_of_ble_eq_true rfl) rfl he9 h13 hc10 (RI.k fun y11 S12 h => ?_)
    refine V_ifeq (tgt := 28) (pc2 := 18) (dk D_X13_inject 8 rfl) (by decide) rfl (fun q14 => ?_) (fun q14 => ?_)
    · have h := h.1 q14
      exact h
    · have h := h.2 q14
      refine V_iload_n (pc2 := 19) (dk D_X13_inject 9 rfl) rfl (V_lg 2 rfl) rfl ?_
      refine V_iconst (x := 0) (pc2 := 20) (dk D_X13_inject 10 rfl) (by decide) rfl ?_
      refine V_bipush (x := 9) (pc2 := 22) (dk D_X13_inject 11 rfl) (by decide) rfl ?_
      obtain ⟨e15, he16, hc17⟩ := h
      refine V_callS (as := [_, _, _]) (st := []) (M' := MX13_in) (pc2 := 25) (dk D_X13_inject 12 rfl) ml_13_292 mv_X13_in rfl rfl (Nat.le_of_ble_eq_true rfl) rfl he16 hc17 (RI.k fun y18 S19 h => ?_)
      refine V_ifne (tgt := 30) (pc2 := 28) (dk D_X13_inject 13 rfl) (by decide) rfl (fun q20 => ?_) (fun q20 => ?_)
      · have h := h.1 q20
        refine V_aload_n (pc2 := 31) (dk D_X13_inject 16 rfl) rfl (V_lg 0 rfl) rfl ?_
        refine V_iload_n (pc2 := 32) (dk D_X13_inject 17 rfl) rfl (V_lg 1 rfl) rfl ?_
        obtain ⟨h26, h⟩ := h
        obtain ⟨e21, he22, hc23⟩ := h
        refine V_callV (as := [_]) (st := []) (M' := MX13_isOver) (ci := 13) (pc2 := 35) (dk D_X13_inject 18 rfl) ml_13_510 mv_X13_isOver rfl rfl (by decide) rfl (Nat.le_of_ble_eq_true rfl) rfl he22 h26 hc23 (RI.k fun y24 S25 h => ?_)
        refine V_ifeq (tgt := 40) (pc2 := 38) (dk D_X13_inject 19 rfl) (by decide) rfl (fun q27 => ?_) (fun q27 => ?_)
        · have h := h.1 q27
          refine V_aload_n (pc2 := 41) (dk D_X13_inject 22 rfl) rfl (V_lg 0 rfl) rfl ?_
          refine V_iload_n (pc2 := 42) (dk D_X13_inject 23 rfl) rfl (V_lg 2 rfl) rfl ?_
          refine V_iload_n (pc2 := 43) (dk D_X13_inject 24 rfl) rfl (V_lg 3 rfl) rfl ?_
          refine V_iconst (x := 0) (pc2 := 44) (dk D_X13_inject 25 rfl) (by decide) rfl ?_
          refine V_bipush (x := (-9)) (pc2 := 46) (dk D_X13_inject 26 rfl) (by decide) rfl ?_
          refine V_bipush (x := (-9)) (pc2 := 48) (dk D_X13_inject 27 rfl) (by decide) rfl ?_
          obtain ⟨h33, h⟩ := h
          obtain ⟨e28, he29, hc30⟩ := h
          refine V_callV (as := [_, _, _, _, _]) (st := []) (M' := MX13_failure) (ci := 13) (pc2 := 51) (dk D_X13_inject 28 rfl) ml_13_525 mv_X13_failure rfl rfl (by decide) rfl (Nat.le_of_ble_eq_true rfl) rfl he29 h33 hc30 (RI.k fun y31 S32 h => ?_)
          refine V_istore (pc2 := 53) (lv2 := [(0, _), (1, _), (2, _), (3, _), (4, _)]) (dk D_X13_inject 29 rfl) (by decide) rfl rfl ?_
          refine V_aload_n (pc2 := 54) (dk D_X13_inject 30 rfl) rfl (V_lg 0 rfl) rfl ?_
          obtain ⟨h34, h⟩ := h
          refine V_getR kc13 (pc2 := 57) 49 (dk D_X13_inject 31 rfl) fl_13_161 (by decide) (fun _ => rfl) rfl h34 ?_
          refine V_iload_n (pc2 := 58) (dk D_X13_inject 32 rfl) rfl (V_lg 1 rfl) rfl ?_
          obtain ⟨h35, h⟩ := h
          obtain ⟨h36, h⟩ := h
          refine V_iald (pc2 := 59) (dk D_X13_inject 33 rfl) rfl h35 h36 ?_
          refine V_ifne (tgt := 76) (pc2 := 62) (dk D_X13_inject 34 rfl) (by decide) rfl (fun q37 => ?_) (fun q37 => ?_)
          · have h := h.1 q37
            refine V_aload_n (pc2 := 77) (dk D_X13_inject 44 rfl) rfl (V_lg 0 rfl) rfl ?_
            refine V_iconst (x := 0) (pc2 := 78) (dk D_X13_inject 45 rfl) (by decide) rfl ?_
            refine V_iload_n (pc2 := 79) (dk D_X13_inject 46 rfl) rfl (V_lg 1 rfl) rfl ?_
            refine V_iload (pc2 := 81) (dk D_X13_inject 47 rfl) (V_lg 4 rfl) rfl ?_
            obtain ⟨e38, he39, hc40⟩ := h
            refine V_callV (as := [_, _, _]) (st := []) (M' := MX13_thrownInto) (ci := 13) (pc2 := 84) (dk D_X13_inject 48 rfl) ml_13_573 mv_X13_thrownInto rfl rfl (by decide) rfl (Nat.le_of_ble_eq_true rfl) rfl he39 h34 hc40 (RV.k fun  S41 h => ?_)
            refine V_aload_n (pc2 := 85) (dk D_X13_inject 49 rfl) rfl (V_lg 0 rfl) rfl ?_
            obtain ⟨h47, h⟩ := h
            obtain ⟨e42, he43, hc44⟩ := h
            refine V_callV (as := []) (st := []) (M' := MX13_goes) (ci := 13) (pc2 := 88) (dk D_X13_inject 50 rfl) ml_13_623 mv_X13_goes rfl rfl (by decide) rfl (Nat.le_of_ble_eq_true rfl) rfl he43 h47 hc44 (RI.k fun y45 S46 h => ?_)
            exact V_ireturn (dk D_X13_inject 51 rfl) rfl h
          · have h := h.2 q37
            refine V_aload_n (pc2 := 63) (dk D_X13_inject 35 rfl) rfl (V_lg 0 rfl) rfl ?_
            refine V_iload_n (pc2 := 64) (dk D_X13_inject 36 rfl) rfl (V_lg 1 rfl) rfl ?_
            refine V_iconst (x := 5) (pc2 := 65) (dk D_X13_inject 37 rfl) (by decide) rfl ?_
            obtain ⟨e48, he49, hc50⟩ := h
            refine V_callV (as := [_, _]) (st := []) (M' := MX13_over) (ci := 13) (pc2 := 68) (dk D_X13_inject 38 rfl) ml_13_513 mv_X13_over rfl rfl (by decide) rfl (Nat.le_of_ble_eq_true rfl) rfl he49 h34 hc50 (RV.k fun  S51 h => ?_)
            refine V_aload_n (pc2 := 69) (dk D_X13_inject 39 rfl) rfl (V_lg 0 rfl) rfl ?_
            refine V_iload (pc2 := 71) (dk D_X13_inject 40 rfl) (V_lg 4 rfl) rfl ?_
            obtain ⟨h52, h⟩ := h
            refine V_putI kc13 (pc2 := 74) 97 (dk D_X13_inject 41 rfl) fl_13_491 (by decide) (Or.inl rfl) rfl rfl h52 ?_
            have h := h _ rfl
            refine V_iconst (x := 2) (pc2 := 75) (dk D_X13_inject 42 rfl) (by decide) rfl ?_
            exact V_ireturn (dk D_X13_inject 43 rfl) rfl h
        · have h := h.2 q27
          refine V_iconst (x := 3) (pc2 := 39) (dk D_X13_inject 20 rfl) (by decide) rfl ?_
          exact V_ireturn (dk D_X13_inject 21 rfl) rfl h
      · have h := h.2 q20
        exact h
  · have h := h.2 q7
    refine V_bipush (x := (-2)) (pc2 := 9) (dk D_X13_inject 3 rfl) (by decide) rfl ?_
    exact V_ireturn (dk D_X13_inject 4 rfl) rfl h
theorem w_X13_inject_28 {X : Cx} {d : Nat} {S : Mem} {Q : Res → Mem → Prop} (r0 : Nat) (x1 : Int32) (x2 : Int32) (x3 : Int32) (h : Q (.inl (some (vI (-1)))) S) : V X d MX13_inject 28 [(0, vR r0), (1, vI x1), (2, vI x2), (3, vI x3)] [] S Q := by
  refine V_iconst (x := (-1)) (pc2 := 29) (dk D_X13_inject 14 rfl) (by decide) rfl ?_
  exact V_ireturn (dk D_X13_inject 15 rfl) rfl h
def L_X13_closes_ : List (Nat × Instr × Nat) := [(0, .aload_n 0, 1), (1, .iload_n 1, 1), (2, .invokevirtual 510, 3), (5, .ifCond .eq 5, 3), (8, .iconst 0, 1), (9, .ireturn, 1), (10, .aload_n 0, 1), (11, .getfield 161, 3), (14, .iload_n 1, 1), (15, .iaload, 1), (16, .ifCond .ne 12, 3), (19, .aload_n 0, 1), (20, .iload_n 1, 1), (21, .bipush 6, 2), (23, .invokevirtual 513, 3), (26, .iconst 1, 1), (27, .ireturn, 1), (28, .aload_n 0, 1), (29, .getfield 185, 3), (32, .iload_n 1, 1), (33, .iconst 1, 1), (34, .bastore, 1), (35, .aload_n 0, 1), (36, .iconst 0, 1), (37, .iload_n 1, 1), (38, .aload_n 0, 1), (39, .bipush 14, 2), (41, .iconst 0, 1), (42, .iconst 0, 1), (43, .bipush (-9), 2), (45, .bipush (-9), 2), (47, .invokevirtual 525, 3), (50, .invokevirtual 573, 3), (53, .aload_n 0, 1), (54, .invokevirtual 623, 3), (57, .ireturn, 1)]
theorem D_X13_closes_ : dOk cX13_closes_ L_X13_closes_ = true := by decide +kernel
theorem w_X13_closes__0 {X : Cx} {d : Nat} {S : Mem} {Q : Res → Mem → Prop} (r0 : Nat) (x1 : Int32) (x2 : Int32) (h : (isK S r0 13) ∧ ∃ e1 : Nat, e1 + 1 ≤ d ∧ C X e1 MX13_isOver [vR r0, vI x1] S (RI fun y4 S5 => ((y4 = 0 → (isK S5 r0 13) ∧ (isK S5 (gR S5 r0 49) 21) ∧ (vp_in x1 (gN S5 (gR S5 r0 49))) ∧ ((¬ (gI S5 (gR S5 r0 49) (x1 : Int32).toNatClampNeg) = 0 → (isK S5 (gR S5 r0 57) 23) ∧ (vp_in x1 (gN S5 (gR S5 r0 57))) ∧ ∀ S14 : Mem, S14 = uI S5 (gR S5 r0 57) ((x1 : Int32).toNatClampNeg) 1 → ∃ e15 : Nat, e15 + 1 ≤ d ∧ C X e15 MX13_failure [vR r0, vI 14, vI 0, vI 0, vI (-9), vI (-9)] S14 (RI fun y18 S19 => (isK S19 r0 13) ∧ ∃ e20 : Nat, e20 + 1 ≤ d ∧ C X e20 MX13_thrownInto [vR r0, vI 0, vI x1, vI y18] S19 (RV fun  S23 => (isK S23 r0 13) ∧ ∃ e25 : Nat, e25 + 1 ≤ d ∧ C X e25 MX13_goes [vR r0] S23 (RI fun y28 S29 => Q (.inl (some (vI y28))) S29)))) ∧ ((gI S5 (gR S5 r0 49) (x1 : Int32).toNatClampNeg) = 0 → ∃ e31 : Nat, e31 + 1 ≤ d ∧ C X e31 MX13_over [vR r0, vI x1, vI 6] S5 (RV fun  S34 => Q (.inl (some (vI 1))) S34)))) ∧ (¬ y4 = 0 → Q (.inl (some (vI 0))) S5)))) : V X d MX13_closes_ 0 [(0, vR r0), (1, vI x1), (2, vI x2)] [] S Q := by
  refine V_aload_n (pc2 := 1) (dk D_X13_closes_ 0 rfl) rfl (V_lg 0 rfl) rfl ?_
  refine V_iload_n (pc2 := 2) (dk D_X13_closes_ 1 rfl) rfl (V_lg 1 rfl) rfl ?_
  obtain ⟨h6, h⟩ := h
  obtain ⟨e1, he2, hc3⟩ := h
  refine V_callV (as := [_]) (st := []) (M' := MX13_isOver) (ci := 13) (pc2 := 5) (dk D_X13_closes_ 2 rfl) ml_13_510 mv_X13_isOver rfl rfl (by decide) rfl (Nat.le_of_ble_eq_true rfl) rfl he2 h6 hc3 (RI.k fun y4 S5 h => ?_)
  refine V_ifeq (tgt := 10) (pc2 := 8) (dk D_X13_closes_ 3 rfl) (by decide) rfl (fun q7 => ?_) (fun q7 => ?_)
  · have h := h.1 q7
    refine V_aload_n (pc2 := 11) (dk D_X13_closes_ 6 rfl) rfl (V_lg 0 rfl) rfl ?_
    obtain ⟨h8, h⟩ := h
    refine V_getR kc13 (pc2 := 14) 49 (dk D_X13_closes_ 7 rfl) fl_13_161 (by decide) (fun _ => rfl) rfl h8 ?_
    refine V_iload_n (pc2 := 15) (dk D_X13_closes_ 8 rfl) rfl (V_lg 1 rfl) rfl ?_
    obtain ⟨h9, h⟩ := h
    obtain ⟨h10, h⟩ := h
    refine V_iald (pc2 := 16) (dk D_X13_closes_ 9 rfl) rfl h9 h10 ?_
    refine V_ifne (tgt := 28) (pc2 := 19) (dk D_X13_closes_ 10 rfl) (by decide) rfl (fun q11 => ?_) (fun q11 => ?_)
    · have h := h.1 q11
      refine V_aload_n (pc2 := 29) (dk D_X13_closes_ 17 rfl) rfl (V_lg 0 rfl) rfl ?_
      refine V_getR kc13 (pc2 := 32) 57 (dk D_X13_closes_ 18 rfl) fl_13_185 (by decide) (fun _ => rfl) rfl h8 ?_
      refine V_iload_n (pc2 := 33) (dk D_X13_closes_ 19 rfl) rfl (V_lg 1 rfl) rfl ?_
      refine V_iconst (x := 1) (pc2 := 34) (dk D_X13_closes_ 20 rfl) (by decide) rfl ?_
      obtain ⟨h12, h⟩ := h
      obtain ⟨h13, h⟩ := h
      refine V_zast (pc2 := 35) (dk D_X13_closes_ 21 rfl) rfl h12 h13 (Or.inr rfl) ?_
      have h := h _ rfl
      refine V_aload_n (pc2 := 36) (dk D_X13_closes_ 22 rfl) rfl (V_lg 0 rfl) rfl ?_
      refine V_iconst (x := 0) (pc2 := 37) (dk D_X13_closes_ 23 rfl) (by decide) rfl ?_
      refine V_iload_n (pc2 := 38) (dk D_X13_closes_ 24 rfl) rfl (V_lg 1 rfl) rfl ?_
      refine V_aload_n (pc2 := 39) (dk D_X13_closes_ 25 rfl) rfl (V_lg 0 rfl) rfl ?_
      refine V_bipush (x := 14) (pc2 := 41) (dk D_X13_closes_ 26 rfl) (by decide) rfl ?_
      refine V_iconst (x := 0) (pc2 := 42) (dk D_X13_closes_ 27 rfl) (by decide) rfl ?_
      refine V_iconst (x := 0) (pc2 := 43) (dk D_X13_closes_ 28 rfl) (by decide) rfl ?_
      refine V_bipush (x := (-9)) (pc2 := 45) (dk D_X13_closes_ 29 rfl) (by decide) rfl ?_
      refine V_bipush (x := (-9)) (pc2 := 47) (dk D_X13_closes_ 30 rfl) (by decide) rfl ?_
      obtain ⟨e15, he16, hc17⟩ := h
      refine V_callV (as := [_, _, _, _, _]) (st := [_, _, _]) (M' := MX13_failure) (ci := 13) (pc2 := 50) (dk D_X13_closes_ 31 rfl) ml_13_525 mv_X13_failure rfl rfl (by decide) rfl (Nat.le_of_ble_eq_true rfl) rfl he16 h8 hc17 (RI.k fun y18 S19 h => ?_)
      obtain ⟨h24, h⟩ := h
      obtain ⟨e20, he21, hc22⟩ := h
      refine V_callV (as := [_, _, _]) (st := []) (M' := MX13_thrownInto) (ci := 13) (pc2 := 53) (dk D_X13_closes_ 32 rfl) ml_13_573 mv_X13_thrownInto rfl rfl (by decide) rfl (Nat.le_of_ble_eq_true rfl) rfl he21 h24 hc22 (RV.k fun  S23 h => ?_)
      refine V_aload_n (pc2 := 54) (dk D_X13_closes_ 33 rfl) rfl (V_lg 0 rfl) rfl ?_
      obtain ⟨h30, h⟩ := h
      obtain ⟨e25, he26, hc27⟩ := h
      refine V_callV (as := []) (st := []) (M' := MX13_goes) (ci := 13) (pc2 := 57) (dk D_X13_closes_ 34 rfl) ml_13_623 mv_X13_goes rfl rfl (by decide) rfl (Nat.le_of_ble_eq_true rfl) rfl he26 h30 hc27 (RI.k fun y28 S29 h => ?_)
      exact V_ireturn (dk D_X13_closes_ 35 rfl) rfl h
    · have h := h.2 q11
      refine V_aload_n (pc2 := 20) (dk D_X13_closes_ 11 rfl) rfl (V_lg 0 rfl) rfl ?_
      refine V_iload_n (pc2 := 21) (dk D_X13_closes_ 12 rfl) rfl (V_lg 1 rfl) rfl ?_
      refine V_bipush (x := 6) (pc2 := 23) (dk D_X13_closes_ 13 rfl) (by decide) rfl ?_
      obtain ⟨e31, he32, hc33⟩ := h
      refine V_callV (as := [_, _]) (st := []) (M' := MX13_over) (ci := 13) (pc2 := 26) (dk D_X13_closes_ 14 rfl) ml_13_513 mv_X13_over rfl rfl (by decide) rfl (Nat.le_of_ble_eq_true rfl) rfl he32 h8 hc33 (RV.k fun  S34 h => ?_)
      refine V_iconst (x := 1) (pc2 := 27) (dk D_X13_closes_ 15 rfl) (by decide) rfl ?_
      exact V_ireturn (dk D_X13_closes_ 16 rfl) rfl h
  · have h := h.2 q7
    refine V_iconst (x := 0) (pc2 := 9) (dk D_X13_closes_ 4 rfl) (by decide) rfl ?_
    exact V_ireturn (dk D_X13_closes_ 5 rfl) rfl h
def L_X13_close : List (Nat × Instr × Nat) := [(0, .aload_n 0, 1), (1, .invokevirtual 619, 3), (4, .ifCond .eq 8, 3), (7, .bipush (-2), 2), (9, .goto 21, 3), (12, .aload_n 0, 1), (13, .iload_n 1, 1), (14, .invokevirtual 554, 3), (17, .ifCond .ne 7, 3), (20, .iconst (-1), 1), (21, .goto 9, 3), (24, .aload_n 0, 1), (25, .iload_n 1, 1), (26, .iconst 1, 1), (27, .invokevirtual 626, 3), (30, .ireturn, 1)]
theorem D_X13_close : dOk cX13_close L_X13_close = true := by decide +kernel
theorem w_X13_close_0 {X : Cx} {d : Nat} {S : Mem} {Q : Res → Mem → Prop} (r0 : Nat) (x1 : Int32) (h : (isK S r0 13) ∧ ∃ e1 : Nat, e1 + 1 ≤ d ∧ C X e1 MX13_isSilent [vR r0] S (RI fun y4 S5 => ((y4 = 0 → (isK S5 r0 13) ∧ ∃ e8 : Nat, e8 + 1 ≤ d ∧ C X e8 MX13_isVoice [vR r0, vI x1] S5 (RI fun y11 S12 => ((¬ y11 = 0 → (isK S12 r0 13) ∧ ∃ e15 : Nat, e15 + 1 ≤ d ∧ C X e15 MX13_closes_ [vR r0, vI x1, vI 1] S12 (RI fun y18 S19 => V X d MX13_close 30 [(0, vR r0), (1, vI x1)] [vI y18] S19 Q)) ∧ (y11 = 0 → V X d MX13_close 30 [(0, vR r0), (1, vI x1)] [vI (-1)] S12 Q)))) ∧ (¬ y4 = 0 → V X d MX13_close 30 [(0, vR r0), (1, vI x1)] [vI (-2)] S5 Q)))) : V X d MX13_close 0 [(0, vR r0), (1, vI x1)] [] S Q := by
  refine V_aload_n (pc2 := 1) (dk D_X13_close 0 rfl) rfl (V_lg 0 rfl) rfl ?_
  obtain ⟨h6, h⟩ := h
  obtain ⟨e1, he2, hc3⟩ := h
  refine V_callV (as := []) (st := []) (M' := MX13_isSilent) (ci := 13) (pc2 := 4) (dk D_X13_close 1 rfl) ml_13_619 mv_X13_isSilent rfl rfl (by decide) rfl (Nat.le_of_ble_eq_true rfl) rfl he2 h6 hc3 (RI.k fun y4 S5 h => ?_)
  refine V_ifeq (tgt := 12) (pc2 := 7) (dk D_X13_close 2 rfl) (by decide) rfl (fun q7 => ?_) (fun q7 => ?_)
  · have h := h.1 q7
    refine V_aload_n (pc2 := 13) (dk D_X13_close 5 rfl) rfl (V_lg 0 rfl) rfl ?_
    refine V_iload_n (pc2 := 14) (dk D_X13_close 6 rfl) rfl (V_lg 1 rfl) rfl ?_
    obtain ⟨h13, h⟩ := h
    obtain ⟨e8, he9, hc10⟩ := h
    refine V_callV (as := [_]) (st := []) (M' := MX13_isVoice) (ci := 13) (pc2 := 17) (dk D_X13_close 7 rfl) ml_13_554 mv_X13_isVoice rfl rfl (by decide) rfl (Nat.le_of_ble_eq_true rfl) rfl he9 h13 hc10 (RI.k fun y11 S12 h => ?_)
    refine V_ifne (tgt := 24) (pc2 := 20) (dk D_X13_close 8 rfl) (by decide) rfl (fun q14 => ?_) (fun q14 => ?_)
    · have h := h.1 q14
      refine V_aload_n (pc2 := 25) (dk D_X13_close 11 rfl) rfl (V_lg 0 rfl) rfl ?_
      refine V_iload_n (pc2 := 26) (dk D_X13_close 12 rfl) rfl (V_lg 1 rfl) rfl ?_
      refine V_iconst (x := 1) (pc2 := 27) (dk D_X13_close 13 rfl) (by decide) rfl ?_
      obtain ⟨h20, h⟩ := h
      obtain ⟨e15, he16, hc17⟩ := h
      refine V_callV (as := [_, _]) (st := []) (M' := MX13_closes_) (ci := 13) (pc2 := 30) (dk D_X13_close 14 rfl) ml_13_626 mv_X13_closes_ rfl rfl (by decide) rfl (Nat.le_of_ble_eq_true rfl) rfl he16 h20 hc17 (RI.k fun y18 S19 h => ?_)
      exact h
    · have h := h.2 q14
      refine V_iconst (x := (-1)) (pc2 := 21) (dk D_X13_close 9 rfl) (by decide) rfl ?_
      refine V_goto (tgt := 30) (dk D_X13_close 10 rfl) (by decide) ?_
      exact h
  · have h := h.2 q7
    refine V_bipush (x := (-2)) (pc2 := 9) (dk D_X13_close 3 rfl) (by decide) rfl ?_
    refine V_goto (tgt := 30) (dk D_X13_close 4 rfl) (by decide) ?_
    exact h
theorem w_X13_close_30 {X : Cx} {d : Nat} {S : Mem} {Q : Res → Mem → Prop} (r0 : Nat) (x1 : Int32) (t0 : Int32) (h : Q (.inl (some (vI t0))) S) : V X d MX13_close 30 [(0, vR r0), (1, vI x1)] [vI t0] S Q := by
  exact V_ireturn (dk D_X13_close 15 rfl) rfl h
def L_X13_reach : List (Nat × Instr × Nat) := [(0, .aload_n 0, 1), (1, .iload_n 1, 1), (2, .invokevirtual 554, 3), (5, .ifCond .eq 10, 3), (8, .aload_n 0, 1), (9, .getfield 280, 3), (12, .iload_n 1, 1), (13, .iconst 1, 1), (14, .bastore, 1), (15, .return_, 1)]
theorem D_X13_reach : dOk cX13_reach L_X13_reach = true := by decide +kernel
theorem w_X13_reach_0 {X : Cx} {d : Nat} {S : Mem} {Q : Res → Mem → Prop} (r0 : Nat) (x1 : Int32) (h : (isK S r0 13) ∧ ∃ e1 : Nat, e1 + 1 ≤ d ∧ C X e1 MX13_isVoice [vR r0, vI x1] S (RI fun y4 S5 => ((y4 = 0 → V X d MX13_reach 15 [(0, vR r0), (1, vI x1)] [] S5 Q) ∧ (¬ y4 = 0 → (isK S5 r0 13) ∧ (isK S5 (gR S5 r0 98) 23) ∧ (vp_in x1 (gN S5 (gR S5 r0 98))) ∧ ∀ S11 : Mem, S11 = uI S5 (gR S5 r0 98) ((x1 : Int32).toNatClampNeg) 1 → V X d MX13_reach 15 [(0, vR r0), (1, vI x1)] [] S11 Q)))) : V X d MX13_reach 0 [(0, vR r0), (1, vI x1)] [] S Q := by
  refine V_aload_n (pc2 := 1) (dk D_X13_reach 0 rfl) rfl (V_lg 0 rfl) rfl ?_
  refine V_iload_n (pc2 := 2) (dk D_X13_reach 1 rfl) rfl (V_lg 1 rfl) rfl ?_
  obtain ⟨h6, h⟩ := h
  obtain ⟨e1, he2, hc3⟩ := h
  refine V_callV (as := [_]) (st := []) (M' := MX13_isVoice) (ci := 13) (pc2 := 5) (dk D_X13_reach 2 rfl) ml_13_554 mv_X13_isVoice rfl rfl (by decide) rfl (Nat.le_of_ble_eq_true rfl) rfl he2 h6 hc3 (RI.k fun y4 S5 h => ?_)
  refine V_ifeq (tgt := 15) (pc2 := 8) (dk D_X13_reach 3 rfl) (by decide) rfl (fun q7 => ?_) (fun q7 => ?_)
  · have h := h.1 q7
    exact h
  · have h := h.2 q7
    refine V_aload_n (pc2 := 9) (dk D_X13_reach 4 rfl) rfl (V_lg 0 rfl) rfl ?_
    obtain ⟨h8, h⟩ := h
    refine V_getR kc13 (pc2 := 12) 98 (dk D_X13_reach 5 rfl) fl_13_280 (by decide) (fun _ => rfl) rfl h8 ?_
    refine V_iload_n (pc2 := 13) (dk D_X13_reach 6 rfl) rfl (V_lg 1 rfl) rfl ?_
    refine V_iconst (x := 1) (pc2 := 14) (dk D_X13_reach 7 rfl) (by decide) rfl ?_
    obtain ⟨h9, h⟩ := h
    obtain ⟨h10, h⟩ := h
    refine V_zast (pc2 := 15) (dk D_X13_reach 8 rfl) rfl h9 h10 (Or.inr rfl) ?_
    have h := h _ rfl
    exact h
theorem w_X13_reach_15 {X : Cx} {d : Nat} {S : Mem} {Q : Res → Mem → Prop} (r0 : Nat) (x1 : Int32) (h : Q (.inl none) S) : V X d MX13_reach 15 [(0, vR r0), (1, vI x1)] [] S Q := by
  exact V_return (dk D_X13_reach 9 rfl) rfl h
def L_X13_reachFrom : List (Nat × Instr × Nat) := [(0, .aload_n 0, 1), (1, .getfield 161, 3), (4, .iload_n 1, 1), (5, .iaload, 1), (6, .ifCond .ne 28, 3), (9, .aload_n 0, 1), (10, .getfield 107, 3), (13, .aload_n 0, 1), (14, .getfield 164, 3), (17, .iload_n 1, 1), (18, .iaload, 1), (19, .iaload, 1), (20, .ifCond .le 13, 3), (23, .aload_n 0, 1), (24, .aload_n 0, 1), (25, .getfield 167, 3), (28, .iload_n 1, 1), (29, .iaload, 1), (30, .invokevirtual 629, 3), (33, .return_, 1), (34, .iconst 0, 1), (35, .istore_n 2, 1), (36, .iload_n 2, 1), (37, .aload_n 0, 1), (38, .getfield 195, 3), (41, .aload_n 0, 1), (42, .getfield 189, 3), (45, .iload_n 1, 1), (46, .iaload, 1), (47, .iaload, 1), (48, .if_icmp .ge 62, 3), (51, .bipush 60, 2), (53, .aload_n 0, 1), (54, .getfield 189, 3), (57, .iload_n 1, 1), (58, .iaload, 1), (59, .imul, 1), (60, .iload_n 2, 1), (61, .iadd, 1), (62, .istore_n 3, 1), (63, .iconst 0, 1), (64, .istore 4, 2), (66, .iload 4, 2), (68, .aload_n 0, 1), (69, .getfield 110, 3), (72, .aload_n 0, 1), (73, .getfield 198, 3), (76, .iload_n 3, 1), (77, .iaload, 1), (78, .iaload, 1), (79, .if_icmp .ge 25, 3), (82, .aload_n 0, 1), (83, .aload_n 0, 1), (84, .getfield 213, 3), (87, .bipush 40, 2), (89, .iload_n 3, 1), (90, .imul, 1), (91, .iload 4, 2), (93, .iadd, 1), (94, .iaload, 1), (95, .invokevirtual 629, 3), (98, .iinc 4 1, 3), (101, .goto (-35), 3), (104, .iinc 2 1, 3), (107, .goto (-71), 3), (110, .return_, 1)]
theorem D_X13_reachFrom : dOk cX13_reachFrom L_X13_reachFrom = true := by decide +kernel
theorem w_X13_reachFrom_0 {X : Cx} {d : Nat} {S : Mem} {Q : Res → Mem → Prop} (r0 : Nat) (x1 : Int32) (h : (isK S r0 13) ∧ (isK S (gR S r0 49) 21) ∧ (vp_in x1 (gN S (gR S r0 49))) ∧ ((¬ (gI S (gR S r0 49) (x1 : Int32).toNatClampNeg) = 0 → V X d MX13_reachFrom 36 [(0, vR r0), (1, vI x1), (2, vI 0)] [] S Q) ∧ ((gI S (gR S r0 49) (x1 : Int32).toNatClampNeg) = 0 → (isK S (gR S r0 50) 21) ∧ (vp_in x1 (gN S (gR S r0 50))) ∧ (isK S (gR S r0 20) 21) ∧ (vp_in (gI S (gR S r0 50) (x1 : Int32).toNatClampNeg) (gN S (gR S r0 20))) ∧ (((gI S (gR S r0 20) ((gI S (gR S r0 50) (x1 : Int32).toNatClampNeg) : Int32).toNatClampNeg) ≤ 0 → V X d MX13_reachFrom 33 [(0, vR r0), (1, vI x1)] [] S Q) ∧ (¬ (gI S (gR S r0 20) ((gI S (gR S r0 50) (x1 : Int32).toNatClampNeg) : Int32).toNatClampNeg) ≤ 0 → (isK S (gR S r0 51) 21) ∧ (vp_in x1 (gN S (gR S r0 51))) ∧ ∃ e12 : Nat, e12 + 1 ≤ d ∧ C X e12 MX13_reach [vR r0, vI (gI S (gR S r0 51) (x1 : Int32).toNatClampNeg)] S (RV fun  S15 => V X d MX13_reachFrom 33 [(0, vR r0), (1, vI x1)] [] S15 Q)))))) : V X d MX13_reachFrom 0 [(0, vR r0), (1, vI x1)] [] S Q := by
  refine V_aload_n (pc2 := 1) (dk D_X13_reachFrom 0 rfl) rfl (V_lg 0 rfl) rfl ?_
  obtain ⟨h1, h⟩ := h
  refine V_getR kc13 (pc2 := 4) 49 (dk D_X13_reachFrom 1 rfl) fl_13_161 (by decide) (fun _ => rfl) rfl h1 ?_
  refine V_iload_n (pc2 := 5) (dk D_X13_reachFrom 2 rfl) rfl (V_lg 1 rfl) rfl ?_
  obtain ⟨h2, h⟩ := h
  obtain ⟨h3, h⟩ := h
  refine V_iald (pc2 := 6) (dk D_X13_reachFrom 3 rfl) rfl h2 h3 ?_
  refine V_ifne (tgt := 34) (pc2 := 9) (dk D_X13_reachFrom 4 rfl) (by decide) rfl (fun q4 => ?_) (fun q4 => ?_)
  · have h := h.1 q4
    refine V_iconst (x := 0) (pc2 := 35) (dk D_X13_reachFrom 20 rfl) (by decide) rfl ?_
    refine V_istore_n (pc2 := 36) (lv2 := [(0, _), (1, _), (2, _)]) (dk D_X13_reachFrom 21 rfl) rfl (by decide) rfl rfl ?_
    exact h
  · have h := h.2 q4
    refine V_aload_n (pc2 := 10) (dk D_X13_reachFrom 5 rfl) rfl (V_lg 0 rfl) rfl ?_
    refine V_getR kc13 (pc2 := 13) 20 (dk D_X13_reachFrom 6 rfl) fl_13_107 (by decide) (fun _ => rfl) rfl h1 ?_
    refine V_aload_n (pc2 := 14) (dk D_X13_reachFrom 7 rfl) rfl (V_lg 0 rfl) rfl ?_
    refine V_getR kc13 (pc2 := 17) 50 (dk D_X13_reachFrom 8 rfl) fl_13_164 (by decide) (fun _ => rfl) rfl h1 ?_
    refine V_iload_n (pc2 := 18) (dk D_X13_reachFrom 9 rfl) rfl (V_lg 1 rfl) rfl ?_
    obtain ⟨h5, h⟩ := h
    obtain ⟨h6, h⟩ := h
    refine V_iald (pc2 := 19) (dk D_X13_reachFrom 10 rfl) rfl h5 h6 ?_
    obtain ⟨h7, h⟩ := h
    obtain ⟨h8, h⟩ := h
    refine V_iald (pc2 := 20) (dk D_X13_reachFrom 11 rfl) rfl h7 h8 ?_
    refine V_ifle (tgt := 33) (pc2 := 23) (dk D_X13_reachFrom 12 rfl) (by decide) rfl (fun q9 => ?_) (fun q9 => ?_)
    · have h := h.1 q9
      exact h
    · have h := h.2 q9
      refine V_aload_n (pc2 := 24) (dk D_X13_reachFrom 13 rfl) rfl (V_lg 0 rfl) rfl ?_
      refine V_aload_n (pc2 := 25) (dk D_X13_reachFrom 14 rfl) rfl (V_lg 0 rfl) rfl ?_
      refine V_getR kc13 (pc2 := 28) 51 (dk D_X13_reachFrom 15 rfl) fl_13_167 (by decide) (fun _ => rfl) rfl h1 ?_
      refine V_iload_n (pc2 := 29) (dk D_X13_reachFrom 16 rfl) rfl (V_lg 1 rfl) rfl ?_
      obtain ⟨h10, h⟩ := h
      obtain ⟨h11, h⟩ := h
      refine V_iald (pc2 := 30) (dk D_X13_reachFrom 17 rfl) rfl h10 h11 ?_
      obtain ⟨e12, he13, hc14⟩ := h
      refine V_callV (as := [_]) (st := []) (M' := MX13_reach) (ci := 13) (pc2 := 33) (dk D_X13_reachFrom 18 rfl) ml_13_629 mv_X13_reach rfl rfl (by decide) rfl (Nat.le_of_ble_eq_true rfl) rfl he13 h1 hc14 (RV.k fun  S15 h => ?_)
      exact h
theorem w_X13_reachFrom_33 {X : Cx} {d : Nat} {S : Mem} {Q : Res → Mem → Prop} (r0 : Nat) (x1 : Int32) (h : Q (.inl none) S) : V X d MX13_reachFrom 33 [(0, vR r0), (1, vI x1)] [] S Q := by
  exact V_return (dk D_X13_reachFrom 19 rfl) rfl h
theorem w_X13_reachFrom_36 {X : Cx} {d : Nat} {S : Mem} {Q : Res → Mem → Prop} (r0 : Nat) (x1 : Int32) (x2 : Int32) (h : (isK S r0 13) ∧ (isK S (gR S r0 58) 21) ∧ (vp_in x1 (gN S (gR S r0 58))) ∧ (isK S (gR S r0 60) 21) ∧ (vp_in (gI S (gR S r0 58) (x1 : Int32).toNatClampNeg) (gN S (gR S r0 60))) ∧ (((gI S (gR S r0 60) ((gI S (gR S r0 58) (x1 : Int32).toNatClampNeg) : Int32).toNatClampNeg) ≤ x2 → Q (.inl none) S) ∧ (¬ (gI S (gR S r0 60) ((gI S (gR S r0 58) (x1 : Int32).toNatClampNeg) : Int32).toNatClampNeg) ≤ x2 → (vp_in x1 (gN S (gR S r0 58))) ∧ V X d MX13_reachFrom 66 [(0, vR r0), (1, vI x1), (2, vI x2), (3, vI ((60 * (gI S (gR S r0 58) (x1 : Int32).toNatClampNeg)) + x2)), (4, vI 0)] [] S Q))) : V X d MX13_reachFrom 36 [(0, vR r0), (1, vI x1), (2, vI x2)] [] S Q := by
  refine V_iload_n (pc2 := 37) (dk D_X13_reachFrom 22 rfl) rfl (V_lg 2 rfl) rfl ?_
  refine V_aload_n (pc2 := 38) (dk D_X13_reachFrom 23 rfl) rfl (V_lg 0 rfl) rfl ?_
  obtain ⟨h1, h⟩ := h
  refine V_getR kc13 (pc2 := 41) 60 (dk D_X13_reachFrom 24 rfl) fl_13_195 (by decide) (fun _ => rfl) rfl h1 ?_
  refine V_aload_n (pc2 := 42) (dk D_X13_reachFrom 25 rfl) rfl (V_lg 0 rfl) rfl ?_
  refine V_getR kc13 (pc2 := 45) 58 (dk D_X13_reachFrom 26 rfl) fl_13_189 (by decide) (fun _ => rfl) rfl h1 ?_
  refine V_iload_n (pc2 := 46) (dk D_X13_reachFrom 27 rfl) rfl (V_lg 1 rfl) rfl ?_
  obtain ⟨h2, h⟩ := h
  obtain ⟨h3, h⟩ := h
  refine V_iald (pc2 := 47) (dk D_X13_reachFrom 28 rfl) rfl h2 h3 ?_
  obtain ⟨h4, h⟩ := h
  obtain ⟨h5, h⟩ := h
  refine V_iald (pc2 := 48) (dk D_X13_reachFrom 29 rfl) rfl h4 h5 ?_
  refine V_cmpge (tgt := 110) (pc2 := 51) (dk D_X13_reachFrom 30 rfl) (by decide) rfl (fun q6 => ?_) (fun q6 => ?_)
  · have h := h.1 q6
    exact V_return (dk D_X13_reachFrom 65 rfl) rfl h
  · have h := h.2 q6
    refine V_bipush (x := 60) (pc2 := 53) (dk D_X13_reachFrom 31 rfl) (by decide) rfl ?_
    refine V_aload_n (pc2 := 54) (dk D_X13_reachFrom 32 rfl) rfl (V_lg 0 rfl) rfl ?_
    refine V_getR kc13 (pc2 := 57) 58 (dk D_X13_reachFrom 33 rfl) fl_13_189 (by decide) (fun _ => rfl) rfl h1 ?_
    refine V_iload_n (pc2 := 58) (dk D_X13_reachFrom 34 rfl) rfl (V_lg 1 rfl) rfl ?_
    obtain ⟨h7, h⟩ := h
    refine V_iald (pc2 := 59) (dk D_X13_reachFrom 35 rfl) rfl h2 h7 ?_
    refine V_imul (pc2 := 60) (dk D_X13_reachFrom 36 rfl) rfl ?_
    refine V_iload_n (pc2 := 61) (dk D_X13_reachFrom 37 rfl) rfl (V_lg 2 rfl) rfl ?_
    refine V_iadd (pc2 := 62) (dk D_X13_reachFrom 38 rfl) rfl ?_
    refine V_istore_n (pc2 := 63) (lv2 := [(0, _), (1, _), (2, _), (3, _)]) (dk D_X13_reachFrom 39 rfl) rfl (by decide) rfl rfl ?_
    refine V_iconst (x := 0) (pc2 := 64) (dk D_X13_reachFrom 40 rfl) (by decide) rfl ?_
    refine V_istore (pc2 := 66) (lv2 := [(0, _), (1, _), (2, _), (3, _), (4, _)]) (dk D_X13_reachFrom 41 rfl) (by decide) rfl rfl ?_
    exact h
theorem w_X13_reachFrom_66 {X : Cx} {d : Nat} {S : Mem} {Q : Res → Mem → Prop} (r0 : Nat) (x1 : Int32) (x2 : Int32) (x3 : Int32) (x4 : Int32) (h : (isK S r0 13) ∧ (isK S (gR S r0 61) 21) ∧ (vp_in x3 (gN S (gR S r0 61))) ∧ (isK S (gR S r0 21) 21) ∧ (vp_in (gI S (gR S r0 61) (x3 : Int32).toNatClampNeg) (gN S (gR S r0 21))) ∧ (((gI S (gR S r0 21) ((gI S (gR S r0 61) (x3 : Int32).toNatClampNeg) : Int32).toNatClampNeg) ≤ x4 → V X d MX13_reachFrom 36 [(0, vR r0), (1, vI x1), (2, vI (x2 + 1))] [] S Q) ∧ (¬ (gI S (gR S r0 21) ((gI S (gR S r0 61) (x3 : Int32).toNatClampNeg) : Int32).toNatClampNeg) ≤ x4 → (isK S (gR S r0 66) 21) ∧ (vp_in ((40 * x3) + x4) (gN S (gR S r0 66))) ∧ ∃ e9 : Nat, e9 + 1 ≤ d ∧ C X e9 MX13_reach [vR r0, vI (gI S (gR S r0 66) (((40 * x3) + x4) : Int32).toNatClampNeg)] S (RV fun  S12 => V X d MX13_reachFrom 66 [(0, vR r0), (1, vI x1), (2, vI x2), (3, vI x3), (4, vI (x4 + 1))] [] S12 Q)))) : V X d MX13_reachFrom 66 [(0, vR r0), (1, vI x1), (2, vI x2), (3, vI x3), (4, vI x4)] [] S Q := by
  refine V_iload (pc2 := 68) (dk D_X13_reachFrom 42 rfl) (V_lg 4 rfl) rfl ?_
  refine V_aload_n (pc2 := 69) (dk D_X13_reachFrom 43 rfl) rfl (V_lg 0 rfl) rfl ?_
  obtain ⟨h1, h⟩ := h
  refine V_getR kc13 (pc2 := 72) 21 (dk D_X13_reachFrom 44 rfl) fl_13_110 (by decide) (fun _ => rfl) rfl h1 ?_
  refine V_aload_n (pc2 := 73) (dk D_X13_reachFrom 45 rfl) rfl (V_lg 0 rfl) rfl ?_
  refine V_getR kc13 (pc2 := 76) 61 (dk D_X13_reachFrom 46 rfl) fl_13_198 (by decide) (fun _ => rfl) rfl h1 ?_
  refine V_iload_n (pc2 := 77) (dk D_X13_reachFrom 47 rfl) rfl (V_lg 3 rfl) rfl ?_
  obtain ⟨h2, h⟩ := h
  obtain ⟨h3, h⟩ := h
  refine V_iald (pc2 := 78) (dk D_X13_reachFrom 48 rfl) rfl h2 h3 ?_
  obtain ⟨h4, h⟩ := h
  obtain ⟨h5, h⟩ := h
  refine V_iald (pc2 := 79) (dk D_X13_reachFrom 49 rfl) rfl h4 h5 ?_
  refine V_cmpge (tgt := 104) (pc2 := 82) (dk D_X13_reachFrom 50 rfl) (by decide) rfl (fun q6 => ?_) (fun q6 => ?_)
  · have h := h.1 q6
    refine V_iinc (y := _ + 1) (pc2 := 107) (lv2 := [(0, _), (1, _), (2, _), (3, _), (4, _)]) (dk D_X13_reachFrom 63 rfl) (V_lg 2 rfl) rfl (by decide) rfl rfl ?_
    refine V_goto (tgt := 36) (dk D_X13_reachFrom 64 rfl) (by decide) ?_
    refine V_pick [0, 1, 2] (lv2 := [(0, _), (1, _), (2, _)]) rfl ?_
    exact h
  · have h := h.2 q6
    refine V_aload_n (pc2 := 83) (dk D_X13_reachFrom 51 rfl) rfl (V_lg 0 rfl) rfl ?_
    refine V_aload_n (pc2 := 84) (dk D_X13_reachFrom 52 rfl) rfl (V_lg 0 rfl) rfl ?_
    refine V_getR kc13 (pc2 := 87) 66 (dk D_X13_reachFrom 53 rfl) fl_13_213 (by decide) (fun _ => rfl) rfl h1 ?_
    refine V_bipush (x := 40) (pc2 := 89) (dk D_X13_reachFrom 54 rfl) (by decide) rfl ?_
    refine V_iload_n (pc2 := 90) (dk D_X13_reachFrom 55 rfl) rfl (V_lg 3 rfl) rfl ?_
    refine V_imul (pc2 := 91) (dk D_X13_reachFrom 56 rfl) rfl ?_
    refine V_iload (pc2 := 93) (dk D_X13_reachFrom 57 rfl) (V_lg 4 rfl) rfl ?_
    refine V_iadd (pc2 := 94) (dk D_X13_reachFrom 58 rfl) rfl ?_
    obtain ⟨h7, h⟩ := h
    obtain ⟨h8, h⟩ := h
    refine V_iald (pc2 := 95) (dk D_X13_reachFrom 59 rfl) rfl h7 h8 ?_
    obtain ⟨e9, he10, hc11⟩ := h
    refine V_callV (as := [_]) (st := []) (M' := MX13_reach) (ci := 13) (pc2 := 98) (dk D_X13_reachFrom 60 rfl) ml_13_629 mv_X13_reach rfl rfl (by decide) rfl (Nat.le_of_ble_eq_true rfl) rfl he10 h1 hc11 (RV.k fun  S12 h => ?_)
    refine V_iinc (y := _ + 1) (pc2 := 101) (lv2 := [(0, _), (1, _), (2, _), (3, _), (4, _)]) (dk D_X13_reachFrom 61 rfl) (V_lg 4 rfl) rfl (by decide) rfl rfl ?_
    refine V_goto (tgt := 66) (dk D_X13_reachFrom 62 rfl) (by decide) ?_
    exact h
def L_X13_sweep : List (Nat × Instr × Nat) := [(0, .aload_n 0, 1), (1, .invokevirtual 619, 3), (4, .ifCond .eq 6, 3), (7, .bipush (-2), 2), (9, .ireturn, 1), (10, .iconst 1, 1), (11, .istore_n 1, 1), (12, .iload_n 1, 1), (13, .aload_n 0, 1), (14, .getfield 461, 3), (17, .if_icmp .gt 29, 3), (20, .aload_n 0, 1), (21, .getfield 280, 3), (24, .iload_n 1, 1), (25, .aload_n 0, 1), (26, .getfield 179, 3), (29, .iload_n 1, 1), (30, .iaload, 1), (31, .ifCond .ne 7, 3), (34, .iconst 1, 1), (35, .goto 4, 3), (38, .iconst 0, 1), (39, .bastore, 1), (40, .iinc 1 1, 3), (43, .goto (-31), 3), (46, .iconst 0, 1), (47, .istore_n 1, 1), (48, .iload_n 1, 1), (49, .aload_n 0, 1), (50, .getfield 461, 3), (53, .if_icmp .ge 47, 3), (56, .iconst 1, 1), (57, .istore_n 2, 1), (58, .iload_n 2, 1), (59, .aload_n 0, 1), (60, .getfield 461, 3), (63, .if_icmp .gt 31, 3), (66, .aload_n 0, 1), (67, .getfield 280, 3), (70, .iload_n 2, 1), (71, .baload, 1), (72, .ifCond .eq 16, 3), (75, .aload_n 0, 1), (76, .iload_n 2, 1), (77, .invokevirtual 510, 3), (80, .ifCond .ne 8, 3), (83, .aload_n 0, 1), (84, .iload_n 2, 1), (85, .invokevirtual 632, 3), (88, .iinc 2 1, 3), (91, .goto (-33), 3), (94, .iinc 1 1, 3), (97, .goto (-49), 3), (100, .aload_n 0, 1), (101, .getfield 461, 3), (104, .istore_n 1, 1), (105, .iconst 0, 1), (106, .istore_n 2, 1), (107, .iconst 1, 1), (108, .istore_n 3, 1), (109, .iload_n 3, 1), (110, .iload_n 1, 1), (111, .if_icmp .gt 37, 3), (114, .aload_n 0, 1), (115, .getfield 280, 3), (118, .iload_n 3, 1), (119, .aload_n 0, 1), (120, .getfield 280, 3), (123, .iload_n 3, 1), (124, .baload, 1), (125, .ifCond .ne 11, 3), (128, .aload_n 0, 1), (129, .iload_n 3, 1), (130, .invokevirtual 510, 3), (133, .ifCond .eq 7, 3), (136, .iconst 1, 1), (137, .goto 4, 3), (140, .iconst 0, 1), (141, .bastore, 1), (142, .iinc 3 1, 3), (145, .goto (-36), 3), (148, .iconst 1, 1), (149, .istore_n 3, 1), (150, .iload_n 3, 1), (151, .iload_n 1, 1), (152, .if_icmp .gt 44, 3), (155, .aload_n 0, 1), (156, .getfield 470, 3), (159, .ifCond .ne 37, 3), (162, .aload_n 0, 1), (163, .getfield 280, 3), (166, .iload_n 3, 1), (167, .baload, 1), (168, .ifCond .ne 22, 3), (171, .aload_n 0, 1), (172, .iload_n 3, 1), (173, .invokevirtual 510, 3), (176, .ifCond .ne 14, 3), (179, .aload_n 0, 1), (180, .iload_n 3, 1), (181, .iconst 0, 1), (182, .invokevirtual 626, 3), (185, .istore 4, 2), (187, .iinc 2 1, 3), (190, .iinc 3 1, 3), (193, .goto (-43), 3), (196, .iload_n 2, 1), (197, .ireturn, 1)]
theorem D_X13_sweep : dOk cX13_sweep L_X13_sweep = true := by decide +kernel
theorem w_X13_sweep_0 {X : Cx} {d : Nat} {S : Mem} {Q : Res → Mem → Prop} (r0 : Nat) (h : (isK S r0 13) ∧ ∃ e1 : Nat, e1 + 1 ≤ d ∧ C X e1 MX13_isSilent [vR r0] S (RI fun y4 S5 => ((y4 = 0 → V X d MX13_sweep 12 [(0, vR r0), (1, vI 1)] [] S5 Q) ∧ (¬ y4 = 0 → Q (.inl (some (vI (-2)))) S5)))) : V X d MX13_sweep 0 [(0, vR r0)] [] S Q := by
  refine V_aload_n (pc2 := 1) (dk D_X13_sweep 0 rfl) rfl (V_lg 0 rfl) rfl ?_
  obtain ⟨h6, h⟩ := h
  obtain ⟨e1, he2, hc3⟩ := h
  refine V_callV (as := []) (st := []) (M' := MX13_isSilent) (ci := 13) (pc2 := 4) (dk D_X13_sweep 1 rfl) ml_13_619 mv_X13_isSilent rfl rfl (by decide) rfl (Nat.le_of_ble_eq_true rfl) rfl he2 h6 hc3 (RI.k fun y4 S5 h => ?_)
  refine V_ifeq (tgt := 10) (pc2 := 7) (dk D_X13_sweep 2 rfl) (by decide) rfl (fun q7 => ?_) (fun q7 => ?_)
  · have h := h.1 q7
    refine V_iconst (x := 1) (pc2 := 11) (dk D_X13_sweep 5 rfl) (by decide) rfl ?_
    refine V_istore_n (pc2 := 12) (lv2 := [(0, _), (1, _)]) (dk D_X13_sweep 6 rfl) rfl (by decide) rfl rfl ?_
    exact h
  · have h := h.2 q7
    refine V_bipush (x := (-2)) (pc2 := 9) (dk D_X13_sweep 3 rfl) (by decide) rfl ?_
    exact V_ireturn (dk D_X13_sweep 4 rfl) rfl h
theorem w_X13_sweep_12 {X : Cx} {d : Nat} {S : Mem} {Q : Res → Mem → Prop} (r0 : Nat) (x1 : Int32) (h : (isK S r0 13) ∧ (((gI S r0 47) < x1 → V X d MX13_sweep 48 [(0, vR r0), (1, vI 0)] [] S Q) ∧ (¬ (gI S r0 47) < x1 → (isK S (gR S r0 55) 21) ∧ (vp_in x1 (gN S (gR S r0 55))) ∧ ((¬ (gI S (gR S r0 55) (x1 : Int32).toNatClampNeg) = 0 → V X d MX13_sweep 39 [(0, vR r0), (1, vI x1)] [vI 0, vI x1, vR (gR S r0 98)] S Q) ∧ ((gI S (gR S r0 55) (x1 : Int32).toNatClampNeg) = 0 → V X d MX13_sweep 39 [(0, vR r0), (1, vI x1)] [vI 1, vI x1, vR (gR S r0 98)] S Q))))) : V X d MX13_sweep 12 [(0, vR r0), (1, vI x1)] [] S Q := by
  refine V_iload_n (pc2 := 13) (dk D_X13_sweep 7 rfl) rfl (V_lg 1 rfl) rfl ?_
  refine V_aload_n (pc2 := 14) (dk D_X13_sweep 8 rfl) rfl (V_lg 0 rfl) rfl ?_
  obtain ⟨h1, h⟩ := h
  refine V_getI kc13 (pc2 := 17) 47 (dk D_X13_sweep 9 rfl) fl_13_461 (by decide) (fun _ => rfl) rfl h1 ?_
  refine V_cmpgt (tgt := 46) (pc2 := 20) (dk D_X13_sweep 10 rfl) (by decide) rfl (fun q2 => ?_) (fun q2 => ?_)
  · have h := h.1 q2
    refine V_iconst (x := 0) (pc2 := 47) (dk D_X13_sweep 25 rfl) (by decide) rfl ?_
    refine V_istore_n (pc2 := 48) (lv2 := [(0, _), (1, _)]) (dk D_X13_sweep 26 rfl) rfl (by decide) rfl rfl ?_
    exact h
  · have h := h.2 q2
    refine V_aload_n (pc2 := 21) (dk D_X13_sweep 11 rfl) rfl (V_lg 0 rfl) rfl ?_
    refine V_getR kc13 (pc2 := 24) 98 (dk D_X13_sweep 12 rfl) fl_13_280 (by decide) (fun _ => rfl) rfl h1 ?_
    refine V_iload_n (pc2 := 25) (dk D_X13_sweep 13 rfl) rfl (V_lg 1 rfl) rfl ?_
    refine V_aload_n (pc2 := 26) (dk D_X13_sweep 14 rfl) rfl (V_lg 0 rfl) rfl ?_
    refine V_getR kc13 (pc2 := 29) 55 (dk D_X13_sweep 15 rfl) fl_13_179 (by decide) (fun _ => rfl) rfl h1 ?_
    refine V_iload_n (pc2 := 30) (dk D_X13_sweep 16 rfl) rfl (V_lg 1 rfl) rfl ?_
    obtain ⟨h3, h⟩ := h
    obtain ⟨h4, h⟩ := h
    refine V_iald (pc2 := 31) (dk D_X13_sweep 17 rfl) rfl h3 h4 ?_
    refine V_ifne (tgt := 38) (pc2 := 34) (dk D_X13_sweep 18 rfl) (by decide) rfl (fun q5 => ?_) (fun q5 => ?_)
    · have h := h.1 q5
      refine V_iconst (x := 0) (pc2 := 39) (dk D_X13_sweep 21 rfl) (by decide) rfl ?_
      exact h
    · have h := h.2 q5
      refine V_iconst (x := 1) (pc2 := 35) (dk D_X13_sweep 19 rfl) (by decide) rfl ?_
      refine V_goto (tgt := 39) (dk D_X13_sweep 20 rfl) (by decide) ?_
      exact h
theorem w_X13_sweep_39 {X : Cx} {d : Nat} {S : Mem} {Q : Res → Mem → Prop} (r0 : Nat) (x1 : Int32) (t0 : Nat) (t1 : Int32) (t2 : Int32) (h : (isK S t0 23) ∧ (vp_in t1 (gN S t0)) ∧ (t2 = 0 ∨ t2 = 1) ∧ ∀ S4 : Mem, S4 = uI S t0 ((t1 : Int32).toNatClampNeg) t2 → V X d MX13_sweep 12 [(0, vR r0), (1, vI (x1 + 1))] [] S4 Q) : V X d MX13_sweep 39 [(0, vR r0), (1, vI x1)] [vI t2, vI t1, vR t0] S Q := by
  obtain ⟨h1, h⟩ := h
  obtain ⟨h2, h⟩ := h
  obtain ⟨h3, h⟩ := h
  refine V_zast (pc2 := 40) (dk D_X13_sweep 22 rfl) rfl h1 h2 h3 ?_
  have h := h _ rfl
  refine V_iinc (y := _ + 1) (pc2 := 43) (lv2 := [(0, _), (1, _)]) (dk D_X13_sweep 23 rfl) (V_lg 1 rfl) rfl (by decide) rfl rfl ?_
  refine V_goto (tgt := 12) (dk D_X13_sweep 24 rfl) (by decide) ?_
  exact h
theorem w_X13_sweep_48 {X : Cx} {d : Nat} {S : Mem} {Q : Res → Mem → Prop} (r0 : Nat) (x1 : Int32) (h : (isK S r0 13) ∧ (((gI S r0 47) ≤ x1 → V X d MX13_sweep 109 [(0, vR r0), (1, vI (gI S r0 47)), (2, vI 0), (3, vI 1)] [] S Q) ∧ (¬ (gI S r0 47) ≤ x1 → V X d MX13_sweep 58 [(0, vR r0), (1, vI x1), (2, vI 1)] [] S Q))) : V X d MX13_sweep 48 [(0, vR r0), (1, vI x1)] [] S Q := by
  refine V_iload_n (pc2 := 49) (dk D_X13_sweep 27 rfl) rfl (V_lg 1 rfl) rfl ?_
  refine V_aload_n (pc2 := 50) (dk D_X13_sweep 28 rfl) rfl (V_lg 0 rfl) rfl ?_
  obtain ⟨h1, h⟩ := h
  refine V_getI kc13 (pc2 := 53) 47 (dk D_X13_sweep 29 rfl) fl_13_461 (by decide) (fun _ => rfl) rfl h1 ?_
  refine V_cmpge (tgt := 100) (pc2 := 56) (dk D_X13_sweep 30 rfl) (by decide) rfl (fun q2 => ?_) (fun q2 => ?_)
  · have h := h.1 q2
    refine V_aload_n (pc2 := 101) (dk D_X13_sweep 53 rfl) rfl (V_lg 0 rfl) rfl ?_
    refine V_getI kc13 (pc2 := 104) 47 (dk D_X13_sweep 54 rfl) fl_13_461 (by decide) (fun _ => rfl) rfl h1 ?_
    refine V_istore_n (pc2 := 105) (lv2 := [(0, _), (1, _)]) (dk D_X13_sweep 55 rfl) rfl (by decide) rfl rfl ?_
    refine V_iconst (x := 0) (pc2 := 106) (dk D_X13_sweep 56 rfl) (by decide) rfl ?_
    refine V_istore_n (pc2 := 107) (lv2 := [(0, _), (1, _), (2, _)]) (dk D_X13_sweep 57 rfl) rfl (by decide) rfl rfl ?_
    refine V_iconst (x := 1) (pc2 := 108) (dk D_X13_sweep 58 rfl) (by decide) rfl ?_
    refine V_istore_n (pc2 := 109) (lv2 := [(0, _), (1, _), (2, _), (3, _)]) (dk D_X13_sweep 59 rfl) rfl (by decide) rfl rfl ?_
    exact h
  · have h := h.2 q2
    refine V_iconst (x := 1) (pc2 := 57) (dk D_X13_sweep 31 rfl) (by decide) rfl ?_
    refine V_istore_n (pc2 := 58) (lv2 := [(0, _), (1, _), (2, _)]) (dk D_X13_sweep 32 rfl) rfl (by decide) rfl rfl ?_
    exact h
theorem w_X13_sweep_58 {X : Cx} {d : Nat} {S : Mem} {Q : Res → Mem → Prop} (r0 : Nat) (x1 : Int32) (x2 : Int32) (h : (isK S r0 13) ∧ (((gI S r0 47) < x2 → V X d MX13_sweep 48 [(0, vR r0), (1, vI (x1 + 1))] [] S Q) ∧ (¬ (gI S r0 47) < x2 → (isK S (gR S r0 98) 23) ∧ (vp_in x2 (gN S (gR S r0 98))) ∧ (((gI S (gR S r0 98) (x2 : Int32).toNatClampNeg) = 0 → V X d MX13_sweep 88 [(0, vR r0), (1, vI x1), (2, vI x2)] [] S Q) ∧ (¬ (gI S (gR S r0 98) (x2 : Int32).toNatClampNeg) = 0 → ∃ e6 : Nat, e6 + 1 ≤ d ∧ C X e6 MX13_isOver [vR r0, vI x2] S (RI fun y9 S10 => ((¬ y9 = 0 → V X d MX13_sweep 88 [(0, vR r0), (1, vI x1), (2, vI x2)] [] S10 Q) ∧ (y9 = 0 → (isK S10 r0 13) ∧ ∃ e12 : Nat, e12 + 1 ≤ d ∧ C X e12 MX13_reachFrom [vR r0, vI x2] S10 (RV fun  S15 => V X d MX13_sweep 88 [(0, vR r0), (1, vI x1), (2, vI x2)] [] S15 Q))))))))) : V X d MX13_sweep 58 [(0, vR r0), (1, vI x1), (2, vI x2)] [] S Q := by
  refine V_iload_n (pc2 := 59) (dk D_X13_sweep 33 rfl) rfl (V_lg 2 rfl) rfl ?_
  refine V_aload_n (pc2 := 60) (dk D_X13_sweep 34 rfl) rfl (V_lg 0 rfl) rfl ?_
  obtain ⟨h1, h⟩ := h
  refine V_getI kc13 (pc2 := 63) 47 (dk D_X13_sweep 35 rfl) fl_13_461 (by decide) (fun _ => rfl) rfl h1 ?_
  refine V_cmpgt (tgt := 94) (pc2 := 66) (dk D_X13_sweep 36 rfl) (by decide) rfl (fun q2 => ?_) (fun q2 => ?_)
  · have h := h.1 q2
    refine V_iinc (y := _ + 1) (pc2 := 97) (lv2 := [(0, _), (1, _), (2, _)]) (dk D_X13_sweep 51 rfl) (V_lg 1 rfl) rfl (by decide) rfl rfl ?_
    refine V_goto (tgt := 48) (dk D_X13_sweep 52 rfl) (by decide) ?_
    refine V_pick [0, 1] (lv2 := [(0, _), (1, _)]) rfl ?_
    exact h
  · have h := h.2 q2
    refine V_aload_n (pc2 := 67) (dk D_X13_sweep 37 rfl) rfl (V_lg 0 rfl) rfl ?_
    refine V_getR kc13 (pc2 := 70) 98 (dk D_X13_sweep 38 rfl) fl_13_280 (by decide) (fun _ => rfl) rfl h1 ?_
    refine V_iload_n (pc2 := 71) (dk D_X13_sweep 39 rfl) rfl (V_lg 2 rfl) rfl ?_
    obtain ⟨h3, h⟩ := h
    obtain ⟨h4, h⟩ := h
    refine V_zald (pc2 := 72) (dk D_X13_sweep 40 rfl) rfl h3 h4 ?_
    refine V_ifeq (tgt := 88) (pc2 := 75) (dk D_X13_sweep 41 rfl) (by decide) rfl (fun q5 => ?_) (fun q5 => ?_)
    · have h := h.1 q5
      exact h
    · have h := h.2 q5
      refine V_aload_n (pc2 := 76) (dk D_X13_sweep 42 rfl) rfl (V_lg 0 rfl) rfl ?_
      refine V_iload_n (pc2 := 77) (dk D_X13_sweep 43 rfl) rfl (V_lg 2 rfl) rfl ?_
      obtain ⟨e6, he7, hc8⟩ := h
      refine V_callV (as := [_]) (st := []) (M' := MX13_isOver) (ci := 13) (pc2 := 80) (dk D_X13_sweep 44 rfl) ml_13_510 mv_X13_isOver rfl rfl (by decide) rfl (Nat.le_of_ble_eq_true rfl) rfl he7 h1 hc8 (RI.k fun y9 S10 h => ?_)
      refine V_ifne (tgt := 88) (pc2 := 83) (dk D_X13_sweep 45 rfl) (by decide) rfl (fun q11 => ?_) (fun q11 => ?_)
      · have h := h.1 q11
        exact h
      · have h := h.2 q11
        refine V_aload_n (pc2 := 84) (dk D_X13_sweep 46 rfl) rfl (V_lg 0 rfl) rfl ?_
        refine V_iload_n (pc2 := 85) (dk D_X13_sweep 47 rfl) rfl (V_lg 2 rfl) rfl ?_
        obtain ⟨h16, h⟩ := h
        obtain ⟨e12, he13, hc14⟩ := h
        refine V_callV (as := [_]) (st := []) (M' := MX13_reachFrom) (ci := 13) (pc2 := 88) (dk D_X13_sweep 48 rfl) ml_13_632 mv_X13_reachFrom rfl rfl (by decide) rfl (Nat.le_of_ble_eq_true rfl) rfl he13 h16 hc14 (RV.k fun  S15 h => ?_)
        exact h
theorem w_X13_sweep_88 {X : Cx} {d : Nat} {S : Mem} {Q : Res → Mem → Prop} (r0 : Nat) (x1 : Int32) (x2 : Int32) (h : V X d MX13_sweep 58 [(0, vR r0), (1, vI x1), (2, vI (x2 + 1))] [] S Q) : V X d MX13_sweep 88 [(0, vR r0), (1, vI x1), (2, vI x2)] [] S Q := by
  refine V_iinc (y := _ + 1) (pc2 := 91) (lv2 := [(0, _), (1, _), (2, _)]) (dk D_X13_sweep 49 rfl) (V_lg 2 rfl) rfl (by decide) rfl rfl ?_
  refine V_goto (tgt := 58) (dk D_X13_sweep 50 rfl) (by decide) ?_
  exact h
theorem w_X13_sweep_109 {X : Cx} {d : Nat} {S : Mem} {Q : Res → Mem → Prop} (r0 : Nat) (x1 : Int32) (x2 : Int32) (x3 : Int32) (h : ((x1 < x3 → V X d MX13_sweep 150 [(0, vR r0), (1, vI x1), (2, vI x2), (3, vI 1)] [] S Q) ∧ (¬ x1 < x3 → (isK S r0 13) ∧ (isK S (gR S r0 98) 23) ∧ (vp_in x3 (gN S (gR S r0 98))) ∧ ((¬ (gI S (gR S r0 98) (x3 : Int32).toNatClampNeg) = 0 → V X d MX13_sweep 136 [(0, vR r0), (1, vI x1), (2, vI x2), (3, vI x3)] [vI x3, vR (gR S r0 98)] S Q) ∧ ((gI S (gR S r0 98) (x3 : Int32).toNatClampNeg) = 0 → ∃ e6 : Nat, e6 + 1 ≤ d ∧ C X e6 MX13_isOver [vR r0, vI x3] S (RI fun y9 S10 => ((y9 = 0 → V X d MX13_sweep 141 [(0, vR r0), (1, vI x1), (2, vI x2), (3, vI x3)] [vI 0, vI x3, vR (gR S r0 98)] S10 Q) ∧ (¬ y9 = 0 → V X d MX13_sweep 136 [(0, vR r0), (1, vI x1), (2, vI x2), (3, vI x3)] [vI x3, vR (gR S r0 98)] S10 Q)))))))) : V X d MX13_sweep 109 [(0, vR r0), (1, vI x1), (2, vI x2), (3, vI x3)] [] S Q := by
  refine V_iload_n (pc2 := 110) (dk D_X13_sweep 60 rfl) rfl (V_lg 3 rfl) rfl ?_
  refine V_iload_n (pc2 := 111) (dk D_X13_sweep 61 rfl) rfl (V_lg 1 rfl) rfl ?_
  refine V_cmpgt (tgt := 148) (pc2 := 114) (dk D_X13_sweep 62 rfl) (by decide) rfl (fun q1 => ?_) (fun q1 => ?_)
  · have h := h.1 q1
    refine V_iconst (x := 1) (pc2 := 149) (dk D_X13_sweep 81 rfl) (by decide) rfl ?_
    refine V_istore_n (pc2 := 150) (lv2 := [(0, _), (1, _), (2, _), (3, _)]) (dk D_X13_sweep 82 rfl) rfl (by decide) rfl rfl ?_
    exact h
  · have h := h.2 q1
    refine V_aload_n (pc2 := 115) (dk D_X13_sweep 63 rfl) rfl (V_lg 0 rfl) rfl ?_
    obtain ⟨h2, h⟩ := h
    refine V_getR kc13 (pc2 := 118) 98 (dk D_X13_sweep 64 rfl) fl_13_280 (by decide) (fun _ => rfl) rfl h2 ?_
    refine V_iload_n (pc2 := 119) (dk D_X13_sweep 65 rfl) rfl (V_lg 3 rfl) rfl ?_
    refine V_aload_n (pc2 := 120) (dk D_X13_sweep 66 rfl) rfl (V_lg 0 rfl) rfl ?_
    refine V_getR kc13 (pc2 := 123) 98 (dk D_X13_sweep 67 rfl) fl_13_280 (by decide) (fun _ => rfl) rfl h2 ?_
    refine V_iload_n (pc2 := 124) (dk D_X13_sweep 68 rfl) rfl (V_lg 3 rfl) rfl ?_
    obtain ⟨h3, h⟩ := h
    obtain ⟨h4, h⟩ := h
    refine V_zald (pc2 := 125) (dk D_X13_sweep 69 rfl) rfl h3 h4 ?_
    refine V_ifne (tgt := 136) (pc2 := 128) (dk D_X13_sweep 70 rfl) (by decide) rfl (fun q5 => ?_) (fun q5 => ?_)
    · have h := h.1 q5
      exact h
    · have h := h.2 q5
      refine V_aload_n (pc2 := 129) (dk D_X13_sweep 71 rfl) rfl (V_lg 0 rfl) rfl ?_
      refine V_iload_n (pc2 := 130) (dk D_X13_sweep 72 rfl) rfl (V_lg 3 rfl) rfl ?_
      obtain ⟨e6, he7, hc8⟩ := h
      refine V_callV (as := [_]) (st := [_, _]) (M' := MX13_isOver) (ci := 13) (pc2 := 133) (dk D_X13_sweep 73 rfl) ml_13_510 mv_X13_isOver rfl rfl (by decide) rfl (Nat.le_of_ble_eq_true rfl) rfl he7 h2 hc8 (RI.k fun y9 S10 h => ?_)
      refine V_ifeq (tgt := 140) (pc2 := 136) (dk D_X13_sweep 74 rfl) (by decide) rfl (fun q11 => ?_) (fun q11 => ?_)
      · have h := h.1 q11
        refine V_iconst (x := 0) (pc2 := 141) (dk D_X13_sweep 77 rfl) (by decide) rfl ?_
        exact h
      · have h := h.2 q11
        exact h
theorem w_X13_sweep_136 {X : Cx} {d : Nat} {S : Mem} {Q : Res → Mem → Prop} (r0 : Nat) (x1 : Int32) (x2 : Int32) (x3 : Int32) (t0 : Nat) (t1 : Int32) (h : V X d MX13_sweep 141 [(0, vR r0), (1, vI x1), (2, vI x2), (3, vI x3)] [vI 1, vI t1, vR t0] S Q) : V X d MX13_sweep 136 [(0, vR r0), (1, vI x1), (2, vI x2), (3, vI x3)] [vI t1, vR t0] S Q := by
  refine V_iconst (x := 1) (pc2 := 137) (dk D_X13_sweep 75 rfl) (by decide) rfl ?_
  refine V_goto (tgt := 141) (dk D_X13_sweep 76 rfl) (by decide) ?_
  exact h
theorem w_X13_sweep_141 {X : Cx} {d : Nat} {S : Mem} {Q : Res → Mem → Prop} (r0 : Nat) (x1 : Int32) (x2 : Int32) (x3 : Int32) (t0 : Nat) (t1 : Int32) (t2 : Int32) (h : (isK S t0 23) ∧ (vp_in t1 (gN S t0)) ∧ (t2 = 0 ∨ t2 = 1) ∧ ∀ S4 : Mem, S4 = uI S t0 ((t1 : Int32).toNatClampNeg) t2 → V X d MX13_sweep 109 [(0, vR r0), (1, vI x1), (2, vI x2), (3, vI (x3 + 1))] [] S4 Q) : V X d MX13_sweep 141 [(0, vR r0), (1, vI x1), (2, vI x2), (3, vI x3)] [vI t2, vI t1, vR t0] S Q := by
  obtain ⟨h1, h⟩ := h
  obtain ⟨h2, h⟩ := h
  obtain ⟨h3, h⟩ := h
  refine V_zast (pc2 := 142) (dk D_X13_sweep 78 rfl) rfl h1 h2 h3 ?_
  have h := h _ rfl
  refine V_iinc (y := _ + 1) (pc2 := 145) (lv2 := [(0, _), (1, _), (2, _), (3, _)]) (dk D_X13_sweep 79 rfl) (V_lg 3 rfl) rfl (by decide) rfl rfl ?_
  refine V_goto (tgt := 109) (dk D_X13_sweep 80 rfl) (by decide) ?_
  exact h
theorem w_X13_sweep_150 {X : Cx} {d : Nat} {S : Mem} {Q : Res → Mem → Prop} (r0 : Nat) (x1 : Int32) (x2 : Int32) (x3 : Int32) (h : ((x1 < x3 → V X d MX13_sweep 196 [(0, vR r0), (1, vI x1), (2, vI x2), (3, vI x3)] [] S Q) ∧ (¬ x1 < x3 → (isK S r0 13) ∧ ((¬ (gI S r0 76) = 0 → V X d MX13_sweep 196 [(0, vR r0), (1, vI x1), (2, vI x2), (3, vI x3)] [] S Q) ∧ ((gI S r0 76) = 0 → (isK S (gR S r0 98) 23) ∧ (vp_in x3 (gN S (gR S r0 98))) ∧ ((¬ (gI S (gR S r0 98) (x3 : Int32).toNatClampNeg) = 0 → V X d MX13_sweep 190 [(0, vR r0), (1, vI x1), (2, vI x2), (3, vI x3)] [] S Q) ∧ ((gI S (gR S r0 98) (x3 : Int32).toNatClampNeg) = 0 → ∃ e7 : Nat, e7 + 1 ≤ d ∧ C X e7 MX13_isOver [vR r0, vI x3] S (RI fun y10 S11 => ((¬ y10 = 0 → V X d MX13_sweep 190 [(0, vR r0), (1, vI x1), (2, vI x2), (3, vI x3)] [] S11 Q) ∧ (y10 = 0 → (isK S11 r0 13) ∧ ∃ e13 : Nat, e13 + 1 ≤ d ∧ C X e13 MX13_closes_ [vR r0, vI x3, vI 0] S11 (RI fun y16 S17 => V X d MX13_sweep 190 [(0, vR r0), (1, vI x1), (2, vI (x2 + 1)), (3, vI x3)] [] S17 Q))))))))))) : V X d MX13_sweep 150 [(0, vR r0), (1, vI x1), (2, vI x2), (3, vI x3)] [] S Q := by
  refine V_iload_n (pc2 := 151) (dk D_X13_sweep 83 rfl) rfl (V_lg 3 rfl) rfl ?_
  refine V_iload_n (pc2 := 152) (dk D_X13_sweep 84 rfl) rfl (V_lg 1 rfl) rfl ?_
  refine V_cmpgt (tgt := 196) (pc2 := 155) (dk D_X13_sweep 85 rfl) (by decide) rfl (fun q1 => ?_) (fun q1 => ?_)
  · have h := h.1 q1
    exact h
  · have h := h.2 q1
    refine V_aload_n (pc2 := 156) (dk D_X13_sweep 86 rfl) rfl (V_lg 0 rfl) rfl ?_
    obtain ⟨h2, h⟩ := h
    refine V_getI kc13 (pc2 := 159) 76 (dk D_X13_sweep 87 rfl) fl_13_470 (by decide) (fun _ => rfl) rfl h2 ?_
    refine V_ifne (tgt := 196) (pc2 := 162) (dk D_X13_sweep 88 rfl) (by decide) rfl (fun q3 => ?_) (fun q3 => ?_)
    · have h := h.1 q3
      exact h
    · have h := h.2 q3
      refine V_aload_n (pc2 := 163) (dk D_X13_sweep 89 rfl) rfl (V_lg 0 rfl) rfl ?_
      refine V_getR kc13 (pc2 := 166) 98 (dk D_X13_sweep 90 rfl) fl_13_280 (by decide) (fun _ => rfl) rfl h2 ?_
      refine V_iload_n (pc2 := 167) (dk D_X13_sweep 91 rfl) rfl (V_lg 3 rfl) rfl ?_
      obtain ⟨h4, h⟩ := h
      obtain ⟨h5, h⟩ := h
      refine V_zald (pc2 := 168) (dk D_X13_sweep 92 rfl) rfl h4 h5 ?_
      refine V_ifne (tgt := 190) (pc2 := 171) (dk D_X13_sweep 93 rfl) (by decide) rfl (fun q6 => ?_) (fun q6 => ?_)
      · have h := h.1 q6
        exact h
      · have h := h.2 q6
        refine V_aload_n (pc2 := 172) (dk D_X13_sweep 94 rfl) rfl (V_lg 0 rfl) rfl ?_
        refine V_iload_n (pc2 := 173) (dk D_X13_sweep 95 rfl) rfl (V_lg 3 rfl) rfl ?_
        obtain ⟨e7, he8, hc9⟩ := h
        refine V_callV (as := [_]) (st := []) (M' := MX13_isOver) (ci := 13) (pc2 := 176) (dk D_X13_sweep 96 rfl) ml_13_510 mv_X13_isOver rfl rfl (by decide) rfl (Nat.le_of_ble_eq_true rfl) rfl he8 h2 hc9 (RI.k fun y10 S11 h => ?_)
        refine V_ifne (tgt := 190) (pc2 := 179) (dk D_X13_sweep 97 rfl) (by decide) rfl (fun q12 => ?_) (fun q12 => ?_)
        · have h := h.1 q12
          exact h
        · have h := h.2 q12
          refine V_aload_n (pc2 := 180) (dk D_X13_sweep 98 rfl) rfl (V_lg 0 rfl) rfl ?_
          refine V_iload_n (pc2 := 181) (dk D_X13_sweep 99 rfl) rfl (V_lg 3 rfl) rfl ?_
          refine V_iconst (x := 0) (pc2 := 182) (dk D_X13_sweep 100 rfl) (by decide) rfl ?_
          obtain ⟨h18, h⟩ := h
          obtain ⟨e13, he14, hc15⟩ := h
          refine V_callV (as := [_, _]) (st := []) (M' := MX13_closes_) (ci := 13) (pc2 := 185) (dk D_X13_sweep 101 rfl) ml_13_626 mv_X13_closes_ rfl rfl (by decide) rfl (Nat.le_of_ble_eq_true rfl) rfl he14 h18 hc15 (RI.k fun y16 S17 h => ?_)
          refine V_istore (pc2 := 187) (lv2 := [(0, _), (1, _), (2, _), (3, _), (4, _)]) (dk D_X13_sweep 102 rfl) (by decide) rfl rfl ?_
          refine V_iinc (y := _ + 1) (pc2 := 190) (lv2 := [(0, _), (1, _), (2, _), (3, _), (4, _)]) (dk D_X13_sweep 103 rfl) (V_lg 2 rfl) rfl (by decide) rfl rfl ?_
          refine V_pick [0, 1, 2, 3] (lv2 := [(0, _), (1, _), (2, _), (3, _)]) rfl ?_
          exact h
theorem w_X13_sweep_190 {X : Cx} {d : Nat} {S : Mem} {Q : Res → Mem → Prop} (r0 : Nat) (x1 : Int32) (x2 : Int32) (x3 : Int32) (h : V X d MX13_sweep 150 [(0, vR r0), (1, vI x1), (2, vI x2), (3, vI (x3 + 1))] [] S Q) : V X d MX13_sweep 190 [(0, vR r0), (1, vI x1), (2, vI x2), (3, vI x3)] [] S Q := by
  refine V_iinc (y := _ + 1) (pc2 := 193) (lv2 := [(0, _), (1, _), (2, _), (3, _)]) (dk D_X13_sweep 104 rfl) (V_lg 3 rfl) rfl (by decide) rfl rfl ?_
  refine V_goto (tgt := 150) (dk D_X13_sweep 105 rfl) (by decide) ?_
  exact h
theorem w_X13_sweep_196 {X : Cx} {d : Nat} {S : Mem} {Q : Res → Mem → Prop} (r0 : Nat) (x1 : Int32) (x2 : Int32) (x3 : Int32) (h : Q (.inl (some (vI x2))) S) : V X d MX13_sweep 196 [(0, vR r0), (1, vI x1), (2, vI x2), (3, vI x3)] [] S Q := by
  refine V_iload_n (pc2 := 197) (dk D_X13_sweep 106 rfl) rfl (V_lg 2 rfl) rfl ?_
  exact V_ireturn (dk D_X13_sweep 107 rfl) rfl h
def L_X13_answer : List (Nat × Instr × Nat) := [(0, .aload_n 0, 1), (1, .getfield 448, 3), (4, .ifCond .eq 10, 3), (7, .aload_n 0, 1), (8, .getfield 476, 3), (11, .goto 5, 3), (14, .bipush (-2), 2), (16, .ireturn, 1)]
theorem D_X13_answer : dOk cX13_answer L_X13_answer = true := by decide +kernel
theorem w_X13_answer_0 {X : Cx} {d : Nat} {S : Mem} {Q : Res → Mem → Prop} (r0 : Nat) (h : (isK S r0 13) ∧ (((gI S r0 46) = 0 → V X d MX13_answer 16 [(0, vR r0)] [vI (-2)] S Q) ∧ (¬ (gI S r0 46) = 0 → V X d MX13_answer 16 [(0, vR r0)] [vI (gI S r0 79)] S Q))) : V X d MX13_answer 0 [(0, vR r0)] [] S Q := by
  refine V_aload_n (pc2 := 1) (dk D_X13_answer 0 rfl) rfl (V_lg 0 rfl) rfl ?_
  obtain ⟨h1, h⟩ := h
  refine V_getI kc13 (pc2 := 4) 46 (dk D_X13_answer 1 rfl) fl_13_448 (by decide) (fun _ => rfl) rfl h1 ?_
  refine V_ifeq (tgt := 14) (pc2 := 7) (dk D_X13_answer 2 rfl) (by decide) rfl (fun q2 => ?_) (fun q2 => ?_)
  · have h := h.1 q2
    refine V_bipush (x := (-2)) (pc2 := 16) (dk D_X13_answer 6 rfl) (by decide) rfl ?_
    exact h
  · have h := h.2 q2
    refine V_aload_n (pc2 := 8) (dk D_X13_answer 3 rfl) rfl (V_lg 0 rfl) rfl ?_
    refine V_getI kc13 (pc2 := 11) 79 (dk D_X13_answer 4 rfl) fl_13_476 (by decide) (fun _ => rfl) rfl h1 ?_
    refine V_goto (tgt := 16) (dk D_X13_answer 5 rfl) (by decide) ?_
    exact h
theorem w_X13_answer_16 {X : Cx} {d : Nat} {S : Mem} {Q : Res → Mem → Prop} (r0 : Nat) (t0 : Int32) (h : Q (.inl (some (vI t0))) S) : V X d MX13_answer 16 [(0, vR r0)] [vI t0] S Q := by
  exact V_ireturn (dk D_X13_answer 7 rfl) rfl h
def L_X13_callMany : List (Nat × Instr × Nat) := [(0, .aload_n 0, 1), (1, .getfield 189, 3), (4, .iload_n 1, 1), (5, .iaload, 1), (6, .ifCond .ge 7, 3), (9, .iconst 0, 1), (10, .goto 14, 3), (13, .aload_n 0, 1), (14, .getfield 195, 3), (17, .aload_n 0, 1), (18, .getfield 189, 3), (21, .iload_n 1, 1), (22, .iaload, 1), (23, .iaload, 1), (24, .ireturn, 1)]
theorem D_X13_callMany : dOk cX13_callMany L_X13_callMany = true := by decide +kernel
theorem w_X13_callMany_0 {X : Cx} {d : Nat} {S : Mem} {Q : Res → Mem → Prop} (r0 : Nat) (x1 : Int32) (h : (isK S r0 13) ∧ (isK S (gR S r0 58) 21) ∧ (vp_in x1 (gN S (gR S r0 58))) ∧ ((0 ≤ (gI S (gR S r0 58) (x1 : Int32).toNatClampNeg) → (vp_in x1 (gN S (gR S r0 58))) ∧ (isK S (gR S r0 60) 21) ∧ (vp_in (gI S (gR S r0 58) (x1 : Int32).toNatClampNeg) (gN S (gR S r0 60))) ∧ V X d MX13_callMany 24 [(0, vR r0), (1, vI x1)] [vI (gI S (gR S r0 60) ((gI S (gR S r0 58) (x1 : Int32).toNatClampNeg) : Int32).toNatClampNeg)] S Q) ∧ (¬ 0 ≤ (gI S (gR S r0 58) (x1 : Int32).toNatClampNeg) → V X d MX13_callMany 24 [(0, vR r0), (1, vI x1)] [vI 0] S Q))) : V X d MX13_callMany 0 [(0, vR r0), (1, vI x1)] [] S Q := by
  refine V_aload_n (pc2 := 1) (dk D_X13_callMany 0 rfl) rfl (V_lg 0 rfl) rfl ?_
  obtain ⟨h1, h⟩ := h
  refine V_getR kc13 (pc2 := 4) 58 (dk D_X13_callMany 1 rfl) fl_13_189 (by decide) (fun _ => rfl) rfl h1 ?_
  refine V_iload_n (pc2 := 5) (dk D_X13_callMany 2 rfl) rfl (V_lg 1 rfl) rfl ?_
  obtain ⟨h2, h⟩ := h
  obtain ⟨h3, h⟩ := h
  refine V_iald (pc2 := 6) (dk D_X13_callMany 3 rfl) rfl h2 h3 ?_
  refine V_ifge (tgt := 13) (pc2 := 9) (dk D_X13_callMany 4 rfl) (by decide) rfl (fun q4 => ?_) (fun q4 => ?_)
  · have h := h.1 q4
    refine V_aload_n (pc2 := 14) (dk D_X13_callMany 7 rfl) rfl (V_lg 0 rfl) rfl ?_
    refine V_getR kc13 (pc2 := 17) 60 (dk D_X13_callMany 8 rfl) fl_13_195 (by decide) (fun _ => rfl) rfl h1 ?_
    refine V_aload_n (pc2 := 18) (dk D_X13_callMany 9 rfl) rfl (V_lg 0 rfl) rfl ?_
    refine V_getR kc13 (pc2 := 21) 58 (dk D_X13_callMany 10 rfl) fl_13_189 (by decide) (fun _ => rfl) rfl h1 ?_
    refine V_iload_n (pc2 := 22) (dk D_X13_callMany 11 rfl) rfl (V_lg 1 rfl) rfl ?_
    obtain ⟨h5, h⟩ := h
    refine V_iald (pc2 := 23) (dk D_X13_callMany 12 rfl) rfl h2 h5 ?_
    obtain ⟨h6, h⟩ := h
    obtain ⟨h7, h⟩ := h
    refine V_iald (pc2 := 24) (dk D_X13_callMany 13 rfl) rfl h6 h7 ?_
    exact h
  · have h := h.2 q4
    refine V_iconst (x := 0) (pc2 := 10) (dk D_X13_callMany 5 rfl) (by decide) rfl ?_
    refine V_goto (tgt := 24) (dk D_X13_callMany 6 rfl) (by decide) ?_
    exact h
theorem w_X13_callMany_24 {X : Cx} {d : Nat} {S : Mem} {Q : Res → Mem → Prop} (r0 : Nat) (x1 : Int32) (t0 : Int32) (h : Q (.inl (some (vI t0))) S) : V X d MX13_callMany 24 [(0, vR r0), (1, vI x1)] [vI t0] S Q := by
  exact V_ireturn (dk D_X13_callMany 14 rfl) rfl h
def L_X13_tellsOf : List (Nat × Instr × Nat) := [(0, .iload_n 2, 1), (1, .tableswitch 80 0 5 #[39, 46, 53, 60, 67, 73], 39), (40, .aload_n 0, 1), (41, .getfield 161, 3), (44, .iload_n 1, 1), (45, .iaload, 1), (46, .ireturn, 1), (47, .aload_n 0, 1), (48, .getfield 164, 3), (51, .iload_n 1, 1), (52, .iaload, 1), (53, .ireturn, 1), (54, .aload_n 0, 1), (55, .getfield 170, 3), (58, .iload_n 1, 1), (59, .iaload, 1), (60, .ireturn, 1), (61, .aload_n 0, 1), (62, .getfield 173, 3), (65, .iload_n 1, 1), (66, .iaload, 1), (67, .ireturn, 1), (68, .aload_n 0, 1), (69, .iload_n 1, 1), (70, .invokevirtual 635, 3), (73, .ireturn, 1), (74, .aload_n 0, 1), (75, .getfield 176, 3), (78, .iload_n 1, 1), (79, .iaload, 1), (80, .ireturn, 1), (81, .aload_n 0, 1), (82, .getfield 179, 3), (85, .iload_n 1, 1), (86, .iaload, 1), (87, .ireturn, 1)]
theorem D_X13_tellsOf : dOk cX13_tellsOf L_X13_tellsOf = true := by decide +kernel
theorem w_X13_tellsOf_0 {X : Cx} {d : Nat} {S : Mem} {Q : Res → Mem → Prop} (r0 : Nat) (x1 : Int32) (x2 : Int32) (h : ((x2 = 0 → (isK S r0 13) ∧ (isK S (gR S r0 49) 21) ∧ (vp_in x1 (gN S (gR S r0 49))) ∧ Q (.inl (some (vI (gI S (gR S r0 49) (x1 : Int32).toNatClampNeg)))) S) ∧ (x2 = 1 → (isK S r0 13) ∧ (isK S (gR S r0 50) 21) ∧ (vp_in x1 (gN S (gR S r0 50))) ∧ Q (.inl (some (vI (gI S (gR S r0 50) (x1 : Int32).toNatClampNeg)))) S) ∧ (x2 = 2 → (isK S r0 13) ∧ (isK S (gR S r0 52) 21) ∧ (vp_in x1 (gN S (gR S r0 52))) ∧ Q (.inl (some (vI (gI S (gR S r0 52) (x1 : Int32).toNatClampNeg)))) S) ∧ (x2 = 3 → (isK S r0 13) ∧ (isK S (gR S r0 53) 21) ∧ (vp_in x1 (gN S (gR S r0 53))) ∧ Q (.inl (some (vI (gI S (gR S r0 53) (x1 : Int32).toNatClampNeg)))) S) ∧ (x2 = 4 → (isK S r0 13) ∧ ∃ e21 : Nat, e21 + 1 ≤ d ∧ C X e21 MX13_callMany [vR r0, vI x1] S (RI fun y24 S25 => Q (.inl (some (vI y24))) S25)) ∧ (x2 = 5 → (isK S r0 13) ∧ (isK S (gR S r0 54) 21) ∧ (vp_in x1 (gN S (gR S r0 54))) ∧ Q (.inl (some (vI (gI S (gR S r0 54) (x1 : Int32).toNatClampNeg)))) S) ∧ (¬ (x2 = 0 ∨ x2 = 1 ∨ x2 = 2 ∨ x2 = 3 ∨ x2 = 4 ∨ x2 = 5) → (isK S r0 13) ∧ (isK S (gR S r0 55) 21) ∧ (vp_in x1 (gN S (gR S r0 55))) ∧ Q (.inl (some (vI (gI S (gR S r0 55) (x1 : Int32).toNatClampNeg)))) S))) : V X d MX13_tellsOf 0 [(0, vR r0), (1, vI x1), (2, vI x2)] [] S Q := by
  refine V_iload_n (pc2 := 1) (dk D_X13_tellsOf 0 rfl) rfl (V_lg 2 rfl) rfl ?_
  refine V_table (dk D_X13_tellsOf 1 rfl) [40, 47, 54, 61, 68, 74] 81 (by decide) rfl (by decide) (fun q1 => ?_) (fun j2 hj q1 => ?_)
  · have h := h.2.2.2.2.2.2 (by rintro (hk | hk | hk | hk | hk | hk) <;> (rw [hk] at q1; revert q1; decide))
    refine V_aload_n (pc2 := 82) (dk D_X13_tellsOf 31 rfl) rfl (V_lg 0 rfl) rfl ?_
    obtain ⟨h6, h⟩ := h
    refine V_getR kc13 (pc2 := 85) 55 (dk D_X13_tellsOf 32 rfl) fl_13_179 (by decide) (fun _ => rfl) rfl h6 ?_
    refine V_iload_n (pc2 := 86) (dk D_X13_tellsOf 33 rfl) rfl (V_lg 1 rfl) rfl ?_
    obtain ⟨h7, h⟩ := h
    obtain ⟨h8, h⟩ := h
    refine V_iald (pc2 := 87) (dk D_X13_tellsOf 34 rfl) rfl h7 h8 ?_
    exact V_ireturn (dk D_X13_tellsOf 35 rfl) rfl h
  · have hj2 : j2 = 0 ∨ j2 = 1 ∨ j2 = 2 ∨ j2 = 3 ∨ j2 = 4 ∨ j2 = 5 := by simp at hj; omega
    clear hj
    rcases hj2 with rfl | rfl | rfl | rfl | rfl | rfl
    · have hx : x2 = 0 := Int32.toInt_inj.mp (by rw [q1]; decide)
      have h := h.1 hx
      refine V_aload_n (pc2 := 41) (dk D_X13_tellsOf 2 rfl) rfl (V_lg 0 rfl) rfl ?_
      obtain ⟨h9, h⟩ := h
      refine V_getR kc13 (pc2 := 44) 49 (dk D_X13_tellsOf 3 rfl) fl_13_161 (by decide) (fun _ => rfl) rfl h9 ?_
      refine V_iload_n (pc2 := 45) (dk D_X13_tellsOf 4 rfl) rfl (V_lg 1 rfl) rfl ?_
      obtain ⟨h10, h⟩ := h
      obtain ⟨h11, h⟩ := h
      refine V_iald (pc2 := 46) (dk D_X13_tellsOf 5 rfl) rfl h10 h11 ?_
      exact V_ireturn (dk D_X13_tellsOf 6 rfl) rfl h
    · have hx : x2 = 1 := Int32.toInt_inj.mp (by rw [q1]; decide)
      have h := h.2.1 hx
      refine V_aload_n (pc2 := 48) (dk D_X13_tellsOf 7 rfl) rfl (V_lg 0 rfl) rfl ?_
      obtain ⟨h12, h⟩ := h
      refine V_getR kc13 (pc2 := 51) 50 (dk D_X13_tellsOf 8 rfl) fl_13_164 (by decide) (fun _ => rfl) rfl h12 ?_
      refine V_iload_n (pc2 := 52) (dk D_X13_tellsOf 9 rfl) rfl (V_lg 1 rfl) rfl ?_
      obtain ⟨h13, h⟩ := h
      obtain ⟨h14, h⟩ := h
      refine V_iald (pc2 := 53) (dk D_X13_tellsOf 10 rfl) rfl h13 h14 ?_
      exact V_ireturn (dk D_X13_tellsOf 11 rfl) rfl h
    · have hx : x2 = 2 := Int32.toInt_inj.mp (by rw [q1]; decide)
      have h := h.2.2.1 hx
      refine V_aload_n (pc2 := 55) (dk D_X13_tellsOf 12 rfl) rfl (V_lg 0 rfl) rfl ?_
      obtain ⟨h15, h⟩ := h
      refine V_getR kc13 (pc2 := 58) 52 (dk D_X13_tellsOf 13 rfl) fl_13_170 (by decide) (fun _ => rfl) rfl h15 ?_
      refine V_iload_n (pc2 := 59) (dk D_X13_tellsOf 14 rfl) rfl (V_lg 1 rfl) rfl ?_
      obtain ⟨h16, h⟩ := h
      obtain ⟨h17, h⟩ := h
      refine V_iald (pc2 := 60) (dk D_X13_tellsOf 15 rfl) rfl h16 h17 ?_
      exact V_ireturn (dk D_X13_tellsOf 16 rfl) rfl h
    · have hx : x2 = 3 := Int32.toInt_inj.mp (by rw [q1]; decide)
      have h := h.2.2.2.1 hx
      refine V_aload_n (pc2 := 62) (dk D_X13_tellsOf 17 rfl) rfl (V_lg 0 rfl) rfl ?_
      obtain ⟨h18, h⟩ := h
      refine V_getR kc13 (pc2 := 65) 53 (dk D_X13_tellsOf 18 rfl) fl_13_173 (by decide) (fun _ => rfl) rfl h18 ?_
      refine V_iload_n (pc2 := 66) (dk D_X13_tellsOf 19 rfl) rfl (V_lg 1 rfl) rfl ?_
      obtain ⟨h19, h⟩ := h
      obtain ⟨h20, h⟩ := h
      refine V_iald (pc2 := 67) (dk D_X13_tellsOf 20 rfl) rfl h19 h20 ?_
      exact V_ireturn (dk D_X13_tellsOf 21 rfl) rfl h
    · have hx : x2 = 4 := Int32.toInt_inj.mp (by rw [q1]; decide)
      have h := h.2.2.2.2.1 hx
      refine V_aload_n (pc2 := 69) (dk D_X13_tellsOf 22 rfl) rfl (V_lg 0 rfl) rfl ?_
      refine V_iload_n (pc2 := 70) (dk D_X13_tellsOf 23 rfl) rfl (V_lg 1 rfl) rfl ?_
      obtain ⟨h26, h⟩ := h
      obtain ⟨e21, he22, hc23⟩ := h
      refine V_callV (as := [_]) (st := []) (M' := MX13_callMany) (ci := 13) (pc2 := 73) (dk D_X13_tellsOf 24 rfl) ml_13_635 mv_X13_callMany rfl rfl (by decide) rfl (Nat.le_of_ble_eq_true rfl) rfl he22 h26 hc23 (RI.k fun y24 S25 h => ?_)
      exact V_ireturn (dk D_X13_tellsOf 25 rfl) rfl h
    · have hx : x2 = 5 := Int32.toInt_inj.mp (by rw [q1]; decide)
      have h := h.2.2.2.2.2.1 hx
      refine V_aload_n (pc2 := 75) (dk D_X13_tellsOf 26 rfl) rfl (V_lg 0 rfl) rfl ?_
      obtain ⟨h27, h⟩ := h
      refine V_getR kc13 (pc2 := 78) 54 (dk D_X13_tellsOf 27 rfl) fl_13_176 (by decide) (fun _ => rfl) rfl h27 ?_
      refine V_iload_n (pc2 := 79) (dk D_X13_tellsOf 28 rfl) rfl (V_lg 1 rfl) rfl ?_
      obtain ⟨h28, h⟩ := h
      obtain ⟨h29, h⟩ := h
      refine V_iald (pc2 := 80) (dk D_X13_tellsOf 29 rfl) rfl h28 h29 ?_
      exact V_ireturn (dk D_X13_tellsOf 30 rfl) rfl h
def L_X13_told : List (Nat × Instr × Nat) := [(0, .aload_n 0, 1), (1, .getfield 448, 3), (4, .ifCond .ne 6, 3), (7, .bipush (-2), 2), (9, .ireturn, 1), (10, .aload_n 0, 1), (11, .iload_n 1, 1), (12, .invokevirtual 554, 3), (15, .ifCond .eq 13, 3), (18, .iload_n 2, 1), (19, .iconst 0, 1), (20, .bipush 6, 2), (22, .invokestatic 292, 3), (25, .ifCond .ne 7, 3), (28, .iconst (-1), 1), (29, .goto 9, 3), (32, .aload_n 0, 1), (33, .iload_n 1, 1), (34, .iload_n 2, 1), (35, .invokevirtual 638, 3), (38, .ireturn, 1)]
theorem D_X13_told : dOk cX13_told L_X13_told = true := by decide +kernel
theorem w_X13_told_0 {X : Cx} {d : Nat} {S : Mem} {Q : Res → Mem → Prop} (r0 : Nat) (x1 : Int32) (x2 : Int32) (h : (isK S r0 13) ∧ ((¬ (gI S r0 46) = 0 → ∃ e3 : Nat, e3 + 1 ≤ d ∧ C X e3 MX13_isVoice [vR r0, vI x1] S (RI fun y6 S7 => ((y6 = 0 → V X d MX13_told 28 [(0, vR r0), (1, vI x1), (2, vI x2)] [] S7 Q) ∧ (¬ y6 = 0 → ∃ e9 : Nat, e9 + 1 ≤ d ∧ C X e9 MX13_in [vI x2, vI 0, vI 6] S7 (RI fun y12 S13 => ((¬ y12 = 0 → (isK S13 r0 13) ∧ ∃ e15 : Nat, e15 + 1 ≤ d ∧ C X e15 MX13_tellsOf [vR r0, vI x1, vI x2] S13 (RI fun y18 S19 => V X d MX13_told 38 [(0, vR r0), (1, vI x1), (2, vI x2)] [vI y18] S19 Q)) ∧ (y12 = 0 → V X d MX13_told 28 [(0, vR r0), (1, vI x1), (2, vI x2)] [] S13 Q))))))) ∧ ((gI S r0 46) = 0 → Q (.inl (some (vI (-2)))) S))) : V X d MX13_told 0 [(0, vR r0), (1, vI x1), (2, vI x2)] [] S Q := by
  refine V_aload_n (pc2 := 1) (dk D_X13_told 0 rfl) rfl (V_lg 0 rfl) rfl ?_
  obtain ⟨h1, h⟩ := h
  refine V_getI kc13 (pc2 := 4) 46 (dk D_X13_told 1 rfl) fl_13_448 (by decide) (fun _ => rfl) rfl h1 ?_
  refine V_ifne (tgt := 10) (pc2 := 7) (dk D_X13_told 2 rfl) (by decide) rfl (fun q2 => ?_) (fun q2 => ?_)
  · have h := h.1 q2
    refine V_aload_n (pc2 := 11) (dk D_X13_told 5 rfl) rfl (V_lg 0 rfl) rfl ?_
    refine V_iload_n (pc2 := 12) (dk D_X13_told 6 rfl) rfl (V_lg 1 rfl) rfl ?_
    obtain ⟨e3, he4, hc5⟩ := h
    refine V_callV (as := [_]) (st := []) (M' := MX13_isVoice) (ci := 13) (pc2 := 15) (dk D_X13_told 7 rfl) ml_13_554 mv_X13_isVoice rfl rfl (by decide) rfl (Nat.le_of_ble_eq_true rfl) rfl he4 h1 hc5 (RI.k fun y6 S7 h => ?_)
    refine V_ifeq (tgt := 28) (pc2 := 18) (dk D_X13_told 8 rfl) (by decide) rfl (fun q8 => ?_) (fun q8 => ?_)
    · have h := h.1 q8
      exact h
    · have h := h.2 q8
      refine V_iload_n (pc2 := 19) (dk D_X13_told 9 rfl) rfl (V_lg 2 rfl) rfl ?_
      refine V_iconst (x := 0) (pc2 := 20) (dk D_X13_told 10 rfl) (by decide) rfl ?_
      refine V_bipush (x := 6) (pc2 := 22) (dk D_X13_told 11 rfl) (by decide) rfl ?_
      obtain ⟨e9, he10, hc11⟩ := h
      refine V_callS (as := [_, _, _]) (st := []) (M' := MX13_in) (pc2 := 25) (dk D_X13_told 12 rfl) ml_13_292 mv_X13_in rfl rfl (Nat.le_of_ble_eq_true rfl) rfl he10 hc11 (RI.k fun y12 S13 h => ?_)
      refine V_ifne (tgt := 32) (pc2 := 28) (dk D_X13_told 13 rfl) (by decide) rfl (fun q14 => ?_) (fun q14 => ?_)
      · have h := h.1 q14
        refine V_aload_n (pc2 := 33) (dk D_X13_told 16 rfl) rfl (V_lg 0 rfl) rfl ?_
        refine V_iload_n (pc2 := 34) (dk D_X13_told 17 rfl) rfl (V_lg 1 rfl) rfl ?_
        refine V_iload_n (pc2 := 35) (dk D_X13_told 18 rfl) rfl (V_lg 2 rfl) rfl ?_
        obtain ⟨h20, h⟩ := h
        obtain ⟨e15, he16, hc17⟩ := h
        refine V_callV (as := [_, _]) (st := []) (M' := MX13_tellsOf) (ci := 13) (pc2 := 38) (dk D_X13_told 19 rfl) ml_13_638 mv_X13_tellsOf rfl rfl (by decide) rfl (Nat.le_of_ble_eq_true rfl) rfl he16 h20 hc17 (RI.k fun y18 S19 h => ?_)
        exact h
      · have h := h.2 q14
        exact h
  · have h := h.2 q2
    refine V_bipush (x := (-2)) (pc2 := 9) (dk D_X13_told 3 rfl) (by decide) rfl ?_
    exact V_ireturn (dk D_X13_told 4 rfl) rfl h
theorem w_X13_told_28 {X : Cx} {d : Nat} {S : Mem} {Q : Res → Mem → Prop} (r0 : Nat) (x1 : Int32) (x2 : Int32) (h : V X d MX13_told 38 [(0, vR r0), (1, vI x1), (2, vI x2)] [vI (-1)] S Q) : V X d MX13_told 28 [(0, vR r0), (1, vI x1), (2, vI x2)] [] S Q := by
  refine V_iconst (x := (-1)) (pc2 := 29) (dk D_X13_told 14 rfl) (by decide) rfl ?_
  refine V_goto (tgt := 38) (dk D_X13_told 15 rfl) (by decide) ?_
  exact h
theorem w_X13_told_38 {X : Cx} {d : Nat} {S : Mem} {Q : Res → Mem → Prop} (r0 : Nat) (x1 : Int32) (x2 : Int32) (t0 : Int32) (h : Q (.inl (some (vI t0))) S) : V X d MX13_told 38 [(0, vR r0), (1, vI x1), (2, vI x2)] [vI t0] S Q := by
  exact V_ireturn (dk D_X13_told 20 rfl) rfl h
def L_X13_local : List (Nat × Instr × Nat) := [(0, .aload_n 0, 1), (1, .getfield 448, 3), (4, .ifCond .ne 6, 3), (7, .bipush (-2), 2), (9, .ireturn, 1), (10, .aload_n 0, 1), (11, .iload_n 1, 1), (12, .invokevirtual 554, 3), (15, .ifCond .ne 5, 3), (18, .iconst (-1), 1), (19, .ireturn, 1), (20, .aload_n 0, 1), (21, .getfield 161, 3), (24, .iload_n 1, 1), (25, .iaload, 1), (26, .ifCond .ne 36, 3), (29, .iload_n 2, 1), (30, .ifCond .ne 30, 3), (33, .iload_n 3, 1), (34, .ifCond .ne 26, 3), (37, .aload_n 0, 1), (38, .getfield 107, 3), (41, .aload_n 0, 1), (42, .getfield 164, 3), (45, .iload_n 1, 1), (46, .iaload, 1), (47, .iaload, 1), (48, .ifCond .le 12, 3), (51, .aload_n 0, 1), (52, .getfield 167, 3), (55, .iload_n 1, 1), (56, .iaload, 1), (57, .goto 4, 3), (60, .iconst (-1), 1), (61, .ireturn, 1), (62, .iload_n 2, 1), (63, .iconst 0, 1), (64, .aload_n 0, 1), (65, .iload_n 1, 1), (66, .invokevirtual 635, 3), (69, .iconst 1, 1), (70, .isub, 1), (71, .invokestatic 292, 3), (74, .ifCond .ne 5, 3), (77, .iconst (-1), 1), (78, .ireturn, 1), (79, .bipush 60, 2), (81, .aload_n 0, 1), (82, .getfield 189, 3), (85, .iload_n 1, 1), (86, .iaload, 1), (87, .imul, 1), (88, .aload_n 0, 1), (89, .getfield 195, 3), (92, .aload_n 0, 1), (93, .getfield 189, 3), (96, .iload_n 1, 1), (97, .iaload, 1), (98, .iaload, 1), (99, .iadd, 1), (100, .iconst 1, 1), (101, .isub, 1), (102, .iload_n 2, 1), (103, .isub, 1), (104, .istore 4, 2), (106, .iload_n 3, 1), (107, .iconst 0, 1), (108, .aload_n 0, 1), (109, .getfield 110, 3), (112, .aload_n 0, 1), (113, .getfield 198, 3), (116, .iload 4, 2), (118, .iaload, 1), (119, .iaload, 1), (120, .iconst 1, 1), (121, .isub, 1), (122, .invokestatic 292, 3), (125, .ifCond .eq 18, 3), (128, .aload_n 0, 1), (129, .getfield 213, 3), (132, .bipush 40, 2), (134, .iload 4, 2), (136, .imul, 1), (137, .iload_n 3, 1), (138, .iadd, 1), (139, .iaload, 1), (140, .goto 4, 3), (143, .iconst (-1), 1), (144, .ireturn, 1)]
theorem D_X13_local : dOk cX13_local L_X13_local = true := by decide +kernel
set_option maxRecDepth 100000 in
theorem w_X13_local_0 {X : Cx} {d : Nat} {S : Mem} {Q : Res → Mem → Prop} (r0 : Nat) (x1 : Int32) (x2 : Int32) (x3 : Int32) (h : (isK S r0 13) ∧ ((¬ (gI S r0 46) = 0 → ∃ e3 : Nat, e3 + 1 ≤ d ∧ C X e3 MX13_isVoice [vR r0, vI x1] S (RI fun y6 S7 => ((¬ y6 = 0 → (isK S7 r0 13) ∧ (isK S7 (gR S7 r0 49) 21) ∧ (vp_in x1 (gN S7 (gR S7 r0 49))) ∧ ((¬ (gI S7 (gR S7 r0 49) (x1 : Int32).toNatClampNeg) = 0 → ∃ e13 : Nat, e13 + 1 ≤ d ∧ C X e13 MX13_callMany [vR r0, vI x1] S7 (RI fun y16 S17 => ∃ e18 : Nat, e18 + 1 ≤ d ∧ C X e18 MX13_in [vI x2, vI 0, vI (y16 - 1)] S17 (RI fun y21 S22 => ((¬ y21 = 0 → (isK S22 r0 13) ∧ (isK S22 (gR S22 r0 58) 21) ∧ (vp_in x1 (gN S22 (gR S22 r0 58))) ∧ (vp_in x1 (gN S22 (gR S22 r0 58))) ∧ (isK S22 (gR S22 r0 60) 21) ∧ (vp_in (gI S22 (gR S22 r0 58) (x1 : Int32).toNatClampNeg) (gN S22 (gR S22 r0 60))) ∧ (isK S22 (gR S22 r0 61) 21) ∧ (vp_in ((((60 * (gI S22 (gR S22 r0 58) (x1 : Int32).toNatClampNeg)) + (gI S22 (gR S22 r0 60) ((gI S22 (gR S22 r0 58) (x1 : Int32).toNatClampNeg) : Int32).toNatClampNeg)) - 1) - x2) (gN S22 (gR S22 r0 61))) ∧ (isK S22 (gR S22 r0 21) 21) ∧ (vp_in (gI S22 (gR S22 r0 61) (((((60 * (gI S22 (gR S22 r0 58) (x1 : Int32).toNatClampNeg)) + (gI S22 (gR S22 r0 60) ((gI S22 (gR S22 r0 58) (x1 : Int32).toNatClampNeg) : Int32).toNatClampNeg)) - 1) - x2) : Int32).toNatClampNeg) (gN S22 (gR S22 r0 21))) ∧ ∃ e34 : Nat, e34 + 1 ≤ d ∧ C X e34 MX13_in [vI x3, vI 0, vI ((gI S22 (gR S22 r0 21) ((gI S22 (gR S22 r0 61) (((((60 * (gI S22 (gR S22 r0 58) (x1 : Int32).toNatClampNeg)) + (gI S22 (gR S22 r0 60) ((gI S22 (gR S22 r0 58) (x1 : Int32).toNatClampNeg) : Int32).toNatClampNeg)) - 1) - x2) : Int32).toNatClampNeg) : Int32).toNatClampNeg) - 1)] S22 (RI fun y37 S38 => ((y37 = 0 → V X d MX13_local 144 [(0, vR r0), (1, vI x1), (2, vI x2), (3, vI x3), (4, vI ((((60 * (gI S22 (gR S22 r0 58) (x1 : Int32).toNatClampNeg)) + (gI S22 (gR S22 r0 60) ((gI S22 (gR S22 r0 58) (x1 : Int32).toNatClampNeg) : Int32).toNatClampNeg)) - 1) - x2))] [vI (-1)] S38 Q) ∧ (¬ y37 = 0 → (isK S38 r0 13) ∧ (isK S38 (gR S38 r0 66) 21) ∧ (vp_in ((40 * ((((60 * (gI S22 (gR S22 r0 58) (x1 : Int32).toNatClampNeg)) + (gI S22 (gR S22 r0 60) ((gI S22 (gR S22 r0 58) (x1 : Int32).toNatClampNeg) : Int32).toNatClampNeg)) - 1) - x2)) + x3) (gN S38 (gR S38 r0 66))) ∧ V X d MX13_local 144 [(0, vR r0), (1, vI x1), (2, vI x2), (3, vI x3), (4, vI ((((60 * (gI S22 (gR S22 r0 58) (x1 : Int32).toNatClampNeg)) + (gI S22 (gR S22 r0 60) ((gI S22 (gR S22 r0 58) (x1 : Int32).toNatClampNeg) : Int32).toNatClampNeg)) - 1) - x2))] [vI (gI S38 (gR S38 r0 66) (((40 * ((((60 * (gI S22 (gR S22 r0 58) (x1 : Int32).toNatClampNeg)) + (gI S22 (gR S22 r0 60) ((gI S22 (gR S22 r0 58) (x1 : Int32).toNatClampNeg) : Int32).toNatClampNeg)) - 1) - x2)) + x3) : Int32).toNatClampNeg)] S38 Q)))) ∧ (y21 = 0 → Q (.inl (some (vI (-1)))) S22))))) ∧ ((gI S7 (gR S7 r0 49) (x1 : Int32).toNatClampNeg) = 0 → ((¬ x2 = 0 → V X d MX13_local 60 [(0, vR r0), (1, vI x1), (2, vI x2), (3, vI x3)] [] S7 Q) ∧ (x2 = 0 → ((¬ x3 = 0 → V X d MX13_local 60 [(0, vR r0), (1, vI x1), (2, vI x2), (3, vI x3)] [] S7 Q) ∧ (x3 = 0 → (isK S7 (gR S7 r0 50) 21) ∧ (vp_in x1 (gN S7 (gR S7 r0 50))) ∧ (isK S7 (gR S7 r0 20) 21) ∧ (vp_in (gI S7 (gR S7 r0 50) (x1 : Int32).toNatClampNeg) (gN S7 (gR S7 r0 20))) ∧ (((gI S7 (gR S7 r0 20) ((gI S7 (gR S7 r0 50) (x1 : Int32).toNatClampNeg) : Int32).toNatClampNeg) ≤ 0 → V X d MX13_local 60 [(0, vR r0), (1, vI x1), (2, vI x2), (3, vI x3)] [] S7 Q) ∧ (¬ (gI S7 (gR S7 r0 20) ((gI S7 (gR S7 r0 50) (x1 : Int32).toNatClampNeg) : Int32).toNatClampNeg) ≤ 0 → (isK S7 (gR S7 r0 51) 21) ∧ (vp_in x1 (gN S7 (gR S7 r0 51))) ∧ V X d MX13_local 61 [(0, vR r0), (1, vI x1), (2, vI x2), (3, vI x3)] [vI (gI S7 (gR S7 r0 51) (x1 : Int32).toNatClampNeg)] S7 Q))))))))) ∧ (y6 = 0 → Q (.inl (some (vI (-1)))) S7)))) ∧ ((gI S r0 46) = 0 → Q (.inl (some (vI (-2)))) S))) : V X d MX13_local 0 [(0, vR r0), (1, vI x1), (2, vI x2), (3, vI x3)] [] S Q := by
  refine V_aload_n (pc2 := 1) (dk D_X13_local 0 rfl) rfl (V_lg 0 rfl) rfl ?_
  obtain ⟨h1, h⟩ := h
  refine V_getI kc13 (pc2 := 4) 46 (dk D_X13_local 1 rfl) fl_13_448 (by decide) (fun _ => rfl) rfl h1 ?_
  refine V_ifne (tgt := 10) (pc2 := 7) (dk D_X13_local 2 rfl) (by decide) rfl (fun q2 => ?_) (fun q2 => ?_)
  · have h := h.1 q2
    refine V_aload_n (pc2 := 11) (dk D_X13_local 5 rfl) rfl (V_lg 0 rfl) rfl ?_
    refine V_iload_n (pc2 := 12) (dk D_X13_local 6 rfl) rfl (V_lg 1 rfl) rfl ?_
    obtain ⟨e3, he4, hc5⟩ := h
    refine V_callV (as := [_]) (st := []) (M' := MX13_isVoice) (ci := 13) (pc2 := 15) (dk D_X13_local 7 rfl) ml_13_554 mv_X13_isVoice rfl rfl (by decide) rfl (Nat.le_of_ble_eq_true rfl) rfl he4 h1 hc5 (RI.k fun y6 S7 h => ?_)
    refine V_ifne (tgt := 20) (pc2 := 18) (dk D_X13_local 8 rfl) (by decide) rfl (fun q8 => ?_) (fun q8 => ?_)
    · have h := h.1 q8
      refine V_aload_n (pc2 := 21) (dk D_X13_local 11 rfl) rfl (V_lg 0 rfl) rfl ?_
      obtain ⟨h9, h⟩ := h
      refine V_getR kc13 (pc2 := 24) 49 (dk D_X13_local 12 rfl) fl_13_161 (by decide) (fun _ => rfl) rfl h9 ?_
      refine V_iload_n (pc2 := 25) (dk D_X13_local 13 rfl) rfl (V_lg 1 rfl) rfl ?_
      obtain ⟨h10, h⟩ := h
      obtain ⟨h11, h⟩ := h
      refine V_iald (pc2 := 26) (dk D_X13_local 14 rfl) rfl h10 h11 ?_
      refine V_ifne (tgt := 62) (pc2 := 29) (dk D_X13_local 15 rfl) (by decide) rfl (fun q12 => ?_) (fun q12 => ?_)
      · have h := h.1 q12
        refine V_iload_n (pc2 := 63) (dk D_X13_local 35 rfl) rfl (V_lg 2 rfl) rfl ?_
        refine V_iconst (x := 0) (pc2 := 64) (dk D_X13_local 36 rfl) (by decide) rfl ?_
        refine V_aload_n (pc2 := 65) (dk D_X13_local 37 rfl) rfl (V_lg 0 rfl) rfl ?_
        refine V_iload_n (pc2 := 66) (dk D_X13_local 38 rfl) rfl (V_lg 1 rfl) rfl ?_
        obtain ⟨e13, he14, hc15⟩ := h
        refine V_callV (as := [_]) (st := [_, _]) (M' := MX13_callMany) (ci := 13) (pc2 := 69) (dk D_X13_local 39 rfl) ml_13_635 mv_X13_callMany rfl rfl (by decide) rfl (Nat.le_of_ble_eq_true rfl) rfl he14 h9 hc15 (RI.k fun y16 S17 h => ?_)
        refine V_iconst (x := 1) (pc2 := 70) (dk D_X13_local 40 rfl) (by decide) rfl ?_
        refine V_isub (pc2 := 71) (dk D_X13_local 41 rfl) rfl ?_
        obtain ⟨e18, he19, hc20⟩ := h
        refine V_callS (as := [_, _, _]) (st := []) (M' := MX13_in) (pc2 := 74) (dk D_X13_local 42 rfl) ml_13_292 mv_X13_in rfl rfl (Nat.le_of_ble_eq_true rfl) rfl he19 hc20 (RI.k fun y21 S22 h => ?_)
        refine V_ifne (tgt := 79) (pc2 := 77) (dk D_X13_local 43 rfl) (by decide) rfl (fun q23 => ?_) (fun q23 => ?_)
        · have h := h.1 q23
          refine V_bipush (x := 60) (pc2 := 81) (dk D_X13_local 46 rfl) (by decide) rfl ?_
          refine V_aload_n (pc2 := 82) (dk D_X13_local 47 rfl) rfl (V_lg 0 rfl) rfl ?_
          obtain ⟨h24, h⟩ := h
          refine V_getR kc13 (pc2 := 85) 58 (dk D_X13_local 48 rfl) fl_13_189 (by decide) (fun _ => rfl) rfl h24 ?_
          refine V_iload_n (pc2 := 86) (dk D_X13_local 49 rfl) rfl (V_lg 1 rfl) rfl ?_
          obtain ⟨h25, h⟩ := h
          obtain ⟨h26, h⟩ := h
          refine V_iald (pc2 := 87) (dk D_X13_local 50 rfl) rfl h25 h26 ?_
          refine V_imul (pc2 := 88) (dk D_X13_local 51 rfl) rfl ?_
          refine V_aload_n (pc2 := 89) (dk D_X13_local 52 rfl) rfl (V_lg 0 rfl) rfl ?_
          refine V_getR kc13 (pc2 := 92) 60 (dk D_X13_local 53 rfl) fl_13_195 (by decide) (fun _ => rfl) rfl h24 ?_
          refine V_aload_n (pc2 := 93) (dk D_X13_local 54 rfl) rfl (V_lg 0 rfl) rfl ?_
          refine V_getR kc13 (pc2 := 96) 58 (dk D_X13_local 55 rfl) fl_13_189 (by decide) (fun _ => rfl) rfl h24 ?_
          refine V_iload_n (pc2 := 97) (dk D_X13_local 56 rfl) rfl (V_lg 1 rfl) rfl ?_
          obtain ⟨h27, h⟩ := h
          refine V_iald (pc2 := 98) (dk D_X13_local 57 rfl) rfl h25 h27 ?_
          obtain ⟨h28, h⟩ := h
          obtain ⟨h29, h⟩ := h
          refine V_iald (pc2 := 99) (dk D_X13_local 58 rfl) rfl h28 h29 ?_
          refine V_iadd (pc2 := 100) (dk D_X13_local 59 rfl) rfl ?_
          refine V_iconst (x := 1) (pc2 := 101) (dk D_X13_local 60 rfl) (by decide) rfl ?_
          refine V_isub (pc2 := 102) (dk D_X13_local 61 rfl) rfl ?_
          refine V_iload_n (pc2 := 103) (dk D_X13_local 62 rfl) rfl (V_lg 2 rfl) rfl ?_
          refine V_isub (pc2 := 104) (dk D_X13_local 63 rfl) rfl ?_
          refine V_istore (pc2 := 106) (lv2 := [(0, _), (1, _), (2, _), (3, _), (4, _)]) (dk D_X13_local 64 rfl) (by decide) rfl rfl ?_
          refine V_iload_n (pc2 := 107) (dk D_X13_local 65 rfl) rfl (V_lg 3 rfl) rfl ?_
          refine V_iconst (x := 0) (pc2 := 108) (dk D_X13_local 66 rfl) (by decide) rfl ?_
          refine V_aload_n (pc2 := 109) (dk D_X13_local 67 rfl) rfl (V_lg 0 rfl) rfl ?_
          refine V_getR kc13 (pc2 := 112) 21 (dk D_X13_local 68 rfl) fl_13_110 (by decide) (fun _ => rfl) rfl h24 ?_
          refine V_aload_n (pc2 := 113) (dk D_X13_local 69 rfl) rfl (V_lg 0 rfl) rfl ?_
          refine V_getR kc13 (pc2 := 116) 61 (dk D_X13_local 70 rfl) fl_13_198 (by decide) (fun _ => rfl) rfl h24 ?_
          refine V_iload (pc2 := 118) (dk D_X13_local 71 rfl) (V_lg 4 rfl) rfl ?_
          obtain ⟨h30, h⟩ := h
          obtain ⟨h31, h⟩ := h
          refine V_iald (pc2 := 119) (dk D_X13_local 72 rfl) rfl h30 h31 ?_
          obtain ⟨h32, h⟩ := h
          obtain ⟨h33, h⟩ := h
          refine V_iald (pc2 := 120) (dk D_X13_local 73 rfl) rfl h32 h33 ?_
          refine V_iconst (x := 1) (pc2 := 121) (dk D_X13_local 74 rfl) (by decide) rfl ?_
          refine V_isub (pc2 := 122) (dk D_X13_local 75 rfl) rfl ?_
          obtain ⟨e34, he35, hc36⟩ := h
          refine V_callS (as := [_, _, _]) (st := []) (M' := MX13_in) (pc2 := 125) (dk D_X13_local 76 rfl) ml_13_292 mv_X13_in rfl rfl (Nat.le_of_ble_eq_true rfl) rfl he35 hc36 (RI.k fun y37 S38 h => ?_)
          refine V_ifeq (tgt := 143) (pc2 := 128) (dk D_X13_local 77 rfl) (by decide) rfl (fun q39 => ?_) (fun q39 => ?_)
          · have h := h.1 q39
            refine V_iconst (x := (-1)) (pc2 := 144) (dk D_X13_local 87 rfl) (by decide) rfl ?_
            exact h
          · have h := h.2 q39
            refine V_aload_n (pc2 := 129) (dk D_X13_local 78 rfl) rfl (V_lg 0 rfl) rfl ?_
            obtain ⟨h40, h⟩ := h
            refine V_getR kc13 (pc2 := 132) 66 (dk D_X13_local 79 rfl) fl_13_213 (by decide) (fun _ => rfl) rfl h40 ?_
            refine V_bipush (x := 40) (pc2 := 134) (dk D_X13_local 80 rfl) (by decide) rfl ?_
            refine V_iload (pc2 := 136) (dk D_X13_local 81 rfl) (V_lg 4 rfl) rfl ?_
            refine V_imul (pc2 := 137) (dk D_X13_local 82 rfl) rfl ?_
            refine V_iload_n (pc2 := 138) (dk D_X13_local 83 rfl) rfl (V_lg 3 rfl) rfl ?_
            refine V_iadd (pc2 := 139) (dk D_X13_local 84 rfl) rfl ?_
            obtain ⟨h41, h⟩ := h
            obtain ⟨h42, h⟩ := h
            refine V_iald (pc2 := 140) (dk D_X13_local 85 rfl) rfl h41 h42 ?_
            refine V_goto (tgt := 144) (dk D_X13_local 86 rfl) (by decide) ?_
            exact h
        · have h := h.2 q23
          refine V_iconst (x := (-1)) (pc2 := 78) (dk D_X13_local 44 rfl) (by decide) rfl ?_
          exact V_ireturn (dk D_X13_local 45 rfl) rfl h
      · have h := h.2 q12
        refine V_iload_n (pc2 := 30) (dk D_X13_local 16 rfl) rfl (V_lg 2 rfl) rfl ?_
        refine V_ifne (tgt := 60) (pc2 := 33) (dk D_X13_local 17 rfl) (by decide) rfl (fun q43 => ?_) (fun q43 => ?_)
        · have h := h.1 q43
          exact h
        · have h := h.2 q43
          refine V_iload_n (pc2 := 34) (dk D_X13_local 18 rfl) rfl (V_lg 3 rfl) rfl ?_
          refine V_ifne (tgt := 60) (pc2 := 37) (dk D_X13_local 19 rfl) (by decide) rfl (fun q44 => ?_) (fun q44 => ?_)
          · have h := h.1 q44
            exact h
          · have h := h.2 q44
            refine V_aload_n (pc2 := 38) (dk D_X13_local 20 rfl) rfl (V_lg 0 rfl) rfl ?_
            refine V_getR kc13 (pc2 := 41) 20 (dk D_X13_local 21 rfl) fl_13_107 (by decide) (fun _ => rfl) rfl h9 ?_
            refine V_aload_n (pc2 := 42) (dk D_X13_local 22 rfl) rfl (V_lg 0 rfl) rfl ?_
            refine V_getR kc13 (pc2 := 45) 50 (dk D_X13_local 23 rfl) fl_13_164 (by decide) (fun _ => rfl) rfl h9 ?_
            refine V_iload_n (pc2 := 46) (dk D_X13_local 24 rfl) rfl (V_lg 1 rfl) rfl ?_
            obtain ⟨h45, h⟩ := h
            obtain ⟨h46, h⟩ := h
            refine V_iald (pc2 := 47) (dk D_X13_local 25 rfl) rfl h45 h46 ?_
            obtain ⟨h47, h⟩ := h
            obtain ⟨h48, h⟩ := h
            refine V_iald (pc2 := 48) (dk D_X13_local 26 rfl) rfl h47 h48 ?_
            refine V_ifle (tgt := 60) (pc2 := 51) (dk D_X13_local 27 rfl) (by decide) rfl (fun q49 => ?_) (fun q49 => ?_)
            · have h := h.1 q49
              exact h
            · have h := h.2 q49
              refine V_aload_n (pc2 := 52) (dk D_X13_local 28 rfl) rfl (V_lg 0 rfl) rfl ?_
              refine V_getR kc13 (pc2 := 55) 51 (dk D_X13_local 29 rfl) fl_13_167 (by decide) (fun _ => rfl) rfl h9 ?_
              refine V_iload_n (pc2 := 56) (dk D_X13_local 30 rfl) rfl (V_lg 1 rfl) rfl ?_
              obtain ⟨h50, h⟩ := h
              obtain ⟨h51, h⟩ := h
              refine V_iald (pc2 := 57) (dk D_X13_local 31 rfl) rfl h50 h51 ?_
              refine V_goto (tgt := 61) (dk D_X13_local 32 rfl) (by decide) ?_
              exact h
    · have h := h.2 q8
      refine V_iconst (x := (-1)) (pc2 := 19) (dk D_X13_local 9 rfl) (by decide) rfl ?_
      exact V_ireturn (dk D_X13_local 10 rfl) rfl h
  · have h := h.2 q2
    refine V_bipush (x := (-2)) (pc2 := 9) (dk D_X13_local 3 rfl) (by decide) rfl ?_
    exact V_ireturn (dk D_X13_local 4 rfl) rfl h
theorem w_X13_local_60 {X : Cx} {d : Nat} {S : Mem} {Q : Res → Mem → Prop} (r0 : Nat) (x1 : Int32) (x2 : Int32) (x3 : Int32) (h : V X d MX13_local 61 [(0, vR r0), (1, vI x1), (2, vI x2), (3, vI x3)] [vI (-1)] S Q) : V X d MX13_local 60 [(0, vR r0), (1, vI x1), (2, vI x2), (3, vI x3)] [] S Q := by
  refine V_iconst (x := (-1)) (pc2 := 61) (dk D_X13_local 33 rfl) (by decide) rfl ?_
  exact h
theorem w_X13_local_61 {X : Cx} {d : Nat} {S : Mem} {Q : Res → Mem → Prop} (r0 : Nat) (x1 : Int32) (x2 : Int32) (x3 : Int32) (t0 : Int32) (h : Q (.inl (some (vI t0))) S) : V X d MX13_local 61 [(0, vR r0), (1, vI x1), (2, vI x2), (3, vI x3)] [vI t0] S Q := by
  exact V_ireturn (dk D_X13_local 34 rfl) rfl h
theorem w_X13_local_144 {X : Cx} {d : Nat} {S : Mem} {Q : Res → Mem → Prop} (r0 : Nat) (x1 : Int32) (x2 : Int32) (x3 : Int32) (x4 : Int32) (t0 : Int32) (h : Q (.inl (some (vI t0))) S) : V X d MX13_local 144 [(0, vR r0), (1, vI x1), (2, vI x2), (3, vI x3), (4, vI x4)] [vI t0] S Q := by
  exact V_ireturn (dk D_X13_local 88 rfl) rfl h
def L_X13_lines : List (Nat × Instr × Nat) := [(0, .aload_n 0, 1), (1, .getfield 448, 3), (4, .ifCond .eq 10, 3), (7, .aload_n 0, 1), (8, .getfield 479, 3), (11, .goto 5, 3), (14, .bipush (-2), 2), (16, .ireturn, 1)]
theorem D_X13_lines : dOk cX13_lines L_X13_lines = true := by decide +kernel
theorem w_X13_lines_0 {X : Cx} {d : Nat} {S : Mem} {Q : Res → Mem → Prop} (r0 : Nat) (h : (isK S r0 13) ∧ (((gI S r0 46) = 0 → V X d MX13_lines 16 [(0, vR r0)] [vI (-2)] S Q) ∧ (¬ (gI S r0 46) = 0 → V X d MX13_lines 16 [(0, vR r0)] [vI (gI S r0 80)] S Q))) : V X d MX13_lines 0 [(0, vR r0)] [] S Q := by
  refine V_aload_n (pc2 := 1) (dk D_X13_lines 0 rfl) rfl (V_lg 0 rfl) rfl ?_
  obtain ⟨h1, h⟩ := h
  refine V_getI kc13 (pc2 := 4) 46 (dk D_X13_lines 1 rfl) fl_13_448 (by decide) (fun _ => rfl) rfl h1 ?_
  refine V_ifeq (tgt := 14) (pc2 := 7) (dk D_X13_lines 2 rfl) (by decide) rfl (fun q2 => ?_) (fun q2 => ?_)
  · have h := h.1 q2
    refine V_bipush (x := (-2)) (pc2 := 16) (dk D_X13_lines 6 rfl) (by decide) rfl ?_
    exact h
  · have h := h.2 q2
    refine V_aload_n (pc2 := 8) (dk D_X13_lines 3 rfl) rfl (V_lg 0 rfl) rfl ?_
    refine V_getI kc13 (pc2 := 11) 80 (dk D_X13_lines 4 rfl) fl_13_479 (by decide) (fun _ => rfl) rfl h1 ?_
    refine V_goto (tgt := 16) (dk D_X13_lines 5 rfl) (by decide) ?_
    exact h
theorem w_X13_lines_16 {X : Cx} {d : Nat} {S : Mem} {Q : Res → Mem → Prop} (r0 : Nat) (t0 : Int32) (h : Q (.inl (some (vI t0))) S) : V X d MX13_lines 16 [(0, vR r0)] [vI t0] S Q := by
  exact V_ireturn (dk D_X13_lines 7 rfl) rfl h
def L_X13_line : List (Nat × Instr × Nat) := [(0, .aload_n 0, 1), (1, .getfield 448, 3), (4, .ifCond .ne 6, 3), (7, .bipush (-2), 2), (9, .ireturn, 1), (10, .iload_n 2, 1), (11, .iconst 0, 1), (12, .iconst 1, 1), (13, .invokestatic 292, 3), (16, .ifCond .ne 5, 3), (19, .iconst (-1), 1), (20, .ireturn, 1), (21, .iload_n 1, 1), (22, .iconst 0, 1), (23, .aload_n 0, 1), (24, .getfield 479, 3), (27, .iconst 1, 1), (28, .isub, 1), (29, .invokestatic 292, 3), (32, .ifCond .eq 10, 3), (35, .iload_n 1, 1), (36, .sipush 300, 3), (39, .if_icmp .lt 8, 3), (42, .bipush (-9), 2), (44, .goto 22, 3), (47, .iload_n 2, 1), (48, .ifCond .ne 12, 3), (51, .aload_n 0, 1), (52, .getfield 241, 3), (55, .iload_n 1, 1), (56, .iaload, 1), (57, .goto 9, 3), (60, .aload_n 0, 1), (61, .getfield 244, 3), (64, .iload_n 1, 1), (65, .iaload, 1), (66, .ireturn, 1)]
theorem D_X13_line : dOk cX13_line L_X13_line = true := by decide +kernel
theorem w_X13_line_0 {X : Cx} {d : Nat} {S : Mem} {Q : Res → Mem → Prop} (r0 : Nat) (x1 : Int32) (x2 : Int32) (h : (isK S r0 13) ∧ ((¬ (gI S r0 46) = 0 → ∃ e3 : Nat, e3 + 1 ≤ d ∧ C X e3 MX13_in [vI x2, vI 0, vI 1] S (RI fun y6 S7 => ((¬ y6 = 0 → (isK S7 r0 13) ∧ ∃ e10 : Nat, e10 + 1 ≤ d ∧ C X e10 MX13_in [vI x1, vI 0, vI ((gI S7 r0 80) - 1)] S7 (RI fun y13 S14 => ((y13 = 0 → V X d MX13_line 42 [(0, vR r0), (1, vI x1), (2, vI x2)] [] S14 Q) ∧ (¬ y13 = 0 → ((x1 < 300 → ((¬ x2 = 0 → (isK S14 r0 13) ∧ (isK S14 (gR S14 r0 82) 21) ∧ (vp_in x1 (gN S14 (gR S14 r0 82))) ∧ V X d MX13_line 66 [(0, vR r0), (1, vI x1), (2, vI x2)] [vI (gI S14 (gR S14 r0 82) (x1 : Int32).toNatClampNeg)] S14 Q) ∧ (x2 = 0 → (isK S14 r0 13) ∧ (isK S14 (gR S14 r0 81) 21) ∧ (vp_in x1 (gN S14 (gR S14 r0 81))) ∧ V X d MX13_line 66 [(0, vR r0), (1, vI x1), (2, vI x2)] [vI (gI S14 (gR S14 r0 81) (x1 : Int32).toNatClampNeg)] S14 Q))) ∧ (¬ x1 < 300 → V X d MX13_line 42 [(0, vR r0), (1, vI x1), (2, vI x2)] [] S14 Q)))))) ∧ (y6 = 0 → Q (.inl (some (vI (-1)))) S7)))) ∧ ((gI S r0 46) = 0 → Q (.inl (some (vI (-2)))) S))) : V X d MX13_line 0 [(0, vR r0), (1, vI x1), (2, vI x2)] [] S Q := by
  refine V_aload_n (pc2 := 1) (dk D_X13_line 0 rfl) rfl (V_lg 0 rfl) rfl ?_
  obtain ⟨h1, h⟩ := h
  refine V_getI kc13 (pc2 := 4) 46 (dk D_X13_line 1 rfl) fl_13_448 (by decide) (fun _ => rfl) rfl h1 ?_
  refine V_ifne (tgt := 10) (pc2 := 7) (dk D_X13_line 2 rfl) (by decide) rfl (fun q2 => ?_) (fun q2 => ?_)
  · have h := h.1 q2
    refine V_iload_n (pc2 := 11) (dk D_X13_line 5 rfl) rfl (V_lg 2 rfl) rfl ?_
    refine V_iconst (x := 0) (pc2 := 12) (dk D_X13_line 6 rfl) (by decide) rfl ?_
    refine V_iconst (x := 1) (pc2 := 13) (dk D_X13_line 7 rfl) (by decide) rfl ?_
    obtain ⟨e3, he4, hc5⟩ := h
    refine V_callS (as := [_, _, _]) (st := []) (M' := MX13_in) (pc2 := 16) (dk D_X13_line 8 rfl) ml_13_292 mv_X13_in rfl rfl (Nat.le_of_ble_eq_true rfl) rfl he4 hc5 (RI.k fun y6 S7 h => ?_)
    refine V_ifne (tgt := 21) (pc2 := 19) (dk D_X13_line 9 rfl) (by decide) rfl (fun q8 => ?_) (fun q8 => ?_)
    · have h := h.1 q8
      refine V_iload_n (pc2 := 22) (dk D_X13_line 12 rfl) rfl (V_lg 1 rfl) rfl ?_
      refine V_iconst (x := 0) (pc2 := 23) (dk D_X13_line 13 rfl) (by decide) rfl ?_
      refine V_aload_n (pc2 := 24) (dk D_X13_line 14 rfl) rfl (V_lg 0 rfl) rfl ?_
      obtain ⟨h9, h⟩ := h
      refine V_getI kc13 (pc2 := 27) 80 (dk D_X13_line 15 rfl) fl_13_479 (by decide) (fun _ => rfl) rfl h9 ?_
      refine V_iconst (x := 1) (pc2 := 28) (dk D_X13_line 16 rfl) (by decide) rfl ?_
      refine V_isub (pc2 := 29) (dk D_X13_line 17 rfl) rfl ?_
      obtain ⟨e10, he11, hc12⟩ := h
      refine V_callS (as := [_, _, _]) (st := []) (M' := MX13_in) (pc2 := 32) (dk D_X13_line 18 rfl) ml_13_292 mv_X13_in rfl rfl (Nat.le_of_ble_eq_true rfl) rfl he11 hc12 (RI.k fun y13 S14 h => ?_)
      refine V_ifeq (tgt := 42) (pc2 := 35) (dk D_X13_line 19 rfl) (by decide) rfl (fun q15 => ?_) (fun q15 => ?_)
      · have h := h.1 q15
        exact h
      · have h := h.2 q15
        refine V_iload_n (pc2 := 36) (dk D_X13_line 20 rfl) rfl (V_lg 1 rfl) rfl ?_
        refine V_sipush (x := 300) (pc2 := 39) (dk D_X13_line 21 rfl) (by decide) rfl ?_
        refine V_cmplt (tgt := 47) (pc2 := 42) (dk D_X13_line 22 rfl) (by decide) rfl (fun q16 => ?_) (fun q16 => ?_)
        · have h := h.1 q16
          refine V_iload_n (pc2 := 48) (dk D_X13_line 25 rfl) rfl (V_lg 2 rfl) rfl ?_
          refine V_ifne (tgt := 60) (pc2 := 51) (dk D_X13_line 26 rfl) (by decide) rfl (fun q17 => ?_) (fun q17 => ?_)
          · have h := h.1 q17
            refine V_aload_n (pc2 := 61) (dk D_X13_line 32 rfl) rfl (V_lg 0 rfl) rfl ?_
            obtain ⟨h18, h⟩ := h
            refine V_getR kc13 (pc2 := 64) 82 (dk D_X13_line 33 rfl) fl_13_244 (by decide) (fun _ => rfl) rfl h18 ?_
            refine V_iload_n (pc2 := 65) (dk D_X13_line 34 rfl) rfl (V_lg 1 rfl) rfl ?_
            obtain ⟨h19, h⟩ := h
            obtain ⟨h20, h⟩ := h
            refine V_iald (pc2 := 66) (dk D_X13_line 35 rfl) rfl h19 h20 ?_
            exact h
          · have h := h.2 q17
            refine V_aload_n (pc2 := 52) (dk D_X13_line 27 rfl) rfl (V_lg 0 rfl) rfl ?_
            obtain ⟨h21, h⟩ := h
            refine V_getR kc13 (pc2 := 55) 81 (dk D_X13_line 28 rfl) fl_13_241 (by decide) (fun _ => rfl) rfl h21 ?_
            refine V_iload_n (pc2 := 56) (dk D_X13_line 29 rfl) rfl (V_lg 1 rfl) rfl ?_
            obtain ⟨h22, h⟩ := h
            obtain ⟨h23, h⟩ := h
            refine V_iald (pc2 := 57) (dk D_X13_line 30 rfl) rfl h22 h23 ?_
            refine V_goto (tgt := 66) (dk D_X13_line 31 rfl) (by decide) ?_
            exact h
        · have h := h.2 q16
          exact h
    · have h := h.2 q8
      refine V_iconst (x := (-1)) (pc2 := 20) (dk D_X13_line 10 rfl) (by decide) rfl ?_
      exact V_ireturn (dk D_X13_line 11 rfl) rfl h
  · have h := h.2 q2
    refine V_bipush (x := (-2)) (pc2 := 9) (dk D_X13_line 3 rfl) (by decide) rfl ?_
    exact V_ireturn (dk D_X13_line 4 rfl) rfl h
theorem w_X13_line_42 {X : Cx} {d : Nat} {S : Mem} {Q : Res → Mem → Prop} (r0 : Nat) (x1 : Int32) (x2 : Int32) (h : V X d MX13_line 66 [(0, vR r0), (1, vI x1), (2, vI x2)] [vI (-9)] S Q) : V X d MX13_line 42 [(0, vR r0), (1, vI x1), (2, vI x2)] [] S Q := by
  refine V_bipush (x := (-9)) (pc2 := 44) (dk D_X13_line 23 rfl) (by decide) rfl ?_
  refine V_goto (tgt := 66) (dk D_X13_line 24 rfl) (by decide) ?_
  exact h
theorem w_X13_line_66 {X : Cx} {d : Nat} {S : Mem} {Q : Res → Mem → Prop} (r0 : Nat) (x1 : Int32) (x2 : Int32) (t0 : Int32) (h : Q (.inl (some (vI t0))) S) : V X d MX13_line 66 [(0, vR r0), (1, vI x1), (2, vI x2)] [vI t0] S Q := by
  exact V_ireturn (dk D_X13_line 36 rfl) rfl h
def L_X13_handings : List (Nat × Instr × Nat) := [(0, .aload_n 0, 1), (1, .getfield 448, 3), (4, .ifCond .eq 10, 3), (7, .aload_n 0, 1), (8, .getfield 482, 3), (11, .goto 5, 3), (14, .bipush (-2), 2), (16, .ireturn, 1)]
theorem D_X13_handings : dOk cX13_handings L_X13_handings = true := by decide +kernel
theorem w_X13_handings_0 {X : Cx} {d : Nat} {S : Mem} {Q : Res → Mem → Prop} (r0 : Nat) (h : (isK S r0 13) ∧ (((gI S r0 46) = 0 → V X d MX13_handings 16 [(0, vR r0)] [vI (-2)] S Q) ∧ (¬ (gI S r0 46) = 0 → V X d MX13_handings 16 [(0, vR r0)] [vI (gI S r0 83)] S Q))) : V X d MX13_handings 0 [(0, vR r0)] [] S Q := by
  refine V_aload_n (pc2 := 1) (dk D_X13_handings 0 rfl) rfl (V_lg 0 rfl) rfl ?_
  obtain ⟨h1, h⟩ := h
  refine V_getI kc13 (pc2 := 4) 46 (dk D_X13_handings 1 rfl) fl_13_448 (by decide) (fun _ => rfl) rfl h1 ?_
  refine V_ifeq (tgt := 14) (pc2 := 7) (dk D_X13_handings 2 rfl) (by decide) rfl (fun q2 => ?_) (fun q2 => ?_)
  · have h := h.1 q2
    refine V_bipush (x := (-2)) (pc2 := 16) (dk D_X13_handings 6 rfl) (by decide) rfl ?_
    exact h
  · have h := h.2 q2
    refine V_aload_n (pc2 := 8) (dk D_X13_handings 3 rfl) rfl (V_lg 0 rfl) rfl ?_
    refine V_getI kc13 (pc2 := 11) 83 (dk D_X13_handings 4 rfl) fl_13_482 (by decide) (fun _ => rfl) rfl h1 ?_
    refine V_goto (tgt := 16) (dk D_X13_handings 5 rfl) (by decide) ?_
    exact h
theorem w_X13_handings_16 {X : Cx} {d : Nat} {S : Mem} {Q : Res → Mem → Prop} (r0 : Nat) (t0 : Int32) (h : Q (.inl (some (vI t0))) S) : V X d MX13_handings 16 [(0, vR r0)] [vI t0] S Q := by
  exact V_ireturn (dk D_X13_handings 7 rfl) rfl h
def L_X13_handing : List (Nat × Instr × Nat) := [(0, .aload_n 0, 1), (1, .getfield 448, 3), (4, .ifCond .ne 6, 3), (7, .bipush (-2), 2), (9, .ireturn, 1), (10, .iload_n 2, 1), (11, .iconst 0, 1), (12, .iconst 1, 1), (13, .invokestatic 292, 3), (16, .ifCond .ne 5, 3), (19, .iconst (-1), 1), (20, .ireturn, 1), (21, .iload_n 1, 1), (22, .iconst 0, 1), (23, .aload_n 0, 1), (24, .getfield 482, 3), (27, .iconst 1, 1), (28, .isub, 1), (29, .invokestatic 292, 3), (32, .ifCond .eq 10, 3), (35, .iload_n 1, 1), (36, .sipush 300, 3), (39, .if_icmp .lt 8, 3), (42, .bipush (-9), 2), (44, .goto 22, 3), (47, .iload_n 2, 1), (48, .ifCond .ne 12, 3), (51, .aload_n 0, 1), (52, .getfield 247, 3), (55, .iload_n 1, 1), (56, .iaload, 1), (57, .goto 9, 3), (60, .aload_n 0, 1), (61, .getfield 250, 3), (64, .iload_n 1, 1), (65, .iaload, 1), (66, .ireturn, 1)]
theorem D_X13_handing : dOk cX13_handing L_X13_handing = true := by decide +kernel
theorem w_X13_handing_0 {X : Cx} {d : Nat} {S : Mem} {Q : Res → Mem → Prop} (r0 : Nat) (x1 : Int32) (x2 : Int32) (h : (isK S r0 13) ∧ ((¬ (gI S r0 46) = 0 → ∃ e3 : Nat, e3 + 1 ≤ d ∧ C X e3 MX13_in [vI x2, vI 0, vI 1] S (RI fun y6 S7 => ((¬ y6 = 0 → (isK S7 r0 13) ∧ ∃ e10 : Nat, e10 + 1 ≤ d ∧ C X e10 MX13_in [vI x1, vI 0, vI ((gI S7 r0 83) - 1)] S7 (RI fun y13 S14 => ((y13 = 0 → V X d MX13_handing 42 [(0, vR r0), (1, vI x1), (2, vI x2)] [] S14 Q) ∧ (¬ y13 = 0 → ((x1 < 300 → ((¬ x2 = 0 → (isK S14 r0 13) ∧ (isK S14 (gR S14 r0 85) 21) ∧ (vp_in x1 (gN S14 (gR S14 r0 85))) ∧ V X d MX13_handing 66 [(0, vR r0), (1, vI x1), (2, vI x2)] [vI (gI S14 (gR S14 r0 85) (x1 : Int32).toNatClampNeg)] S14 Q) ∧ (x2 = 0 → (isK S14 r0 13) ∧ (isK S14 (gR S14 r0 84) 21) ∧ (vp_in x1 (gN S14 (gR S14 r0 84))) ∧ V X d MX13_handing 66 [(0, vR r0), (1, vI x1), (2, vI x2)] [vI (gI S14 (gR S14 r0 84) (x1 : Int32).toNatClampNeg)] S14 Q))) ∧ (¬ x1 < 300 → V X d MX13_handing 42 [(0, vR r0), (1, vI x1), (2, vI x2)] [] S14 Q)))))) ∧ (y6 = 0 → Q (.inl (some (vI (-1)))) S7)))) ∧ ((gI S r0 46) = 0 → Q (.inl (some (vI (-2)))) S))) : V X d MX13_handing 0 [(0, vR r0), (1, vI x1), (2, vI x2)] [] S Q := by
  refine V_aload_n (pc2 := 1) (dk D_X13_handing 0 rfl) rfl (V_lg 0 rfl) rfl ?_
  obtain ⟨h1, h⟩ := h
  refine V_getI kc13 (pc2 := 4) 46 (dk D_X13_handing 1 rfl) fl_13_448 (by decide) (fun _ => rfl) rfl h1 ?_
  refine V_ifne (tgt := 10) (pc2 := 7) (dk D_X13_handing 2 rfl) (by decide) rfl (fun q2 => ?_) (fun q2 => ?_)
  · have h := h.1 q2
    refine V_iload_n (pc2 := 11) (dk D_X13_handing 5 rfl) rfl (V_lg 2 rfl) rfl ?_
    refine V_iconst (x := 0) (pc2 := 12) (dk D_X13_handing 6 rfl) (by decide) rfl ?_
    refine V_iconst (x := 1) (pc2 := 13) (dk D_X13_handing 7 rfl) (by decide) rfl ?_
    obtain ⟨e3, he4, hc5⟩ := h
    refine V_callS (as := [_, _, _]) (st := []) (M' := MX13_in) (pc2 := 16) (dk D_X13_handing 8 rfl) ml_13_292 mv_X13_in rfl rfl (Nat.le_of_ble_eq_true rfl) rfl he4 hc5 (RI.k fun y6 S7 h => ?_)
    refine V_ifne (tgt := 21) (pc2 := 19) (dk D_X13_handing 9 rfl) (by decide) rfl (fun q8 => ?_) (fun q8 => ?_)
    · have h := h.1 q8
      refine V_iload_n (pc2 := 22) (dk D_X13_handing 12 rfl) rfl (V_lg 1 rfl) rfl ?_
      refine V_iconst (x := 0) (pc2 := 23) (dk D_X13_handing 13 rfl) (by decide) rfl ?_
      refine V_aload_n (pc2 := 24) (dk D_X13_handing 14 rfl) rfl (V_lg 0 rfl) rfl ?_
      obtain ⟨h9, h⟩ := h
      refine V_getI kc13 (pc2 := 27) 83 (dk D_X13_handing 15 rfl) fl_13_482 (by decide) (fun _ => rfl) rfl h9 ?_
      refine V_iconst (x := 1) (pc2 := 28) (dk D_X13_handing 16 rfl) (by decide) rfl ?_
      refine V_isub (pc2 := 29) (dk D_X13_handing 17 rfl) rfl ?_
      obtain ⟨e10, he11, hc12⟩ := h
      refine V_callS (as := [_, _, _]) (st := []) (M' := MX13_in) (pc2 := 32) (dk D_X13_handing 18 rfl) ml_13_292 mv_X13_in rfl rfl (Nat.le_of_ble_eq_true rfl) rfl he11 hc12 (RI.k fun y13 S14 h => ?_)
      refine V_ifeq (tgt := 42) (pc2 := 35) (dk D_X13_handing 19 rfl) (by decide) rfl (fun q15 => ?_) (fun q15 => ?_)
      · have h := h.1 q15
        exact h
      · have h := h.2 q15
        refine V_iload_n (pc2 := 36) (dk D_X13_handing 20 rfl) rfl (V_lg 1 rfl) rfl ?_
        refine V_sipush (x := 300) (pc2 := 39) (dk D_X13_handing 21 rfl) (by decide) rfl ?_
        refine V_cmplt (tgt := 47) (pc2 := 42) (dk D_X13_handing 22 rfl) (by decide) rfl (fun q16 => ?_) (fun q16 => ?_)
        · have h := h.1 q16
          refine V_iload_n (pc2 := 48) (dk D_X13_handing 25 rfl) rfl (V_lg 2 rfl) rfl ?_
          refine V_ifne (tgt := 60) (pc2 := 51) (dk D_X13_handing 26 rfl) (by decide) rfl (fun q17 => ?_) (fun q17 => ?_)
          · have h := h.1 q17
            refine V_aload_n (pc2 := 61) (dk D_X13_handing 32 rfl) rfl (V_lg 0 rfl) rfl ?_
            obtain ⟨h18, h⟩ := h
            refine V_getR kc13 (pc2 := 64) 85 (dk D_X13_handing 33 rfl) fl_13_250 (by decide) (fun _ => rfl) rfl h18 ?_
            refine V_iload_n (pc2 := 65) (dk D_X13_handing 34 rfl) rfl (V_lg 1 rfl) rfl ?_
            obtain ⟨h19, h⟩ := h
            obtain ⟨h20, h⟩ := h
            refine V_iald (pc2 := 66) (dk D_X13_handing 35 rfl) rfl h19 h20 ?_
            exact h
          · have h := h.2 q17
            refine V_aload_n (pc2 := 52) (dk D_X13_handing 27 rfl) rfl (V_lg 0 rfl) rfl ?_
            obtain ⟨h21, h⟩ := h
            refine V_getR kc13 (pc2 := 55) 84 (dk D_X13_handing 28 rfl) fl_13_247 (by decide) (fun _ => rfl) rfl h21 ?_
            refine V_iload_n (pc2 := 56) (dk D_X13_handing 29 rfl) rfl (V_lg 1 rfl) rfl ?_
            obtain ⟨h22, h⟩ := h
            obtain ⟨h23, h⟩ := h
            refine V_iald (pc2 := 57) (dk D_X13_handing 30 rfl) rfl h22 h23 ?_
            refine V_goto (tgt := 66) (dk D_X13_handing 31 rfl) (by decide) ?_
            exact h
        · have h := h.2 q16
          exact h
    · have h := h.2 q8
      refine V_iconst (x := (-1)) (pc2 := 20) (dk D_X13_handing 10 rfl) (by decide) rfl ?_
      exact V_ireturn (dk D_X13_handing 11 rfl) rfl h
  · have h := h.2 q2
    refine V_bipush (x := (-2)) (pc2 := 9) (dk D_X13_handing 3 rfl) (by decide) rfl ?_
    exact V_ireturn (dk D_X13_handing 4 rfl) rfl h
theorem w_X13_handing_42 {X : Cx} {d : Nat} {S : Mem} {Q : Res → Mem → Prop} (r0 : Nat) (x1 : Int32) (x2 : Int32) (h : V X d MX13_handing 66 [(0, vR r0), (1, vI x1), (2, vI x2)] [vI (-9)] S Q) : V X d MX13_handing 42 [(0, vR r0), (1, vI x1), (2, vI x2)] [] S Q := by
  refine V_bipush (x := (-9)) (pc2 := 44) (dk D_X13_handing 23 rfl) (by decide) rfl ?_
  refine V_goto (tgt := 66) (dk D_X13_handing 24 rfl) (by decide) ?_
  exact h
theorem w_X13_handing_66 {X : Cx} {d : Nat} {S : Mem} {Q : Res → Mem → Prop} (r0 : Nat) (x1 : Int32) (x2 : Int32) (t0 : Int32) (h : Q (.inl (some (vI t0))) S) : V X d MX13_handing 66 [(0, vR r0), (1, vI x1), (2, vI x2)] [vI t0] S Q := by
  exact V_ireturn (dk D_X13_handing 36 rfl) rfl h
def L_X13_tellFailure : List (Nat × Instr × Nat) := [(0, .aload_n 0, 1), (1, .getfield 642, 3), (4, .bipush 40, 2), (6, .if_icmp .ne 4, 3), (9, .return_, 1), (10, .aload_n 0, 1), (11, .getfield 283, 3), (14, .aload_n 0, 1), (15, .getfield 642, 3), (18, .iload_n 1, 1), (19, .iastore, 1), (20, .aload_n 0, 1), (21, .getfield 286, 3), (24, .aload_n 0, 1), (25, .getfield 642, 3), (28, .iload_n 2, 1), (29, .iastore, 1), (30, .aload_n 0, 1), (31, .getfield 289, 3), (34, .aload_n 0, 1), (35, .getfield 642, 3), (38, .iload_n 3, 1), (39, .iastore, 1), (40, .aload_n 0, 1), (41, .dup, 1), (42, .getfield 642, 3), (45, .iconst 1, 1), (46, .iadd, 1), (47, .putfield 642, 3), (50, .aload_n 0, 1), (51, .getfield 268, 3), (54, .iload_n 1, 1), (55, .iaload, 1), (56, .ifCond .lt 17, 3), (59, .aload_n 0, 1), (60, .aload_n 0, 1), (61, .getfield 268, 3), (64, .iload_n 1, 1), (65, .iaload, 1), (66, .iload_n 2, 1), (67, .iconst 1, 1), (68, .iadd, 1), (69, .iconst 1, 1), (70, .invokestatic 645, 3), (73, .aload_n 0, 1), (74, .getfield 271, 3), (77, .iload_n 1, 1), (78, .iaload, 1), (79, .istore 4, 2), (81, .iload 4, 2), (83, .ifCond .lt 34, 3), (86, .aload_n 0, 1), (87, .getfield 642, 3), (90, .bipush 40, 2), (92, .if_icmp .ge 25, 3), (95, .aload_n 0, 1), (96, .iload 4, 2), (98, .iload_n 2, 1), (99, .iconst 1, 1), (100, .iadd, 1), (101, .iconst 2, 1), (102, .invokestatic 645, 3), (105, .aload_n 0, 1), (106, .getfield 277, 3), (109, .iload 4, 2), (111, .iaload, 1), (112, .istore 4, 2), (114, .goto (-33), 3), (117, .return_, 1)]
theorem D_X13_tellFailure : dOk cX13_tellFailure L_X13_tellFailure = true := by decide +kernel
theorem w_X13_tellFailure_0 {X : Cx} {d : Nat} {S : Mem} {Q : Res → Mem → Prop} (r0 : Nat) (x1 : Int32) (x2 : Int32) (x3 : Int32) (h : (isK S r0 13) ∧ ((¬ (gI S r0 102) = 40 → (isK S (gR S r0 99) 21) ∧ (vp_in (gI S r0 102) (gN S (gR S r0 99))) ∧ ∀ S5 : Mem, S5 = uI S (gR S r0 99) (((gI S r0 102) : Int32).toNatClampNeg) x1 → (isK S (gR S r0 100) 21) ∧ (vp_in (gI S5 r0 102) (gN S (gR S r0 100))) ∧ ∀ S8 : Mem, S8 = uI S5 (gR S r0 100) (((gI S5 r0 102) : Int32).toNatClampNeg) x2 → (isK S (gR S r0 101) 21) ∧ (vp_in (gI S8 r0 102) (gN S (gR S r0 101))) ∧ ∀ S11 : Mem, S11 = uI S8 (gR S r0 101) (((gI S8 r0 102) : Int32).toNatClampNeg) x3 → ∀ S12 : Mem, S12 = uI S11 r0 102 ((gI S11 r0 102) + 1) → (isK S (gR S r0 93) 21) ∧ (vp_in x1 (gN S (gR S r0 93))) ∧ (((gI S12 (gR S r0 93) (x1 : Int32).toNatClampNeg) < 0 → V X d MX13_tellFailure 73 [(0, vR r0), (1, vI x1), (2, vI x2), (3, vI x3)] [] S12 Q) ∧ (¬ (gI S12 (gR S r0 93) (x1 : Int32).toNatClampNeg) < 0 → (vp_in x1 (gN S (gR S r0 93))) ∧ ∃ e17 : Nat, e17 + 1 ≤ d ∧ C X e17 MX13_tellFailure [vR r0, vI (gI S12 (gR S r0 93) (x1 : Int32).toNatClampNeg), vI (x2 + 1), vI 1] S12 (RV fun  S20 => V X d MX13_tellFailure 73 [(0, vR r0), (1, vI x1), (2, vI x2), (3, vI x3)] [] S20 Q)))) ∧ ((gI S r0 102) = 40 → Q (.inl none) S))) : V X d MX13_tellFailure 0 [(0, vR r0), (1, vI x1), (2, vI x2), (3, vI x3)] [] S Q := by
  refine V_aload_n (pc2 := 1) (dk D_X13_tellFailure 0 rfl) rfl (V_lg 0 rfl) rfl ?_
  obtain ⟨h1, h⟩ := h
  refine V_getI kc13 (pc2 := 4) 102 (dk D_X13_tellFailure 1 rfl) fl_13_642 (by decide) (fun _ => rfl) rfl h1 ?_
  refine V_bipush (x := 40) (pc2 := 6) (dk D_X13_tellFailure 2 rfl) (by decide) rfl ?_
  refine V_cmpne (tgt := 10) (pc2 := 9) (dk D_X13_tellFailure 3 rfl) (by decide) rfl (fun q2 => ?_) (fun q2 => ?_)
  · have h := h.1 q2
    refine V_aload_n (pc2 := 11) (dk D_X13_tellFailure 5 rfl) rfl (V_lg 0 rfl) rfl ?_
    refine V_getR kc13 (pc2 := 14) 99 (dk D_X13_tellFailure 6 rfl) fl_13_283 (by decide) (fun _ => rfl) rfl h1 ?_
    refine V_aload_n (pc2 := 15) (dk D_X13_tellFailure 7 rfl) rfl (V_lg 0 rfl) rfl ?_
    refine V_getI kc13 (pc2 := 18) 102 (dk D_X13_tellFailure 8 rfl) fl_13_642 (by decide) (fun _ => rfl) rfl h1 ?_
    refine V_iload_n (pc2 := 19) (dk D_X13_tellFailure 9 rfl) rfl (V_lg 1 rfl) rfl ?_
    obtain ⟨h3, h⟩ := h
    obtain ⟨h4, h⟩ := h
    refine V_iast (pc2 := 20) (dk D_X13_tellFailure 10 rfl) rfl h3 h4 ?_
    have h := h _ rfl
    refine V_aload_n (pc2 := 21) (dk D_X13_tellFailure 11 rfl) rfl (V_lg 0 rfl) rfl ?_
    refine V_getR kc13 (pc2 := 24) 100 (dk D_X13_tellFailure 12 rfl) fl_13_286 (by decide) (fun _ => rfl) rfl h1 ?_
    refine V_aload_n (pc2 := 25) (dk D_X13_tellFailure 13 rfl) rfl (V_lg 0 rfl) rfl ?_
    refine V_getI kc13 (pc2 := 28) 102 (dk D_X13_tellFailure 14 rfl) fl_13_642 (by decide) (fun _ => rfl) rfl h1 ?_
    refine V_iload_n (pc2 := 29) (dk D_X13_tellFailure 15 rfl) rfl (V_lg 2 rfl) rfl ?_
    obtain ⟨h6, h⟩ := h
    obtain ⟨h7, h⟩ := h
    refine V_iast (pc2 := 30) (dk D_X13_tellFailure 16 rfl) rfl h6 h7 ?_
    have h := h _ rfl
    refine V_aload_n (pc2 := 31) (dk D_X13_tellFailure 17 rfl) rfl (V_lg 0 rfl) rfl ?_
    refine V_getR kc13 (pc2 := 34) 101 (dk D_X13_tellFailure 18 rfl) fl_13_289 (by decide) (fun _ => rfl) rfl h1 ?_
    refine V_aload_n (pc2 := 35) (dk D_X13_tellFailure 19 rfl) rfl (V_lg 0 rfl) rfl ?_
    refine V_getI kc13 (pc2 := 38) 102 (dk D_X13_tellFailure 20 rfl) fl_13_642 (by decide) (fun _ => rfl) rfl h1 ?_
    refine V_iload_n (pc2 := 39) (dk D_X13_tellFailure 21 rfl) rfl (V_lg 3 rfl) rfl ?_
    obtain ⟨h9, h⟩ := h
    obtain ⟨h10, h⟩ := h
    refine V_iast (pc2 := 40) (dk D_X13_tellFailure 22 rfl) rfl h9 h10 ?_
    have h := h _ rfl
    refine V_aload_n (pc2 := 41) (dk D_X13_tellFailure 23 rfl) rfl (V_lg 0 rfl) rfl ?_
    refine V_dup (pc2 := 42) (dk D_X13_tellFailure 24 rfl) rfl rfl ?_
    refine V_getI kc13 (pc2 := 45) 102 (dk D_X13_tellFailure 25 rfl) fl_13_642 (by decide) (fun _ => rfl) rfl h1 ?_
    refine V_iconst (x := 1) (pc2 := 46) (dk D_X13_tellFailure 26 rfl) (by decide) rfl ?_
    refine V_iadd (pc2 := 47) (dk D_X13_tellFailure 27 rfl) rfl ?_
    refine V_putI kc13 (pc2 := 50) 102 (dk D_X13_tellFailure 28 rfl) fl_13_642 (by decide) (Or.inl rfl) rfl rfl h1 ?_
    have h := h _ rfl
    refine V_aload_n (pc2 := 51) (dk D_X13_tellFailure 29 rfl) rfl (V_lg 0 rfl) rfl ?_
    refine V_getR kc13 (pc2 := 54) 93 (dk D_X13_tellFailure 30 rfl) fl_13_268 (by decide) (fun _ => rfl) rfl h1 ?_
    refine V_iload_n (pc2 := 55) (dk D_X13_tellFailure 31 rfl) rfl (V_lg 1 rfl) rfl ?_
    obtain ⟨h13, h⟩ := h
    obtain ⟨h14, h⟩ := h
    refine V_iald (pc2 := 56) (dk D_X13_tellFailure 32 rfl) rfl h13 h14 ?_
    refine V_iflt (tgt := 73) (pc2 := 59) (dk D_X13_tellFailure 33 rfl) (by decide) rfl (fun q15 => ?_) (fun q15 => ?_)
    · have h := h.1 q15
      exact h
    · have h := h.2 q15
      refine V_aload_n (pc2 := 60) (dk D_X13_tellFailure 34 rfl) rfl (V_lg 0 rfl) rfl ?_
      refine V_aload_n (pc2 := 61) (dk D_X13_tellFailure 35 rfl) rfl (V_lg 0 rfl) rfl ?_
      refine V_getR kc13 (pc2 := 64) 93 (dk D_X13_tellFailure 36 rfl) fl_13_268 (by decide) (fun _ => rfl) rfl h1 ?_
      refine V_iload_n (pc2 := 65) (dk D_X13_tellFailure 37 rfl) rfl (V_lg 1 rfl) rfl ?_
      obtain ⟨h16, h⟩ := h
      refine V_iald (pc2 := 66) (dk D_X13_tellFailure 38 rfl) rfl h13 h16 ?_
      refine V_iload_n (pc2 := 67) (dk D_X13_tellFailure 39 rfl) rfl (V_lg 2 rfl) rfl ?_
      refine V_iconst (x := 1) (pc2 := 68) (dk D_X13_tellFailure 40 rfl) (by decide) rfl ?_
      refine V_iadd (pc2 := 69) (dk D_X13_tellFailure 41 rfl) rfl ?_
      refine V_iconst (x := 1) (pc2 := 70) (dk D_X13_tellFailure 42 rfl) (by decide) rfl ?_
      obtain ⟨e17, he18, hc19⟩ := h
      refine V_callS (as := [_, _, _, _]) (st := []) (M' := MX13_tellFailure) (pc2 := 73) (dk D_X13_tellFailure 43 rfl) ml_13_645 mv_X13_tellFailure rfl rfl (Nat.le_of_ble_eq_true rfl) rfl he18 hc19 (RV.k fun  S20 h => ?_)
      exact h
  · have h := h.2 q2
    exact V_return (dk D_X13_tellFailure 4 rfl) rfl h
theorem w_X13_tellFailure_73 {X : Cx} {d : Nat} {S : Mem} {Q : Res → Mem → Prop} (r0 : Nat) (x1 : Int32) (x2 : Int32) (x3 : Int32) (h : (isK S r0 13) ∧ (isK S (gR S r0 94) 21) ∧ (vp_in x1 (gN S (gR S r0 94))) ∧ V X d MX13_tellFailure 81 [(0, vR r0), (1, vI x1), (2, vI x2), (3, vI x3), (4, vI (gI S (gR S r0 94) (x1 : Int32).toNatClampNeg))] [] S Q) : V X d MX13_tellFailure 73 [(0, vR r0), (1, vI x1), (2, vI x2), (3, vI x3)] [] S Q := by
  refine V_aload_n (pc2 := 74) (dk D_X13_tellFailure 44 rfl) rfl (V_lg 0 rfl) rfl ?_
  obtain ⟨h1, h⟩ := h
  refine V_getR kc13 (pc2 := 77) 94 (dk D_X13_tellFailure 45 rfl) fl_13_271 (by decide) (fun _ => rfl) rfl h1 ?_
  refine V_iload_n (pc2 := 78) (dk D_X13_tellFailure 46 rfl) rfl (V_lg 1 rfl) rfl ?_
  obtain ⟨h2, h⟩ := h
  obtain ⟨h3, h⟩ := h
  refine V_iald (pc2 := 79) (dk D_X13_tellFailure 47 rfl) rfl h2 h3 ?_
  refine V_istore (pc2 := 81) (lv2 := [(0, _), (1, _), (2, _), (3, _), (4, _)]) (dk D_X13_tellFailure 48 rfl) (by decide) rfl rfl ?_
  exact h
theorem w_X13_tellFailure_81 {X : Cx} {d : Nat} {S : Mem} {Q : Res → Mem → Prop} (r0 : Nat) (x1 : Int32) (x2 : Int32) (x3 : Int32) (x4 : Int32) (h : ((x4 < 0 → V X d MX13_tellFailure 117 [(0, vR r0), (1, vI x1), (2, vI x2), (3, vI x3), (4, vI x4)] [] S Q) ∧ (¬ x4 < 0 → (isK S r0 13) ∧ ((40 ≤ (gI S r0 102) → V X d MX13_tellFailure 117 [(0, vR r0), (1, vI x1), (2, vI x2), (3, vI x3), (4, vI x4)] [] S Q) ∧ (¬ 40 ≤ (gI S r0 102) → ∃ e4 : Nat, e4 + 1 ≤ d ∧ C X e4 MX13_tellFailure [vR r0, vI x4, vI (x2 + 1), vI 2] S (RV fun  S7 => (isK S7 r0 13) ∧ (isK S7 (gR S7 r0 96) 21) ∧ (vp_in x4 (gN S7 (gR S7 r0 96))) ∧ V X d MX13_tellFailure 81 [(0, vR r0), (1, vI x1), (2, vI x2), (3, vI x3), (4, vI (gI S7 (gR S7 r0 96) (x4 : Int32).toNatClampNeg))] [] S7 Q)))))) : V X d MX13_tellFailure 81 [(0, vR r0), (1, vI x1), (2, vI x2), (3, vI x3), (4, vI x4)] [] S Q := by
  refine V_iload (pc2 := 83) (dk D_X13_tellFailure 49 rfl) (V_lg 4 rfl) rfl ?_
  refine V_iflt (tgt := 117) (pc2 := 86) (dk D_X13_tellFailure 50 rfl) (by decide) rfl (fun q1 => ?_) (fun q1 => ?_)
  · have h := h.1 q1
    exact h
  · have h := h.2 q1
    refine V_aload_n (pc2 := 87) (dk D_X13_tellFailure 51 rfl) rfl (V_lg 0 rfl) rfl ?_
    obtain ⟨h2, h⟩ := h
    refine V_getI kc13 (pc2 := 90) 102 (dk D_X13_tellFailure 52 rfl) fl_13_642 (by decide) (fun _ => rfl) rfl h2 ?_
    refine V_bipush (x := 40) (pc2 := 92) (dk D_X13_tellFailure 53 rfl) (by decide) rfl ?_
    refine V_cmpge (tgt := 117) (pc2 := 95) (dk D_X13_tellFailure 54 rfl) (by decide) rfl (fun q3 => ?_) (fun q3 => ?_)
    · have h := h.1 q3
      exact h
    · have h := h.2 q3
      refine V_aload_n (pc2 := 96) (dk D_X13_tellFailure 55 rfl) rfl (V_lg 0 rfl) rfl ?_
      refine V_iload (pc2 := 98) (dk D_X13_tellFailure 56 rfl) (V_lg 4 rfl) rfl ?_
      refine V_iload_n (pc2 := 99) (dk D_X13_tellFailure 57 rfl) rfl (V_lg 2 rfl) rfl ?_
      refine V_iconst (x := 1) (pc2 := 100) (dk D_X13_tellFailure 58 rfl) (by decide) rfl ?_
      refine V_iadd (pc2 := 101) (dk D_X13_tellFailure 59 rfl) rfl ?_
      refine V_iconst (x := 2) (pc2 := 102) (dk D_X13_tellFailure 60 rfl) (by decide) rfl ?_
      obtain ⟨e4, he5, hc6⟩ := h
      refine V_callS (as := [_, _, _, _]) (st := []) (M' := MX13_tellFailure) (pc2 := 105) (dk D_X13_tellFailure 61 rfl) ml_13_645 mv_X13_tellFailure rfl rfl (Nat.le_of_ble_eq_true rfl) rfl he5 hc6 (RV.k fun  S7 h => ?_)
      refine V_aload_n (pc2 := 106) (dk D_X13_tellFailure 62 rfl) rfl (V_lg 0 rfl) rfl ?_
      obtain ⟨h8, h⟩ := h
      refine V_getR kc13 (pc2 := 109) 96 (dk D_X13_tellFailure 63 rfl) fl_13_277 (by decide) (fun _ => rfl) rfl h8 ?_
      refine V_iload (pc2 := 111) (dk D_X13_tellFailure 64 rfl) (V_lg 4 rfl) rfl ?_
      obtain ⟨h9, h⟩ := h
      obtain ⟨h10, h⟩ := h
      refine V_iald (pc2 := 112) (dk D_X13_tellFailure 65 rfl) rfl h9 h10 ?_
      refine V_istore (pc2 := 114) (lv2 := [(0, _), (1, _), (2, _), (3, _), (4, _)]) (dk D_X13_tellFailure 66 rfl) (by decide) rfl rfl ?_
      refine V_goto (tgt := 81) (dk D_X13_tellFailure 67 rfl) (by decide) ?_
      exact h
theorem w_X13_tellFailure_117 {X : Cx} {d : Nat} {S : Mem} {Q : Res → Mem → Prop} (r0 : Nat) (x1 : Int32) (x2 : Int32) (x3 : Int32) (x4 : Int32) (h : Q (.inl none) S) : V X d MX13_tellFailure 117 [(0, vR r0), (1, vI x1), (2, vI x2), (3, vI x3), (4, vI x4)] [] S Q := by
  exact V_return (dk D_X13_tellFailure 68 rfl) rfl h
def L_X13_tellFailures : List (Nat × Instr × Nat) := [(0, .aload_n 0, 1), (1, .iconst 0, 1), (2, .putfield 642, 3), (5, .aload_n 0, 1), (6, .getfield 491, 3), (9, .ifCond .lt 13, 3), (12, .aload_n 0, 1), (13, .aload_n 0, 1), (14, .getfield 491, 3), (17, .iconst 0, 1), (18, .iconst 0, 1), (19, .invokestatic 645, 3), (22, .return_, 1)]
theorem D_X13_tellFailures : dOk cX13_tellFailures L_X13_tellFailures = true := by decide +kernel
theorem w_X13_tellFailures_0 {X : Cx} {d : Nat} {S : Mem} {Q : Res → Mem → Prop} (r0 : Nat) (h : (isK S r0 13) ∧ ∀ S2 : Mem, S2 = uI S r0 102 0 → (((gI S2 r0 97) < 0 → V X d MX13_tellFailures 22 [(0, vR r0)] [] S2 Q) ∧ (¬ (gI S2 r0 97) < 0 → ∃ e4 : Nat, e4 + 1 ≤ d ∧ C X e4 MX13_tellFailure [vR r0, vI (gI S2 r0 97), vI 0, vI 0] S2 (RV fun  S7 => V X d MX13_tellFailures 22 [(0, vR r0)] [] S7 Q)))) : V X d MX13_tellFailures 0 [(0, vR r0)] [] S Q := by
  refine V_aload_n (pc2 := 1) (dk D_X13_tellFailures 0 rfl) rfl (V_lg 0 rfl) rfl ?_
  refine V_iconst (x := 0) (pc2 := 2) (dk D_X13_tellFailures 1 rfl) (by decide) rfl ?_
  obtain ⟨h1, h⟩ := h
  refine V_putI kc13 (pc2 := 5) 102 (dk D_X13_tellFailures 2 rfl) fl_13_642 (by decide) (Or.inl rfl) rfl rfl h1 ?_
  have h := h _ rfl
  refine V_aload_n (pc2 := 6) (dk D_X13_tellFailures 3 rfl) rfl (V_lg 0 rfl) rfl ?_
  refine V_getI kc13 (pc2 := 9) 97 (dk D_X13_tellFailures 4 rfl) fl_13_491 (by decide) (fun _ => rfl) rfl h1 ?_
  refine V_iflt (tgt := 22) (pc2 := 12) (dk D_X13_tellFailures 5 rfl) (by decide) rfl (fun q3 => ?_) (fun q3 => ?_)
  · have h := h.1 q3
    exact h
  · have h := h.2 q3
    refine V_aload_n (pc2 := 13) (dk D_X13_tellFailures 6 rfl) rfl (V_lg 0 rfl) rfl ?_
    refine V_aload_n (pc2 := 14) (dk D_X13_tellFailures 7 rfl) rfl (V_lg 0 rfl) rfl ?_
    refine V_getI kc13 (pc2 := 17) 97 (dk D_X13_tellFailures 8 rfl) fl_13_491 (by decide) (fun _ => rfl) rfl h1 ?_
    refine V_iconst (x := 0) (pc2 := 18) (dk D_X13_tellFailures 9 rfl) (by decide) rfl ?_
    refine V_iconst (x := 0) (pc2 := 19) (dk D_X13_tellFailures 10 rfl) (by decide) rfl ?_
    obtain ⟨e4, he5, hc6⟩ := h
    refine V_callS (as := [_, _, _, _]) (st := []) (M' := MX13_tellFailure) (pc2 := 22) (dk D_X13_tellFailures 11 rfl) ml_13_645 mv_X13_tellFailure rfl rfl (Nat.le_of_ble_eq_true rfl) rfl he5 hc6 (RV.k fun  S7 h => ?_)
    exact h
theorem w_X13_tellFailures_22 {X : Cx} {d : Nat} {S : Mem} {Q : Res → Mem → Prop} (r0 : Nat) (h : Q (.inl none) S) : V X d MX13_tellFailures 22 [(0, vR r0)] [] S Q := by
  exact V_return (dk D_X13_tellFailures 12 rfl) rfl h
def L_X13_failures : List (Nat × Instr × Nat) := [(0, .aload_n 0, 1), (1, .getfield 448, 3), (4, .ifCond .ne 6, 3), (7, .bipush (-2), 2), (9, .ireturn, 1), (10, .aload_n 0, 1), (11, .invokevirtual 649, 3), (14, .aload_n 0, 1), (15, .getfield 642, 3), (18, .ireturn, 1)]
theorem D_X13_failures : dOk cX13_failures L_X13_failures = true := by decide +kernel
theorem w_X13_failures_0 {X : Cx} {d : Nat} {S : Mem} {Q : Res → Mem → Prop} (r0 : Nat) (h : (isK S r0 13) ∧ ((¬ (gI S r0 46) = 0 → ∃ e3 : Nat, e3 + 1 ≤ d ∧ C X e3 MX13_tellFailures [vR r0] S (RV fun  S6 => (isK S6 r0 13) ∧ Q (.inl (some (vI (gI S6 r0 102)))) S6)) ∧ ((gI S r0 46) = 0 → Q (.inl (some (vI (-2)))) S))) : V X d MX13_failures 0 [(0, vR r0)] [] S Q := by
  refine V_aload_n (pc2 := 1) (dk D_X13_failures 0 rfl) rfl (V_lg 0 rfl) rfl ?_
  obtain ⟨h1, h⟩ := h
  refine V_getI kc13 (pc2 := 4) 46 (dk D_X13_failures 1 rfl) fl_13_448 (by decide) (fun _ => rfl) rfl h1 ?_
  refine V_ifne (tgt := 10) (pc2 := 7) (dk D_X13_failures 2 rfl) (by decide) rfl (fun q2 => ?_) (fun q2 => ?_)
  · have h := h.1 q2
    refine V_aload_n (pc2 := 11) (dk D_X13_failures 5 rfl) rfl (V_lg 0 rfl) rfl ?_
    obtain ⟨e3, he4, hc5⟩ := h
    refine V_callV (as := []) (st := []) (M' := MX13_tellFailures) (ci := 13) (pc2 := 14) (dk D_X13_failures 6 rfl) ml_13_649 mv_X13_tellFailures rfl rfl (by decide) rfl (Nat.le_of_ble_eq_true rfl) rfl he4 h1 hc5 (RV.k fun  S6 h => ?_)
    refine V_aload_n (pc2 := 15) (dk D_X13_failures 7 rfl) rfl (V_lg 0 rfl) rfl ?_
    obtain ⟨h7, h⟩ := h
    refine V_getI kc13 (pc2 := 18) 102 (dk D_X13_failures 8 rfl) fl_13_642 (by decide) (fun _ => rfl) rfl h7 ?_
    exact V_ireturn (dk D_X13_failures 9 rfl) rfl h
  · have h := h.2 q2
    refine V_bipush (x := (-2)) (pc2 := 9) (dk D_X13_failures 3 rfl) (by decide) rfl ?_
    exact V_ireturn (dk D_X13_failures 4 rfl) rfl h
def L_X13_failure_ : List (Nat × Instr × Nat) := [(0, .aload_n 0, 1), (1, .getfield 448, 3), (4, .ifCond .ne 6, 3), (7, .bipush (-2), 2), (9, .ireturn, 1), (10, .aload_n 0, 1), (11, .invokevirtual 649, 3), (14, .iload_n 1, 1), (15, .iconst 0, 1), (16, .aload_n 0, 1), (17, .getfield 642, 3), (20, .iconst 1, 1), (21, .isub, 1), (22, .invokestatic 292, 3), (25, .ifCond .eq 12, 3), (28, .iload_n 2, 1), (29, .iconst 0, 1), (30, .iconst 5, 1), (31, .invokestatic 292, 3), (34, .ifCond .ne 5, 3), (37, .iconst (-1), 1), (38, .ireturn, 1), (39, .aload_n 0, 1), (40, .getfield 283, 3), (43, .iload_n 1, 1), (44, .iaload, 1), (45, .istore_n 3, 1), (46, .iload_n 2, 1), (47, .tableswitch 68 0 4 #[33, 40, 47, 54, 61], 33), (80, .aload_n 0, 1), (81, .getfield 256, 3), (84, .iload_n 3, 1), (85, .iaload, 1), (86, .ireturn, 1), (87, .aload_n 0, 1), (88, .getfield 259, 3), (91, .iload_n 3, 1), (92, .iaload, 1), (93, .ireturn, 1), (94, .aload_n 0, 1), (95, .getfield 262, 3), (98, .iload_n 3, 1), (99, .iaload, 1), (100, .ireturn, 1), (101, .aload_n 0, 1), (102, .getfield 265, 3), (105, .iload_n 3, 1), (106, .iaload, 1), (107, .ireturn, 1), (108, .aload_n 0, 1), (109, .getfield 286, 3), (112, .iload_n 1, 1), (113, .iaload, 1), (114, .ireturn, 1), (115, .aload_n 0, 1), (116, .getfield 289, 3), (119, .iload_n 1, 1), (120, .iaload, 1), (121, .ireturn, 1)]
theorem D_X13_failure_ : dOk cX13_failure_ L_X13_failure_ = true := by decide +kernel
theorem w_X13_failure__0 {X : Cx} {d : Nat} {S : Mem} {Q : Res → Mem → Prop} (r0 : Nat) (x1 : Int32) (x2 : Int32) (h : (isK S r0 13) ∧ ((¬ (gI S r0 46) = 0 → ∃ e3 : Nat, e3 + 1 ≤ d ∧ C X e3 MX13_tellFailures [vR r0] S (RV fun  S6 => (isK S6 r0 13) ∧ ∃ e8 : Nat, e8 + 1 ≤ d ∧ C X e8 MX13_in [vI x1, vI 0, vI ((gI S6 r0 102) - 1)] S6 (RI fun y11 S12 => ((y11 = 0 → V X d MX13_failure_ 37 [(0, vR r0), (1, vI x1), (2, vI x2)] [] S12 Q) ∧ (¬ y11 = 0 → ∃ e14 : Nat, e14 + 1 ≤ d ∧ C X e14 MX13_in [vI x2, vI 0, vI 5] S12 (RI fun y17 S18 => ((¬ y17 = 0 → (isK S18 r0 13) ∧ (isK S18 (gR S18 r0 99) 21) ∧ (vp_in x1 (gN S18 (gR S18 r0 99))) ∧ ((x2 = 0 → (isK S18 (gR S18 r0 89) 21) ∧ (vp_in (gI S18 (gR S18 r0 99) (x1 : Int32).toNatClampNeg) (gN S18 (gR S18 r0 89))) ∧ Q (.inl (some (vI (gI S18 (gR S18 r0 89) ((gI S18 (gR S18 r0 99) (x1 : Int32).toNatClampNeg) : Int32).toNatClampNeg)))) S18) ∧ (x2 = 1 → (isK S18 (gR S18 r0 90) 21) ∧ (vp_in (gI S18 (gR S18 r0 99) (x1 : Int32).toNatClampNeg) (gN S18 (gR S18 r0 90))) ∧ Q (.inl (some (vI (gI S18 (gR S18 r0 90) ((gI S18 (gR S18 r0 99) (x1 : Int32).toNatClampNeg) : Int32).toNatClampNeg)))) S18) ∧ (x2 = 2 → (isK S18 (gR S18 r0 91) 21) ∧ (vp_in (gI S18 (gR S18 r0 99) (x1 : Int32).toNatClampNeg) (gN S18 (gR S18 r0 91))) ∧ Q (.inl (some (vI (gI S18 (gR S18 r0 91) ((gI S18 (gR S18 r0 99) (x1 : Int32).toNatClampNeg) : Int32).toNatClampNeg)))) S18) ∧ (x2 = 3 → (isK S18 (gR S18 r0 92) 21) ∧ (vp_in (gI S18 (gR S18 r0 99) (x1 : Int32).toNatClampNeg) (gN S18 (gR S18 r0 92))) ∧ Q (.inl (some (vI (gI S18 (gR S18 r0 92) ((gI S18 (gR S18 r0 99) (x1 : Int32).toNatClampNeg) : Int32).toNatClampNeg)))) S18) ∧ (x2 = 4 → (isK S18 (gR S18 r0 100) 21) ∧ (vp_in x1 (gN S18 (gR S18 r0 100))) ∧ Q (.inl (some (vI (gI S18 (gR S18 r0 100) (x1 : Int32).toNatClampNeg)))) S18) ∧ (¬ (x2 = 0 ∨ x2 = 1 ∨ x2 = 2 ∨ x2 = 3 ∨ x2 = 4) → (isK S18 (gR S18 r0 101) 21) ∧ (vp_in x1 (gN S18 (gR S18 r0 101))) ∧ Q (.inl (some (vI (gI S18 (gR S18 r0 101) (x1 : Int32).toNatClampNeg)))) S18))) ∧ (y17 = 0 → V X d MX13_failure_ 37 [(0, vR r0), (1, vI x1), (2, vI x2)] [] S18 Q)))))))) ∧ ((gI S r0 46) = 0 → Q (.inl (some (vI (-2)))) S))) : V X d MX13_failure_ 0 [(0, vR r0), (1, vI x1), (2, vI x2)] [] S Q := by
  refine V_aload_n (pc2 := 1) (dk D_X13_failure_ 0 rfl) rfl (V_lg 0 rfl) rfl ?_
  obtain ⟨h1, h⟩ := h
  refine V_getI kc13 (pc2 := 4) 46 (dk D_X13_failure_ 1 rfl) fl_13_448 (by decide) (fun _ => rfl) rfl h1 ?_
  refine V_ifne (tgt := 10) (pc2 := 7) (dk D_X13_failure_ 2 rfl) (by decide) rfl (fun q2 => ?_) (fun q2 => ?_)
  · have h := h.1 q2
    refine V_aload_n (pc2 := 11) (dk D_X13_failure_ 5 rfl) rfl (V_lg 0 rfl) rfl ?_
    obtain ⟨e3, he4, hc5⟩ := h
    refine V_callV (as := []) (st := []) (M' := MX13_tellFailures) (ci := 13) (pc2 := 14) (dk D_X13_failure_ 6 rfl) ml_13_649 mv_X13_tellFailures rfl rfl (by decide) rfl (Nat.le_of_ble_eq_true rfl) rfl he4 h1 hc5 (RV.k fun  S6 h => ?_)
    refine V_iload_n (pc2 := 15) (dk D_X13_failure_ 7 rfl) rfl (V_lg 1 rfl) rfl ?_
    refine V_iconst (x := 0) (pc2 := 16) (dk D_X13_failure_ 8 rfl) (by decide) rfl ?_
    refine V_aload_n (pc2 := 17) (dk D_X13_failure_ 9 rfl) rfl (V_lg 0 rfl) rfl ?_
    obtain ⟨h7, h⟩ := h
    refine V_getI kc13 (pc2 := 20) 102 (dk D_X13_failure_ 10 rfl) fl_13_642 (by decide) (fun _ => rfl) rfl h7 ?_
    refine V_iconst (x := 1) (pc2 := 21) (dk D_X13_failure_ 11 rfl) (by decide) rfl ?_
    refine V_isub (pc2 := 22) (dk D_X13_failure_ 12 rfl) rfl ?_
    obtain ⟨e8, he9, hc10⟩ := h
    refine V_callS (as := [_, _, _]) (st := []) (M' := MX13_in) (pc2 := 25) (dk D_X13_failure_ 13 rfl) ml_13_292 mv_X13_in rfl rfl (Nat.le_of_ble_eq_true rfl) rfl he9 hc10 (RI.k fun y11 S12 h => ?_)
    refine V_ifeq (tgt := 37) (pc2 := 28) (dk D_X13_failure_ 14 rfl) (by decide) rfl (fun q13 => ?_) (fun q13 => ?_)
    · have h := h.1 q13
      exact h
    · have h := h.2 q13
      refine V_iload_n (pc2 := 29) (dk D_X13_failure_ 15 rfl) rfl (V_lg 2 rfl) rfl ?_
      refine V_iconst (x := 0) (pc2 := 30) (dk D_X13_failure_ 16 rfl) (by decide) rfl ?_
      refine V_iconst (x := 5) (pc2 := 31) (dk D_X13_failure_ 17 rfl) (by decide) rfl ?_
      obtain ⟨e14, he15, hc16⟩ := h
      refine V_callS (as := [_, _, _]) (st := []) (M' := MX13_in) (pc2 := 34) (dk D_X13_failure_ 18 rfl) ml_13_292 mv_X13_in rfl rfl (Nat.le_of_ble_eq_true rfl) rfl he15 hc16 (RI.k fun y17 S18 h => ?_)
      refine V_ifne (tgt := 39) (pc2 := 37) (dk D_X13_failure_ 19 rfl) (by decide) rfl (fun q19 => ?_) (fun q19 => ?_)
      · have h := h.1 q19
        refine V_aload_n (pc2 := 40) (dk D_X13_failure_ 22 rfl) rfl (V_lg 0 rfl) rfl ?_
        obtain ⟨h20, h⟩ := h
        refine V_getR kc13 (pc2 := 43) 99 (dk D_X13_failure_ 23 rfl) fl_13_283 (by decide) (fun _ => rfl) rfl h20 ?_
        refine V_iload_n (pc2 := 44) (dk D_X13_failure_ 24 rfl) rfl (V_lg 1 rfl) rfl ?_
        obtain ⟨h21, h⟩ := h
        obtain ⟨h22, h⟩ := h
        refine V_iald (pc2 := 45) (dk D_X13_failure_ 25 rfl) rfl h21 h22 ?_
        refine V_istore_n (pc2 := 46) (lv2 := [(0, _), (1, _), (2, _), (3, _)]) (dk D_X13_failure_ 26 rfl) rfl (by decide) rfl rfl ?_
        refine V_iload_n (pc2 := 47) (dk D_X13_failure_ 27 rfl) rfl (V_lg 2 rfl) rfl ?_
        refine V_table (dk D_X13_failure_ 28 rfl) [80, 87, 94, 101, 108] 115 (by decide) rfl (by decide) (fun q23 => ?_) (fun j24 hj q23 => ?_)
        · have h := h.2.2.2.2.2 (by rintro (hk | hk | hk | hk | hk) <;> (rw [hk] at q23; revert q23; decide))
          refine V_aload_n (pc2 := 116) (dk D_X13_failure_ 54 rfl) rfl (V_lg 0 rfl) rfl ?_
          refine V_getR kc13 (pc2 := 119) 101 (dk D_X13_failure_ 55 rfl) fl_13_289 (by decide) (fun _ => rfl) rfl h20 ?_
          refine V_iload_n (pc2 := 120) (dk D_X13_failure_ 56 rfl) rfl (V_lg 1 rfl) rfl ?_
          obtain ⟨h27, h⟩ := h
          obtain ⟨h28, h⟩ := h
          refine V_iald (pc2 := 121) (dk D_X13_failure_ 57 rfl) rfl h27 h28 ?_
          exact V_ireturn (dk D_X13_failure_ 58 rfl) rfl h
        · have hj2 : j24 = 0 ∨ j24 = 1 ∨ j24 = 2 ∨ j24 = 3 ∨ j24 = 4 := by simp at hj; omega
          clear hj
          rcases hj2 with rfl | rfl | rfl | rfl | rfl
          · have hx : x2 = 0 := Int32.toInt_inj.mp (by rw [q23]; decide)
            have h := h.1 hx
            refine V_aload_n (pc2 := 81) (dk D_X13_failure_ 29 rfl) rfl (V_lg 0 rfl) rfl ?_
            refine V_getR kc13 (pc2 := 84) 89 (dk D_X13_failure_ 30 rfl) fl_13_256 (by decide) (fun _ => rfl) rfl h20 ?_
            refine V_iload_n (pc2 := 85) (dk D_X13_failure_ 31 rfl) rfl (V_lg 3 rfl) rfl ?_
            obtain ⟨h29, h⟩ := h
            obtain ⟨h30, h⟩ := h
            refine V_iald (pc2 := 86) (dk D_X13_failure_ 32 rfl) rfl h29 h30 ?_
            exact V_ireturn (dk D_X13_failure_ 33 rfl) rfl h
          · have hx : x2 = 1 := Int32.toInt_inj.mp (by rw [q23]; decide)
            have h := h.2.1 hx
            refine V_aload_n (pc2 := 88) (dk D_X13_failure_ 34 rfl) rfl (V_lg 0 rfl) rfl ?_
            refine V_getR kc13 (pc2 := 91) 90 (dk D_X13_failure_ 35 rfl) fl_13_259 (by decide) (fun _ => rfl) rfl h20 ?_
            refine V_iload_n (pc2 := 92) (dk D_X13_failure_ 36 rfl) rfl (V_lg 3 rfl) rfl ?_
            obtain ⟨h31, h⟩ := h
            obtain ⟨h32, h⟩ := h
            refine V_iald (pc2 := 93) (dk D_X13_failure_ 37 rfl) rfl h31 h32 ?_
            exact V_ireturn (dk D_X13_failure_ 38 rfl) rfl h
          · have hx : x2 = 2 := Int32.toInt_inj.mp (by rw [q23]; decide)
            have h := h.2.2.1 hx
            refine V_aload_n (pc2 := 95) (dk D_X13_failure_ 39 rfl) rfl (V_lg 0 rfl) rfl ?_
            refine V_getR kc13 (pc2 := 98) 91 (dk D_X13_failure_ 40 rfl) fl_13_262 (by decide) (fun _ => rfl) rfl h20 ?_
            refine V_iload_n (pc2 := 99) (dk D_X13_failure_ 41 rfl) rfl (V_lg 3 rfl) rfl ?_
            obtain ⟨h33, h⟩ := h
            obtain ⟨h34, h⟩ := h
            refine V_iald (pc2 := 100) (dk D_X13_failure_ 42 rfl) rfl h33 h34 ?_
            exact V_ireturn (dk D_X13_failure_ 43 rfl) rfl h
          · have hx : x2 = 3 := Int32.toInt_inj.mp (by rw [q23]; decide)
            have h := h.2.2.2.1 hx
            refine V_aload_n (pc2 := 102) (dk D_X13_failure_ 44 rfl) rfl (V_lg 0 rfl) rfl ?_
            refine V_getR kc13 (pc2 := 105) 92 (dk D_X13_failure_ 45 rfl) fl_13_265 (by decide) (fun _ => rfl) rfl h20 ?_
            refine V_iload_n (pc2 := 106) (dk D_X13_failure_ 46 rfl) rfl (V_lg 3 rfl) rfl ?_
            obtain ⟨h35, h⟩ := h
            obtain ⟨h36, h⟩ := h
            refine V_iald (pc2 := 107) (dk D_X13_failure_ 47 rfl) rfl h35 h36 ?_
            exact V_ireturn (dk D_X13_failure_ 48 rfl) rfl h
          · have hx : x2 = 4 := Int32.toInt_inj.mp (by rw [q23]; decide)
            have h := h.2.2.2.2.1 hx
            refine V_aload_n (pc2 := 109) (dk D_X13_failure_ 49 rfl) rfl (V_lg 0 rfl) rfl ?_
            refine V_getR kc13 (pc2 := 112) 100 (dk D_X13_failure_ 50 rfl) fl_13_286 (by decide) (fun _ => rfl) rfl h20 ?_
            refine V_iload_n (pc2 := 113) (dk D_X13_failure_ 51 rfl) rfl (V_lg 1 rfl) rfl ?_
            obtain ⟨h37, h⟩ := h
            obtain ⟨h38, h⟩ := h
            refine V_iald (pc2 := 114) (dk D_X13_failure_ 52 rfl) rfl h37 h38 ?_
            exact V_ireturn (dk D_X13_failure_ 53 rfl) rfl h
      · have h := h.2 q19
        exact h
  · have h := h.2 q2
    refine V_bipush (x := (-2)) (pc2 := 9) (dk D_X13_failure_ 3 rfl) (by decide) rfl ?_
    exact V_ireturn (dk D_X13_failure_ 4 rfl) rfl h
theorem w_X13_failure__37 {X : Cx} {d : Nat} {S : Mem} {Q : Res → Mem → Prop} (r0 : Nat) (x1 : Int32) (x2 : Int32) (h : Q (.inl (some (vI (-1)))) S) : V X d MX13_failure_ 37 [(0, vR r0), (1, vI x1), (2, vI x2)] [] S Q := by
  refine V_iconst (x := (-1)) (pc2 := 38) (dk D_X13_failure_ 20 rfl) (by decide) rfl ?_
  exact V_ireturn (dk D_X13_failure_ 21 rfl) rfl h
def L_X13_ring : List (Nat × Instr × Nat) := [(0, .aload_n 0, 1), (1, .getfield 448, 3), (4, .ifCond .ne 8, 3), (7, .bipush (-2), 2), (9, .goto 28, 3), (12, .iload_n 1, 1), (13, .iconst 0, 1), (14, .aload_n 0, 1), (15, .getfield 485, 3), (18, .iconst 1, 1), (19, .isub, 1), (20, .invokestatic 292, 3), (23, .ifCond .eq 12, 3), (26, .aload_n 0, 1), (27, .getfield 253, 3), (30, .iload_n 1, 1), (31, .iaload, 1), (32, .goto 5, 3), (35, .bipush (-9), 2), (37, .ireturn, 1)]
theorem D_X13_ring : dOk cX13_ring L_X13_ring = true := by decide +kernel
theorem w_X13_ring_0 {X : Cx} {d : Nat} {S : Mem} {Q : Res → Mem → Prop} (r0 : Nat) (x1 : Int32) (h : (isK S r0 13) ∧ ((¬ (gI S r0 46) = 0 → ∃ e3 : Nat, e3 + 1 ≤ d ∧ C X e3 MX13_in [vI x1, vI 0, vI ((gI S r0 87) - 1)] S (RI fun y6 S7 => ((y6 = 0 → V X d MX13_ring 37 [(0, vR r0), (1, vI x1)] [vI (-9)] S7 Q) ∧ (¬ y6 = 0 → (isK S7 r0 13) ∧ (isK S7 (gR S7 r0 86) 21) ∧ (vp_in x1 (gN S7 (gR S7 r0 86))) ∧ V X d MX13_ring 37 [(0, vR r0), (1, vI x1)] [vI (gI S7 (gR S7 r0 86) (x1 : Int32).toNatClampNeg)] S7 Q)))) ∧ ((gI S r0 46) = 0 → V X d MX13_ring 37 [(0, vR r0), (1, vI x1)] [vI (-2)] S Q))) : V X d MX13_ring 0 [(0, vR r0), (1, vI x1)] [] S Q := by
  refine V_aload_n (pc2 := 1) (dk D_X13_ring 0 rfl) rfl (V_lg 0 rfl) rfl ?_
  obtain ⟨h1, h⟩ := h
  refine V_getI kc13 (pc2 := 4) 46 (dk D_X13_ring 1 rfl) fl_13_448 (by decide) (fun _ => rfl) rfl h1 ?_
  refine V_ifne (tgt := 12) (pc2 := 7) (dk D_X13_ring 2 rfl) (by decide) rfl (fun q2 => ?_) (fun q2 => ?_)
  · have h := h.1 q2
    refine V_iload_n (pc2 := 13) (dk D_X13_ring 5 rfl) rfl (V_lg 1 rfl) rfl ?_
    refine V_iconst (x := 0) (pc2 := 14) (dk D_X13_ring 6 rfl) (by decide) rfl ?_
    refine V_aload_n (pc2 := 15) (dk D_X13_ring 7 rfl) rfl (V_lg 0 rfl) rfl ?_
    refine V_getI kc13 (pc2 := 18) 87 (dk D_X13_ring 8 rfl) fl_13_485 (by decide) (fun _ => rfl) rfl h1 ?_
    refine V_iconst (x := 1) (pc2 := 19) (dk D_X13_ring 9 rfl) (by decide) rfl ?_
    refine V_isub (pc2 := 20) (dk D_X13_ring 10 rfl) rfl ?_
    obtain ⟨e3, he4, hc5⟩ := h
    refine V_callS (as := [_, _, _]) (st := []) (M' := MX13_in) (pc2 := 23) (dk D_X13_ring 11 rfl) ml_13_292 mv_X13_in rfl rfl (Nat.le_of_ble_eq_true rfl) rfl he4 hc5 (RI.k fun y6 S7 h => ?_)
    refine V_ifeq (tgt := 35) (pc2 := 26) (dk D_X13_ring 12 rfl) (by decide) rfl (fun q8 => ?_) (fun q8 => ?_)
    · have h := h.1 q8
      refine V_bipush (x := (-9)) (pc2 := 37) (dk D_X13_ring 18 rfl) (by decide) rfl ?_
      exact h
    · have h := h.2 q8
      refine V_aload_n (pc2 := 27) (dk D_X13_ring 13 rfl) rfl (V_lg 0 rfl) rfl ?_
      obtain ⟨h9, h⟩ := h
      refine V_getR kc13 (pc2 := 30) 86 (dk D_X13_ring 14 rfl) fl_13_253 (by decide) (fun _ => rfl) rfl h9 ?_
      refine V_iload_n (pc2 := 31) (dk D_X13_ring 15 rfl) rfl (V_lg 1 rfl) rfl ?_
      obtain ⟨h10, h⟩ := h
      obtain ⟨h11, h⟩ := h
      refine V_iald (pc2 := 32) (dk D_X13_ring 16 rfl) rfl h10 h11 ?_
      refine V_goto (tgt := 37) (dk D_X13_ring 17 rfl) (by decide) ?_
      exact h
  · have h := h.2 q2
    refine V_bipush (x := (-2)) (pc2 := 9) (dk D_X13_ring 3 rfl) (by decide) rfl ?_
    refine V_goto (tgt := 37) (dk D_X13_ring 4 rfl) (by decide) ?_
    exact h
theorem w_X13_ring_37 {X : Cx} {d : Nat} {S : Mem} {Q : Res → Mem → Prop} (r0 : Nat) (x1 : Int32) (t0 : Int32) (h : Q (.inl (some (vI t0))) S) : V X d MX13_ring 37 [(0, vR r0), (1, vI x1)] [vI t0] S Q := by
  exact V_ireturn (dk D_X13_ring 19 rfl) rfl h
def L_X13_count : List (Nat × Instr × Nat) := [(0, .aload_n 0, 1), (1, .getfield 448, 3), (4, .ifCond .ne 6, 3), (7, .bipush (-2), 2), (9, .ireturn, 1), (10, .iload_n 1, 1), (11, .tableswitch 66 0 4 #[33, 38, 43, 48, 53], 33), (44, .aload_n 0, 1), (45, .getfield 445, 3), (48, .ireturn, 1), (49, .aload_n 0, 1), (50, .getfield 461, 3), (53, .ireturn, 1), (54, .aload_n 0, 1), (55, .getfield 464, 3), (58, .ireturn, 1), (59, .aload_n 0, 1), (60, .getfield 467, 3), (63, .ireturn, 1), (64, .aload_n 0, 1), (65, .getfield 470, 3), (68, .ifCond .eq 7, 3), (71, .iconst 1, 1), (72, .goto 4, 3), (75, .iconst 0, 1), (76, .ireturn, 1), (77, .iconst (-1), 1), (78, .ireturn, 1)]
theorem D_X13_count : dOk cX13_count L_X13_count = true := by decide +kernel
theorem w_X13_count_0 {X : Cx} {d : Nat} {S : Mem} {Q : Res → Mem → Prop} (r0 : Nat) (x1 : Int32) (h : (isK S r0 13) ∧ ((¬ (gI S r0 46) = 0 → ((x1 = 0 → Q (.inl (some (vI (gI S r0 18)))) S) ∧ (x1 = 1 → Q (.inl (some (vI (gI S r0 47)))) S) ∧ (x1 = 2 → Q (.inl (some (vI (gI S r0 48)))) S) ∧ (x1 = 3 → Q (.inl (some (vI (gI S r0 75)))) S) ∧ (x1 = 4 → (((gI S r0 76) = 0 → V X d MX13_count 76 [(0, vR r0), (1, vI x1)] [vI 0] S Q) ∧ (¬ (gI S r0 76) = 0 → V X d MX13_count 76 [(0, vR r0), (1, vI x1)] [vI 1] S Q))) ∧ (¬ (x1 = 0 ∨ x1 = 1 ∨ x1 = 2 ∨ x1 = 3 ∨ x1 = 4) → Q (.inl (some (vI (-1)))) S))) ∧ ((gI S r0 46) = 0 → Q (.inl (some (vI (-2)))) S))) : V X d MX13_count 0 [(0, vR r0), (1, vI x1)] [] S Q := by
  refine V_aload_n (pc2 := 1) (dk D_X13_count 0 rfl) rfl (V_lg 0 rfl) rfl ?_
  obtain ⟨h1, h⟩ := h
  refine V_getI kc13 (pc2 := 4) 46 (dk D_X13_count 1 rfl) fl_13_448 (by decide) (fun _ => rfl) rfl h1 ?_
  refine V_ifne (tgt := 10) (pc2 := 7) (dk D_X13_count 2 rfl) (by decide) rfl (fun q2 => ?_) (fun q2 => ?_)
  · have h := h.1 q2
    refine V_iload_n (pc2 := 11) (dk D_X13_count 5 rfl) rfl (V_lg 1 rfl) rfl ?_
    refine V_table (dk D_X13_count 6 rfl) [44, 49, 54, 59, 64] 77 (by decide) rfl (by decide) (fun q3 => ?_) (fun j4 hj q3 => ?_)
    · have h := h.2.2.2.2.2 (by rintro (hk | hk | hk | hk | hk) <;> (rw [hk] at q3; revert q3; decide))
      refine V_iconst (x := (-1)) (pc2 := 78) (dk D_X13_count 26 rfl) (by decide) rfl ?_
      exact V_ireturn (dk D_X13_count 27 rfl) rfl h
    · have hj2 : j4 = 0 ∨ j4 = 1 ∨ j4 = 2 ∨ j4 = 3 ∨ j4 = 4 := by simp at hj; omega
      clear hj
      rcases hj2 with rfl | rfl | rfl | rfl | rfl
      · have hx : x1 = 0 := Int32.toInt_inj.mp (by rw [q3]; decide)
        have h := h.1 hx
        refine V_aload_n (pc2 := 45) (dk D_X13_count 7 rfl) rfl (V_lg 0 rfl) rfl ?_
        refine V_getI kc13 (pc2 := 48) 18 (dk D_X13_count 8 rfl) fl_13_445 (by decide) (fun _ => rfl) rfl h1 ?_
        exact V_ireturn (dk D_X13_count 9 rfl) rfl h
      · have hx : x1 = 1 := Int32.toInt_inj.mp (by rw [q3]; decide)
        have h := h.2.1 hx
        refine V_aload_n (pc2 := 50) (dk D_X13_count 10 rfl) rfl (V_lg 0 rfl) rfl ?_
        refine V_getI kc13 (pc2 := 53) 47 (dk D_X13_count 11 rfl) fl_13_461 (by decide) (fun _ => rfl) rfl h1 ?_
        exact V_ireturn (dk D_X13_count 12 rfl) rfl h
      · have hx : x1 = 2 := Int32.toInt_inj.mp (by rw [q3]; decide)
        have h := h.2.2.1 hx
        refine V_aload_n (pc2 := 55) (dk D_X13_count 13 rfl) rfl (V_lg 0 rfl) rfl ?_
        refine V_getI kc13 (pc2 := 58) 48 (dk D_X13_count 14 rfl) fl_13_464 (by decide) (fun _ => rfl) rfl h1 ?_
        exact V_ireturn (dk D_X13_count 15 rfl) rfl h
      · have hx : x1 = 3 := Int32.toInt_inj.mp (by rw [q3]; decide)
        have h := h.2.2.2.1 hx
        refine V_aload_n (pc2 := 60) (dk D_X13_count 16 rfl) rfl (V_lg 0 rfl) rfl ?_
        refine V_getI kc13 (pc2 := 63) 75 (dk D_X13_count 17 rfl) fl_13_467 (by decide) (fun _ => rfl) rfl h1 ?_
        exact V_ireturn (dk D_X13_count 18 rfl) rfl h
      · have hx : x1 = 4 := Int32.toInt_inj.mp (by rw [q3]; decide)
        have h := h.2.2.2.2.1 hx
        refine V_aload_n (pc2 := 65) (dk D_X13_count 19 rfl) rfl (V_lg 0 rfl) rfl ?_
        refine V_getI kc13 (pc2 := 68) 76 (dk D_X13_count 20 rfl) fl_13_470 (by decide) (fun _ => rfl) rfl h1 ?_
        refine V_ifeq (tgt := 75) (pc2 := 71) (dk D_X13_count 21 rfl) (by decide) rfl (fun q5 => ?_) (fun q5 => ?_)
        · have h := h.1 q5
          refine V_iconst (x := 0) (pc2 := 76) (dk D_X13_count 24 rfl) (by decide) rfl ?_
          exact h
        · have h := h.2 q5
          refine V_iconst (x := 1) (pc2 := 72) (dk D_X13_count 22 rfl) (by decide) rfl ?_
          refine V_goto (tgt := 76) (dk D_X13_count 23 rfl) (by decide) ?_
          exact h
  · have h := h.2 q2
    refine V_bipush (x := (-2)) (pc2 := 9) (dk D_X13_count 3 rfl) (by decide) rfl ?_
    exact V_ireturn (dk D_X13_count 4 rfl) rfl h
theorem w_X13_count_76 {X : Cx} {d : Nat} {S : Mem} {Q : Res → Mem → Prop} (r0 : Nat) (x1 : Int32) (t0 : Int32) (h : Q (.inl (some (vI t0))) S) : V X d MX13_count 76 [(0, vR r0), (1, vI x1)] [vI t0] S Q := by
  exact V_ireturn (dk D_X13_count 25 rfl) rfl h
def L_X13_digest : List (Nat × Instr × Nat) := [(0, .aload_n 0, 1), (1, .getfield 448, 3), (4, .ifCond .ne 5, 3), (7, .lconst 0, 1), (8, .lreturn, 1), (9, .ldc2_w 652, 3), (12, .lstore_n 1, 1), (13, .iconst 1, 1), (14, .istore_n 3, 1), (15, .iload_n 3, 1), (16, .aload_n 0, 1), (17, .getfield 461, 3), (20, .if_icmp .gt 121, 3), (23, .iconst 0, 1), (24, .istore 4, 2), (26, .iload 4, 2), (28, .bipush 6, 2), (30, .if_icmp .gt 24, 3), (33, .ldc2_w 654, 3), (36, .lload_n 1, 1), (37, .lmul, 1), (38, .aload_n 0, 1), (39, .iload_n 3, 1), (40, .iload 4, 2), (42, .invokevirtual 638, 3), (45, .i2l, 1), (46, .ladd, 1), (47, .lstore_n 1, 1), (48, .iinc 4 1, 3), (51, .goto (-25), 3), (54, .aload_n 0, 1), (55, .iload_n 3, 1), (56, .invokevirtual 635, 3), (59, .iconst 1, 1), (60, .isub, 1), (61, .istore 4, 2), (63, .iload 4, 2), (65, .ifCond .lt 70, 3), (68, .bipush 60, 2), (70, .aload_n 0, 1), (71, .getfield 189, 3), (74, .iload_n 3, 1), (75, .iaload, 1), (76, .imul, 1), (77, .iload 4, 2), (79, .iadd, 1), (80, .istore 5, 2), (82, .iconst 0, 1), (83, .istore 6, 2), (85, .iload 6, 2), (87, .aload_n 0, 1), (88, .getfield 110, 3), (91, .aload_n 0, 1), (92, .getfield 198, 3), (95, .iload 5, 2), (97, .iaload, 1), (98, .iaload, 1), (99, .if_icmp .ge 30, 3), (102, .ldc2_w 654, 3), (105, .lload_n 1, 1), (106, .lmul, 1), (107, .aload_n 0, 1), (108, .getfield 213, 3), (111, .bipush 40, 2), (113, .iload 5, 2), (115, .imul, 1), (116, .iload 6, 2), (118, .iadd, 1), (119, .iaload, 1), (120, .i2l, 1), (121, .ladd, 1), (122, .lstore_n 1, 1), (123, .iinc 6 1, 3), (126, .goto (-41), 3), (129, .iinc 4 (-1), 3), (132, .goto (-69), 3), (135, .iinc 3 1, 3), (138, .goto (-123), 3), (141, .iconst 0, 1), (142, .istore_n 3, 1), (143, .iload_n 3, 1), (144, .aload_n 0, 1), (145, .getfield 479, 3), (148, .if_icmp .ge 42, 3), (151, .iload_n 3, 1), (152, .sipush 300, 3), (155, .if_icmp .ge 35, 3), (158, .ldc2_w 654, 3), (161, .ldc2_w 654, 3), (164, .lload_n 1, 1), (165, .lmul, 1), (166, .aload_n 0, 1), (167, .getfield 241, 3), (170, .iload_n 3, 1), (171, .iaload, 1), (172, .i2l, 1), (173, .ladd, 1), (174, .lmul, 1), (175, .aload_n 0, 1), (176, .getfield 244, 3), (179, .iload_n 3, 1), (180, .iaload, 1), (181, .i2l, 1), (182, .ladd, 1), (183, .lstore_n 1, 1), (184, .iinc 3 1, 3), (187, .goto (-44), 3), (190, .iconst 0, 1), (191, .istore_n 3, 1), (192, .iload_n 3, 1), (193, .aload_n 0, 1), (194, .getfield 482, 3), (197, .if_icmp .ge 42, 3), (200, .iload_n 3, 1), (201, .sipush 300, 3), (204, .if_icmp .ge 35, 3), (207, .ldc2_w 654, 3), (210, .ldc2_w 654, 3), (213, .lload_n 1, 1), (214, .lmul, 1), (215, .aload_n 0, 1), (216, .getfield 247, 3), (219, .iload_n 3, 1), (220, .iaload, 1), (221, .i2l, 1), (222, .ladd, 1), (223, .lmul, 1), (224, .aload_n 0, 1), (225, .getfield 250, 3), (228, .iload_n 3, 1), (229, .iaload, 1), (230, .i2l, 1), (231, .ladd, 1), (232, .lstore_n 1, 1), (233, .iinc 3 1, 3), (236, .goto (-44), 3), (239, .ldc2_w 654, 3), (242, .lload_n 1, 1), (243, .lmul, 1), (244, .aload_n 0, 1), (245, .getfield 467, 3), (248, .i2l, 1), (249, .ladd, 1), (250, .lreturn, 1)]
theorem D_X13_digest : dOk cX13_digest L_X13_digest = true := by decide +kernel
theorem w_X13_digest_0 {X : Cx} {d : Nat} {S : Mem} {Q : Res → Mem → Prop} (r0 : Nat) (h : (isK S r0 13) ∧ ((¬ (gI S r0 46) = 0 → V X d MX13_digest 15 [(0, vR r0), (1, vL 17), (3, vI 1)] [] S Q) ∧ ((gI S r0 46) = 0 → Q (.inl (some (vL 0))) S))) : V X d MX13_digest 0 [(0, vR r0)] [] S Q := by
  refine V_aload_n (pc2 := 1) (dk D_X13_digest 0 rfl) rfl (V_lg 0 rfl) rfl ?_
  obtain ⟨h1, h⟩ := h
  refine V_getI kc13 (pc2 := 4) 46 (dk D_X13_digest 1 rfl) fl_13_448 (by decide) (fun _ => rfl) rfl h1 ?_
  refine V_ifne (tgt := 9) (pc2 := 7) (dk D_X13_digest 2 rfl) (by decide) rfl (fun q2 => ?_) (fun q2 => ?_)
  · have h := h.1 q2
    refine V_ldc2 (x := 17) (pc2 := 12) (dk D_X13_digest 5 rfl) kl_13_652 rfl ?_
    refine V_lstore_n (pc2 := 13) (lv2 := [(0, _), (1, _)]) (dk D_X13_digest 6 rfl) rfl (by decide) rfl rfl ?_
    refine V_iconst (x := 1) (pc2 := 14) (dk D_X13_digest 7 rfl) (by decide) rfl ?_
    refine V_istore_n (pc2 := 15) (lv2 := [(0, _), (1, _), (3, _)]) (dk D_X13_digest 8 rfl) rfl (by decide) rfl rfl ?_
    exact h
  · have h := h.2 q2
    refine V_lconst (x := 0) (pc2 := 8) (dk D_X13_digest 3 rfl) (by decide) rfl ?_
    exact V_lreturn (dk D_X13_digest 4 rfl) rfl h
theorem w_X13_digest_15 {X : Cx} {d : Nat} {S : Mem} {Q : Res → Mem → Prop} (r0 : Nat) (l1 : Int64) (x3 : Int32) (h : (isK S r0 13) ∧ (((gI S r0 47) < x3 → V X d MX13_digest 143 [(0, vR r0), (1, vL l1), (3, vI 0)] [] S Q) ∧ (¬ (gI S r0 47) < x3 → V X d MX13_digest 26 [(0, vR r0), (1, vL l1), (3, vI x3), (4, vI 0)] [] S Q))) : V X d MX13_digest 15 [(0, vR r0), (1, vL l1), (3, vI x3)] [] S Q := by
  refine V_iload_n (pc2 := 16) (dk D_X13_digest 9 rfl) rfl (V_lg 2 rfl) rfl ?_
  refine V_aload_n (pc2 := 17) (dk D_X13_digest 10 rfl) rfl (V_lg 0 rfl) rfl ?_
  obtain ⟨h1, h⟩ := h
  refine V_getI kc13 (pc2 := 20) 47 (dk D_X13_digest 11 rfl) fl_13_461 (by decide) (fun _ => rfl) rfl h1 ?_
  refine V_cmpgt (tgt := 141) (pc2 := 23) (dk D_X13_digest 12 rfl) (by decide) rfl (fun q2 => ?_) (fun q2 => ?_)
  · have h := h.1 q2
    refine V_iconst (x := 0) (pc2 := 142) (dk D_X13_digest 78 rfl) (by decide) rfl ?_
    refine V_istore_n (pc2 := 143) (lv2 := [(0, _), (1, _), (3, _)]) (dk D_X13_digest 79 rfl) rfl (by decide) rfl rfl ?_
    exact h
  · have h := h.2 q2
    refine V_iconst (x := 0) (pc2 := 24) (dk D_X13_digest 13 rfl) (by decide) rfl ?_
    refine V_istore (pc2 := 26) (lv2 := [(0, _), (1, _), (3, _), (4, _)]) (dk D_X13_digest 14 rfl) (by decide) rfl rfl ?_
    exact h
theorem w_X13_digest_26 {X : Cx} {d : Nat} {S : Mem} {Q : Res → Mem → Prop} (r0 : Nat) (l1 : Int64) (x3 : Int32) (x4 : Int32) (h : ((6 < x4 → (isK S r0 13) ∧ ∃ e2 : Nat, e2 + 1 ≤ d ∧ C X e2 MX13_callMany [vR r0, vI x3] S (RI fun y5 S6 => V X d MX13_digest 63 [(0, vR r0), (1, vL l1), (3, vI x3), (4, vI (y5 - 1))] [] S6 Q)) ∧ (¬ 6 < x4 → (isK S r0 13) ∧ ∃ e8 : Nat, e8 + 1 ≤ d ∧ C X e8 MX13_tellsOf [vR r0, vI x3, vI x4] S (RI fun y11 S12 => V X d MX13_digest 26 [(0, vR r0), (1, vL ((31 * l1) + ((y11 : Int32).toInt64))), (3, vI x3), (4, vI (x4 + 1))] [] S12 Q)))) : V X d MX13_digest 26 [(0, vR r0), (1, vL l1), (3, vI x3), (4, vI x4)] [] S Q := by
  refine V_iload (pc2 := 28) (dk D_X13_digest 15 rfl) (V_lg 3 rfl) rfl ?_
  refine V_bipush (x := 6) (pc2 := 30) (dk D_X13_digest 16 rfl) (by decide) rfl ?_
  refine V_cmpgt (tgt := 54) (pc2 := 33) (dk D_X13_digest 17 rfl) (by decide) rfl (fun q1 => ?_) (fun q1 => ?_)
  · have h := h.1 q1
    refine V_aload_n (pc2 := 55) (dk D_X13_digest 30 rfl) rfl (V_lg 0 rfl) rfl ?_
    refine V_iload_n (pc2 := 56) (dk D_X13_digest 31 rfl) rfl (V_lg 2 rfl) rfl ?_
    obtain ⟨h7, h⟩ := h
    obtain ⟨e2, he3, hc4⟩ := h
    refine V_callV (as := [_]) (st := []) (M' := MX13_callMany) (ci := 13) (pc2 := 59) (dk D_X13_digest 32 rfl) ml_13_635 mv_X13_callMany rfl rfl (by decide) rfl (Nat.le_of_ble_eq_true rfl) rfl he3 h7 hc4 (RI.k fun y5 S6 h => ?_)
    refine V_iconst (x := 1) (pc2 := 60) (dk D_X13_digest 33 rfl) (by decide) rfl ?_
    refine V_isub (pc2 := 61) (dk D_X13_digest 34 rfl) rfl ?_
    refine V_istore (pc2 := 63) (lv2 := [(0, _), (1, _), (3, _), (4, _)]) (dk D_X13_digest 35 rfl) (by decide) rfl rfl ?_
    exact h
  · have h := h.2 q1
    refine V_ldc2 (x := 31) (pc2 := 36) (dk D_X13_digest 18 rfl) kl_13_654 rfl ?_
    refine V_lload_n (pc2 := 37) (dk D_X13_digest 19 rfl) rfl (V_lg 1 rfl) rfl ?_
    refine V_lmul (pc2 := 38) (dk D_X13_digest 20 rfl) rfl ?_
    refine V_aload_n (pc2 := 39) (dk D_X13_digest 21 rfl) rfl (V_lg 0 rfl) rfl ?_
    refine V_iload_n (pc2 := 40) (dk D_X13_digest 22 rfl) rfl (V_lg 2 rfl) rfl ?_
    refine V_iload (pc2 := 42) (dk D_X13_digest 23 rfl) (V_lg 3 rfl) rfl ?_
    obtain ⟨h13, h⟩ := h
    obtain ⟨e8, he9, hc10⟩ := h
    refine V_callV (as := [_, _]) (st := [_]) (M' := MX13_tellsOf) (ci := 13) (pc2 := 45) (dk D_X13_digest 24 rfl) ml_13_638 mv_X13_tellsOf rfl rfl (by decide) rfl (Nat.le_of_ble_eq_true rfl) rfl he9 h13 hc10 (RI.k fun y11 S12 h => ?_)
    refine V_i2l (pc2 := 46) (dk D_X13_digest 25 rfl) rfl ?_
    refine V_ladd (pc2 := 47) (dk D_X13_digest 26 rfl) rfl ?_
    refine V_lstore_n (pc2 := 48) (lv2 := [(0, _), (1, _), (3, _), (4, _)]) (dk D_X13_digest 27 rfl) rfl (by decide) rfl rfl ?_
    refine V_iinc (y := _ + 1) (pc2 := 51) (lv2 := [(0, _), (1, _), (3, _), (4, _)]) (dk D_X13_digest 28 rfl) (V_lg 3 rfl) rfl (by decide) rfl rfl ?_
    refine V_goto (tgt := 26) (dk D_X13_digest 29 rfl) (by decide) ?_
    exact h
theorem w_X13_digest_63 {X : Cx} {d : Nat} {S : Mem} {Q : Res → Mem → Prop} (r0 : Nat) (l1 : Int64) (x3 : Int32) (x4 : Int32) (h : ((x4 < 0 → V X d MX13_digest 15 [(0, vR r0), (1, vL l1), (3, vI (x3 + 1))] [] S Q) ∧ (¬ x4 < 0 → (isK S r0 13) ∧ (isK S (gR S r0 58) 21) ∧ (vp_in x3 (gN S (gR S r0 58))) ∧ V X d MX13_digest 85 [(0, vR r0), (1, vL l1), (3, vI x3), (4, vI x4), (5, vI ((60 * (gI S (gR S r0 58) (x3 : Int32).toNatClampNeg)) + x4)), (6, vI 0)] [] S Q))) : V X d MX13_digest 63 [(0, vR r0), (1, vL l1), (3, vI x3), (4, vI x4)] [] S Q := by
  refine V_iload (pc2 := 65) (dk D_X13_digest 36 rfl) (V_lg 3 rfl) rfl ?_
  refine V_iflt (tgt := 135) (pc2 := 68) (dk D_X13_digest 37 rfl) (by decide) rfl (fun q1 => ?_) (fun q1 => ?_)
  · have h := h.1 q1
    refine V_iinc (y := _ + 1) (pc2 := 138) (lv2 := [(0, _), (1, _), (3, _), (4, _)]) (dk D_X13_digest 76 rfl) (V_lg 2 rfl) rfl (by decide) rfl rfl ?_
    refine V_goto (tgt := 15) (dk D_X13_digest 77 rfl) (by decide) ?_
    refine V_pick [0, 1, 2] (lv2 := [(0, _), (1, _), (3, _)]) rfl ?_
    exact h
  · have h := h.2 q1
    refine V_bipush (x := 60) (pc2 := 70) (dk D_X13_digest 38 rfl) (by decide) rfl ?_
    refine V_aload_n (pc2 := 71) (dk D_X13_digest 39 rfl) rfl (V_lg 0 rfl) rfl ?_
    obtain ⟨h2, h⟩ := h
    refine V_getR kc13 (pc2 := 74) 58 (dk D_X13_digest 40 rfl) fl_13_189 (by decide) (fun _ => rfl) rfl h2 ?_
    refine V_iload_n (pc2 := 75) (dk D_X13_digest 41 rfl) rfl (V_lg 2 rfl) rfl ?_
    obtain ⟨h3, h⟩ := h
    obtain ⟨h4, h⟩ := h
    refine V_iald (pc2 := 76) (dk D_X13_digest 42 rfl) rfl h3 h4 ?_
    refine V_imul (pc2 := 77) (dk D_X13_digest 43 rfl) rfl ?_
    refine V_iload (pc2 := 79) (dk D_X13_digest 44 rfl) (V_lg 3 rfl) rfl ?_
    refine V_iadd (pc2 := 80) (dk D_X13_digest 45 rfl) rfl ?_
    refine V_istore (pc2 := 82) (lv2 := [(0, _), (1, _), (3, _), (4, _), (5, _)]) (dk D_X13_digest 46 rfl) (by decide) rfl rfl ?_
    refine V_iconst (x := 0) (pc2 := 83) (dk D_X13_digest 47 rfl) (by decide) rfl ?_
    refine V_istore (pc2 := 85) (lv2 := [(0, _), (1, _), (3, _), (4, _), (5, _), (6, _)]) (dk D_X13_digest 48 rfl) (by decide) rfl rfl ?_
    exact h
theorem w_X13_digest_85 {X : Cx} {d : Nat} {S : Mem} {Q : Res → Mem → Prop} (r0 : Nat) (l1 : Int64) (x3 : Int32) (x4 : Int32) (x5 : Int32) (x6 : Int32) (h : (isK S r0 13) ∧ (isK S (gR S r0 61) 21) ∧ (vp_in x5 (gN S (gR S r0 61))) ∧ (isK S (gR S r0 21) 21) ∧ (vp_in (gI S (gR S r0 61) (x5 : Int32).toNatClampNeg) (gN S (gR S r0 21))) ∧ (((gI S (gR S r0 21) ((gI S (gR S r0 61) (x5 : Int32).toNatClampNeg) : Int32).toNatClampNeg) ≤ x6 → V X d MX13_digest 63 [(0, vR r0), (1, vL l1), (3, vI x3), (4, vI (x4 + (-1)))] [] S Q) ∧ (¬ (gI S (gR S r0 21) ((gI S (gR S r0 61) (x5 : Int32).toNatClampNeg) : Int32).toNatClampNeg) ≤ x6 → (isK S (gR S r0 66) 21) ∧ (vp_in ((40 * x5) + x6) (gN S (gR S r0 66))) ∧ V X d MX13_digest 85 [(0, vR r0), (1, vL ((31 * l1) + (((gI S (gR S r0 66) (((40 * x5) + x6) : Int32).toNatClampNeg) : Int32).toInt64))), (3, vI x3), (4, vI x4), (5, vI x5), (6, vI (x6 + 1))] [] S Q))) : V X d MX13_digest 85 [(0, vR r0), (1, vL l1), (3, vI x3), (4, vI x4), (5, vI x5), (6, vI x6)] [] S Q := by
  refine V_iload (pc2 := 87) (dk D_X13_digest 49 rfl) (V_lg 5 rfl) rfl ?_
  refine V_aload_n (pc2 := 88) (dk D_X13_digest 50 rfl) rfl (V_lg 0 rfl) rfl ?_
  obtain ⟨h1, h⟩ := h
  refine V_getR kc13 (pc2 := 91) 21 (dk D_X13_digest 51 rfl) fl_13_110 (by decide) (fun _ => rfl) rfl h1 ?_
  refine V_aload_n (pc2 := 92) (dk D_X13_digest 52 rfl) rfl (V_lg 0 rfl) rfl ?_
  refine V_getR kc13 (pc2 := 95) 61 (dk D_X13_digest 53 rfl) fl_13_198 (by decide) (fun _ => rfl) rfl h1 ?_
  refine V_iload (pc2 := 97) (dk D_X13_digest 54 rfl) (V_lg 4 rfl) rfl ?_
  obtain ⟨h2, h⟩ := h
  obtain ⟨h3, h⟩ := h
  refine V_iald (pc2 := 98) (dk D_X13_digest 55 rfl) rfl h2 h3 ?_
  obtain ⟨h4, h⟩ := h
  obtain ⟨h5, h⟩ := h
  refine V_iald (pc2 := 99) (dk D_X13_digest 56 rfl) rfl h4 h5 ?_
  refine V_cmpge (tgt := 129) (pc2 := 102) (dk D_X13_digest 57 rfl) (by decide) rfl (fun q6 => ?_) (fun q6 => ?_)
  · have h := h.1 q6
    refine V_iinc (y := _ + (-1)) (pc2 := 132) (lv2 := [(0, _), (1, _), (3, _), (4, _), (5, _), (6, _)]) (dk D_X13_digest 74 rfl) (V_lg 3 rfl) rfl (by decide) rfl rfl ?_
    refine V_goto (tgt := 63) (dk D_X13_digest 75 rfl) (by decide) ?_
    refine V_pick [0, 1, 2, 3] (lv2 := [(0, _), (1, _), (3, _), (4, _)]) rfl ?_
    exact h
  · have h := h.2 q6
    refine V_ldc2 (x := 31) (pc2 := 105) (dk D_X13_digest 58 rfl) kl_13_654 rfl ?_
    refine V_lload_n (pc2 := 106) (dk D_X13_digest 59 rfl) rfl (V_lg 1 rfl) rfl ?_
    refine V_lmul (pc2 := 107) (dk D_X13_digest 60 rfl) rfl ?_
    refine V_aload_n (pc2 := 108) (dk D_X13_digest 61 rfl) rfl (V_lg 0 rfl) rfl ?_
    refine V_getR kc13 (pc2 := 111) 66 (dk D_X13_digest 62 rfl) fl_13_213 (by decide) (fun _ => rfl) rfl h1 ?_
    refine V_bipush (x := 40) (pc2 := 113) (dk D_X13_digest 63 rfl) (by decide) rfl ?_
    refine V_iload (pc2 := 115) (dk D_X13_digest 64 rfl) (V_lg 4 rfl) rfl ?_
    refine V_imul (pc2 := 116) (dk D_X13_digest 65 rfl) rfl ?_
    refine V_iload (pc2 := 118) (dk D_X13_digest 66 rfl) (V_lg 5 rfl) rfl ?_
    refine V_iadd (pc2 := 119) (dk D_X13_digest 67 rfl) rfl ?_
    obtain ⟨h7, h⟩ := h
    obtain ⟨h8, h⟩ := h
    refine V_iald (pc2 := 120) (dk D_X13_digest 68 rfl) rfl h7 h8 ?_
    refine V_i2l (pc2 := 121) (dk D_X13_digest 69 rfl) rfl ?_
    refine V_ladd (pc2 := 122) (dk D_X13_digest 70 rfl) rfl ?_
    refine V_lstore_n (pc2 := 123) (lv2 := [(0, _), (1, _), (3, _), (4, _), (5, _), (6, _)]) (dk D_X13_digest 71 rfl) rfl (by decide) rfl rfl ?_
    refine V_iinc (y := _ + 1) (pc2 := 126) (lv2 := [(0, _), (1, _), (3, _), (4, _), (5, _), (6, _)]) (dk D_X13_digest 72 rfl) (V_lg 5 rfl) rfl (by decide) rfl rfl ?_
    refine V_goto (tgt := 85) (dk D_X13_digest 73 rfl) (by decide) ?_
    exact h
theorem w_X13_digest_143 {X : Cx} {d : Nat} {S : Mem} {Q : Res → Mem → Prop} (r0 : Nat) (l1 : Int64) (x3 : Int32) (h : (isK S r0 13) ∧ (((gI S r0 80) ≤ x3 → V X d MX13_digest 190 [(0, vR r0), (1, vL l1), (3, vI x3)] [] S Q) ∧ (¬ (gI S r0 80) ≤ x3 → ((300 ≤ x3 → V X d MX13_digest 190 [(0, vR r0), (1, vL l1), (3, vI x3)] [] S Q) ∧ (¬ 300 ≤ x3 → (isK S (gR S r0 81) 21) ∧ (vp_in x3 (gN S (gR S r0 81))) ∧ (isK S (gR S r0 82) 21) ∧ (vp_in x3 (gN S (gR S r0 82))) ∧ V X d MX13_digest 143 [(0, vR r0), (1, vL ((31 * ((31 * l1) + (((gI S (gR S r0 81) (x3 : Int32).toNatClampNeg) : Int32).toInt64))) + (((gI S (gR S r0 82) (x3 : Int32).toNatClampNeg) : Int32).toInt64))), (3, vI (x3 + 1))] [] S Q))))) : V X d MX13_digest 143 [(0, vR r0), (1, vL l1), (3, vI x3)] [] S Q := by
  refine V_iload_n (pc2 := 144) (dk D_X13_digest 80 rfl) rfl (V_lg 2 rfl) rfl ?_
  refine V_aload_n (pc2 := 145) (dk D_X13_digest 81 rfl) rfl (V_lg 0 rfl) rfl ?_
  obtain ⟨h1, h⟩ := h
  refine V_getI kc13 (pc2 := 148) 80 (dk D_X13_digest 82 rfl) fl_13_479 (by decide) (fun _ => rfl) rfl h1 ?_
  refine V_cmpge (tgt := 190) (pc2 := 151) (dk D_X13_digest 83 rfl) (by decide) rfl (fun q2 => ?_) (fun q2 => ?_)
  · have h := h.1 q2
    exact h
  · have h := h.2 q2
    refine V_iload_n (pc2 := 152) (dk D_X13_digest 84 rfl) rfl (V_lg 2 rfl) rfl ?_
    refine V_sipush (x := 300) (pc2 := 155) (dk D_X13_digest 85 rfl) (by decide) rfl ?_
    refine V_cmpge (tgt := 190) (pc2 := 158) (dk D_X13_digest 86 rfl) (by decide) rfl (fun q3 => ?_) (fun q3 => ?_)
    · have h := h.1 q3
      exact h
    · have h := h.2 q3
      refine V_ldc2 (x := 31) (pc2 := 161) (dk D_X13_digest 87 rfl) kl_13_654 rfl ?_
      refine V_ldc2 (x := 31) (pc2 := 164) (dk D_X13_digest 88 rfl) kl_13_654 rfl ?_
      refine V_lload_n (pc2 := 165) (dk D_X13_digest 89 rfl) rfl (V_lg 1 rfl) rfl ?_
      refine V_lmul (pc2 := 166) (dk D_X13_digest 90 rfl) rfl ?_
      refine V_aload_n (pc2 := 167) (dk D_X13_digest 91 rfl) rfl (V_lg 0 rfl) rfl ?_
      refine V_getR kc13 (pc2 := 170) 81 (dk D_X13_digest 92 rfl) fl_13_241 (by decide) (fun _ => rfl) rfl h1 ?_
      refine V_iload_n (pc2 := 171) (dk D_X13_digest 93 rfl) rfl (V_lg 2 rfl) rfl ?_
      obtain ⟨h4, h⟩ := h
      obtain ⟨h5, h⟩ := h
      refine V_iald (pc2 := 172) (dk D_X13_digest 94 rfl) rfl h4 h5 ?_
      refine V_i2l (pc2 := 173) (dk D_X13_digest 95 rfl) rfl ?_
      refine V_ladd (pc2 := 174) (dk D_X13_digest 96 rfl) rfl ?_
      refine V_lmul (pc2 := 175) (dk D_X13_digest 97 rfl) rfl ?_
      refine V_aload_n (pc2 := 176) (dk D_X13_digest 98 rfl) rfl (V_lg 0 rfl) rfl ?_
      refine V_getR kc13 (pc2 := 179) 82 (dk D_X13_digest 99 rfl) fl_13_244 (by decide) (fun _ => rfl) rfl h1 ?_
      refine V_iload_n (pc2 := 180) (dk D_X13_digest 100 rfl) rfl (V_lg 2 rfl) rfl ?_
      obtain ⟨h6, h⟩ := h
      obtain ⟨h7, h⟩ := h
      refine V_iald (pc2 := 181) (dk D_X13_digest 101 rfl) rfl h6 h7 ?_
      refine V_i2l (pc2 := 182) (dk D_X13_digest 102 rfl) rfl ?_
      refine V_ladd (pc2 := 183) (dk D_X13_digest 103 rfl) rfl ?_
      refine V_lstore_n (pc2 := 184) (lv2 := [(0, _), (1, _), (3, _)]) (dk D_X13_digest 104 rfl) rfl (by decide) rfl rfl ?_
      refine V_iinc (y := _ + 1) (pc2 := 187) (lv2 := [(0, _), (1, _), (3, _)]) (dk D_X13_digest 105 rfl) (V_lg 2 rfl) rfl (by decide) rfl rfl ?_
      refine V_goto (tgt := 143) (dk D_X13_digest 106 rfl) (by decide) ?_
      exact h
theorem w_X13_digest_190 {X : Cx} {d : Nat} {S : Mem} {Q : Res → Mem → Prop} (r0 : Nat) (l1 : Int64) (x3 : Int32) (h : V X d MX13_digest 192 [(0, vR r0), (1, vL l1), (3, vI 0)] [] S Q) : V X d MX13_digest 190 [(0, vR r0), (1, vL l1), (3, vI x3)] [] S Q := by
  refine V_iconst (x := 0) (pc2 := 191) (dk D_X13_digest 107 rfl) (by decide) rfl ?_
  refine V_istore_n (pc2 := 192) (lv2 := [(0, _), (1, _), (3, _)]) (dk D_X13_digest 108 rfl) rfl (by decide) rfl rfl ?_
  exact h
theorem w_X13_digest_192 {X : Cx} {d : Nat} {S : Mem} {Q : Res → Mem → Prop} (r0 : Nat) (l1 : Int64) (x3 : Int32) (h : (isK S r0 13) ∧ (((gI S r0 83) ≤ x3 → V X d MX13_digest 239 [(0, vR r0), (1, vL l1), (3, vI x3)] [] S Q) ∧ (¬ (gI S r0 83) ≤ x3 → ((300 ≤ x3 → V X d MX13_digest 239 [(0, vR r0), (1, vL l1), (3, vI x3)] [] S Q) ∧ (¬ 300 ≤ x3 → (isK S (gR S r0 84) 21) ∧ (vp_in x3 (gN S (gR S r0 84))) ∧ (isK S (gR S r0 85) 21) ∧ (vp_in x3 (gN S (gR S r0 85))) ∧ V X d MX13_digest 192 [(0, vR r0), (1, vL ((31 * ((31 * l1) + (((gI S (gR S r0 84) (x3 : Int32).toNatClampNeg) : Int32).toInt64))) + (((gI S (gR S r0 85) (x3 : Int32).toNatClampNeg) : Int32).toInt64))), (3, vI (x3 + 1))] [] S Q))))) : V X d MX13_digest 192 [(0, vR r0), (1, vL l1), (3, vI x3)] [] S Q := by
  refine V_iload_n (pc2 := 193) (dk D_X13_digest 109 rfl) rfl (V_lg 2 rfl) rfl ?_
  refine V_aload_n (pc2 := 194) (dk D_X13_digest 110 rfl) rfl (V_lg 0 rfl) rfl ?_
  obtain ⟨h1, h⟩ := h
  refine V_getI kc13 (pc2 := 197) 83 (dk D_X13_digest 111 rfl) fl_13_482 (by decide) (fun _ => rfl) rfl h1 ?_
  refine V_cmpge (tgt := 239) (pc2 := 200) (dk D_X13_digest 112 rfl) (by decide) rfl (fun q2 => ?_) (fun q2 => ?_)
  · have h := h.1 q2
    exact h
  · have h := h.2 q2
    refine V_iload_n (pc2 := 201) (dk D_X13_digest 113 rfl) rfl (V_lg 2 rfl) rfl ?_
    refine V_sipush (x := 300) (pc2 := 204) (dk D_X13_digest 114 rfl) (by decide) rfl ?_
    refine V_cmpge (tgt := 239) (pc2 := 207) (dk D_X13_digest 115 rfl) (by decide) rfl (fun q3 => ?_) (fun q3 => ?_)
    · have h := h.1 q3
      exact h
    · have h := h.2 q3
      refine V_ldc2 (x := 31) (pc2 := 210) (dk D_X13_digest 116 rfl) kl_13_654 rfl ?_
      refine V_ldc2 (x := 31) (pc2 := 213) (dk D_X13_digest 117 rfl) kl_13_654 rfl ?_
      refine V_lload_n (pc2 := 214) (dk D_X13_digest 118 rfl) rfl (V_lg 1 rfl) rfl ?_
      refine V_lmul (pc2 := 215) (dk D_X13_digest 119 rfl) rfl ?_
      refine V_aload_n (pc2 := 216) (dk D_X13_digest 120 rfl) rfl (V_lg 0 rfl) rfl ?_
      refine V_getR kc13 (pc2 := 219) 84 (dk D_X13_digest 121 rfl) fl_13_247 (by decide) (fun _ => rfl) rfl h1 ?_
      refine V_iload_n (pc2 := 220) (dk D_X13_digest 122 rfl) rfl (V_lg 2 rfl) rfl ?_
      obtain ⟨h4, h⟩ := h
      obtain ⟨h5, h⟩ := h
      refine V_iald (pc2 := 221) (dk D_X13_digest 123 rfl) rfl h4 h5 ?_
      refine V_i2l (pc2 := 222) (dk D_X13_digest 124 rfl) rfl ?_
      refine V_ladd (pc2 := 223) (dk D_X13_digest 125 rfl) rfl ?_
      refine V_lmul (pc2 := 224) (dk D_X13_digest 126 rfl) rfl ?_
      refine V_aload_n (pc2 := 225) (dk D_X13_digest 127 rfl) rfl (V_lg 0 rfl) rfl ?_
      refine V_getR kc13 (pc2 := 228) 85 (dk D_X13_digest 128 rfl) fl_13_250 (by decide) (fun _ => rfl) rfl h1 ?_
      refine V_iload_n (pc2 := 229) (dk D_X13_digest 129 rfl) rfl (V_lg 2 rfl) rfl ?_
      obtain ⟨h6, h⟩ := h
      obtain ⟨h7, h⟩ := h
      refine V_iald (pc2 := 230) (dk D_X13_digest 130 rfl) rfl h6 h7 ?_
      refine V_i2l (pc2 := 231) (dk D_X13_digest 131 rfl) rfl ?_
      refine V_ladd (pc2 := 232) (dk D_X13_digest 132 rfl) rfl ?_
      refine V_lstore_n (pc2 := 233) (lv2 := [(0, _), (1, _), (3, _)]) (dk D_X13_digest 133 rfl) rfl (by decide) rfl rfl ?_
      refine V_iinc (y := _ + 1) (pc2 := 236) (lv2 := [(0, _), (1, _), (3, _)]) (dk D_X13_digest 134 rfl) (V_lg 2 rfl) rfl (by decide) rfl rfl ?_
      refine V_goto (tgt := 192) (dk D_X13_digest 135 rfl) (by decide) ?_
      exact h
theorem w_X13_digest_239 {X : Cx} {d : Nat} {S : Mem} {Q : Res → Mem → Prop} (r0 : Nat) (l1 : Int64) (x3 : Int32) (h : (isK S r0 13) ∧ Q (.inl (some (vL ((31 * l1) + (((gI S r0 75) : Int32).toInt64))))) S) : V X d MX13_digest 239 [(0, vR r0), (1, vL l1), (3, vI x3)] [] S Q := by
  refine V_ldc2 (x := 31) (pc2 := 242) (dk D_X13_digest 136 rfl) kl_13_654 rfl ?_
  refine V_lload_n (pc2 := 243) (dk D_X13_digest 137 rfl) rfl (V_lg 1 rfl) rfl ?_
  refine V_lmul (pc2 := 244) (dk D_X13_digest 138 rfl) rfl ?_
  refine V_aload_n (pc2 := 245) (dk D_X13_digest 139 rfl) rfl (V_lg 0 rfl) rfl ?_
  obtain ⟨h1, h⟩ := h
  refine V_getI kc13 (pc2 := 248) 75 (dk D_X13_digest 140 rfl) fl_13_467 (by decide) (fun _ => rfl) rfl h1 ?_
  refine V_i2l (pc2 := 249) (dk D_X13_digest 141 rfl) rfl ?_
  refine V_ladd (pc2 := 250) (dk D_X13_digest 142 rfl) rfl ?_
  exact V_lreturn (dk D_X13_digest 143 rfl) rfl h
