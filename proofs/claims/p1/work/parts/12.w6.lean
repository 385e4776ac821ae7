def L_X6_init : List (Nat × Instr × Nat) := [(0, .aload_n 0, 1), (1, .invokespecial 3, 3), (4, .aload_n 0, 1), (5, .new 9, 3), (8, .dup, 1), (9, .invokespecial 11, 3), (12, .putfield 12, 3), (15, .aload_n 0, 1), (16, .new 9, 3), (19, .dup, 1), (20, .invokespecial 11, 3), (23, .putfield 18, 3), (26, .aload_n 0, 1), (27, .new 21, 3), (30, .dup, 1), (31, .invokespecial 23, 3), (34, .putfield 24, 3), (37, .aload_n 0, 1), (38, .bipush 61, 2), (40, .anewarray 28, 3), (43, .putfield 30, 3), (46, .aload_n 0, 1), (47, .bipush 12, 2), (49, .anewarray 34, 3), (52, .putfield 36, 3), (55, .aload_n 0, 1), (56, .bipush 12, 2), (58, .newarray .int, 2), (60, .putfield 40, 3), (63, .aload_n 0, 1), (64, .aload_n 1, 1), (65, .putfield 43, 3), (68, .aload_n 0, 1), (69, .aload_n 1, 1), (70, .getfield 47, 3), (73, .putfield 53, 3), (76, .aload_n 0, 1), (77, .getfield 24, 3), (80, .invokevirtual 54, 3), (83, .return_, 1)]
theorem D_X6_init : dOk cX6_init L_X6_init = true := by decide +kernel
theorem w_X6_init_0 {X : Cx} {d : Nat} {S : Mem} {Q : Res → Mem → Prop} (r0 : Nat) (r1 : Nat) (h : (1 ≤ d) ∧ (r0 ≠ 0) ∧ ∀ S3 : Mem, S3 = nw S 4 0 3 → ((tp S) ≠ 0) ∧ ∃ e4 : Nat, e4 + 1 ≤ d ∧ C X e4 MX4_init [vR (tp S)] S3 (RV fun  S7 => (isK S7 r0 6) ∧ ∀ S10 : Mem, S10 = uR S7 r0 0 (tp S) → ∀ S11 : Mem, S11 = nw S10 4 0 3 → ((tp S10) ≠ 0) ∧ ∃ e12 : Nat, e12 + 1 ≤ d ∧ C X e12 MX4_init [vR (tp S10)] S11 (RV fun  S15 => (isK S15 r0 6) ∧ ∀ S18 : Mem, S18 = uR S15 r0 1 (tp S10) → ∀ S19 : Mem, S19 = nw S18 2 0 8 → ((tp S18) ≠ 0) ∧ ∃ e20 : Nat, e20 + 1 ≤ d ∧ C X e20 MX2_init [vR (tp S18)] S19 (RV fun  S23 => (isK S23 r0 6) ∧ ∀ S26 : Mem, S26 = uR S23 r0 2 (tp S18) → ∀ S27 : Mem, S27 = nw S26 25 61 61 → ∀ S28 : Mem, S28 = uR S27 r0 5 (tp S26) → ∀ S29 : Mem, S29 = nw S28 26 12 12 → ∀ S30 : Mem, S30 = uR S29 r0 6 (tp S28) → ∀ S32 : Mem, S32 = nw S30 21 12 12 → ∀ S33 : Mem, S33 = uR S32 r0 7 (tp S30) → ∀ S34 : Mem, S34 = uR S33 r0 3 r1 → (isK S32 r1 7) ∧ ∀ S36 : Mem, S36 = uR S34 r0 4 (gR S34 r1 0) → (isK S32 (gR S36 r0 2) 2) ∧ ∃ e37 : Nat, e37 + 1 ≤ d ∧ C X e37 MX2_clear [vR (gR S36 r0 2)] S36 (RV fun  S40 => Q (.inl none) S40))))) : V X d MX6_init 0 [(0, vR r0), (1, vR r1)] [] S Q := by
  refine V_aload_n (pc2 := 1) (dk D_X6_init 0 rfl) rfl (V_lg 0 rfl) rfl ?_
  obtain ⟨h1, h⟩ := h
  obtain ⟨h2, h⟩ := h
  refine V_obj (pc2 := 4) (dk D_X6_init 1 rfl) ml_6_3 oi_i oi_c rfl (Nat.le_of_ble_eq_true rfl) h1 h2 ?_
  refine V_aload_n (pc2 := 5) (dk D_X6_init 2 rfl) rfl (V_lg 0 rfl) rfl ?_
  refine V_newC kc4 (pc2 := 8) (dk D_X6_init 3 rfl) cl_6_9 it_4 ii_4 (by decide) rfl ?_
  have h := h _ rfl
  refine V_dup (pc2 := 9) (dk D_X6_init 4 rfl) rfl rfl ?_
  obtain ⟨h8, h⟩ := h
  obtain ⟨e4, he5, hc6⟩ := h
  refine V_callIN (as := []) (st := [_, _]) (M' := MX4_init) (pc2 := 12) (dk D_X6_init 5 rfl) ml_6_11 mv_X4_init rfl rfl rfl (Nat.le_of_ble_eq_true rfl) rfl he5 h8 hc6 (RV.k fun  S7 h => ?_)
  obtain ⟨h9, h⟩ := h
  refine V_putR kc6 (pc2 := 15) 0 (dk D_X6_init 6 rfl) fl_6_12 (by decide) (Or.inr ⟨rfl, rfl, rfl⟩) (Or.inl ⟨_, rfl⟩) rfl h9 ?_
  have h := h _ rfl
  refine V_aload_n (pc2 := 16) (dk D_X6_init 7 rfl) rfl (V_lg 0 rfl) rfl ?_
  refine V_newC kc4 (pc2 := 19) (dk D_X6_init 8 rfl) cl_6_9 it_4 ii_4 (by decide) rfl ?_
  have h := h _ rfl
  refine V_dup (pc2 := 20) (dk D_X6_init 9 rfl) rfl rfl ?_
  obtain ⟨h16, h⟩ := h
  obtain ⟨e12, he13, hc14⟩ := h
  refine V_callIN (as := []) (st := [_, _]) (M' := MX4_init) (pc2 := 23) (dk D_X6_init 10 rfl) ml_6_11 mv_X4_init rfl rfl rfl (Nat.le_of_ble_eq_true rfl) rfl he13 h16 hc14 (RV.k fun  S15 h => ?_)
  obtain ⟨h17, h⟩ := h
  refine V_putR kc6 (pc2 := 26) 1 (dk D_X6_init 11 rfl) fl_6_18 (by decide) (Or.inr ⟨rfl, rfl, rfl⟩) (Or.inl ⟨_, rfl⟩) rfl h17 ?_
  have h := h _ rfl
  refine V_aload_n (pc2 := 27) (dk D_X6_init 12 rfl) rfl (V_lg 0 rfl) rfl ?_
  refine V_newC kc2 (pc2 := 30) (dk D_X6_init 13 rfl) cl_6_21 it_2 ii_2 (by decide) rfl ?_
  have h := h _ rfl
  refine V_dup (pc2 := 31) (dk D_X6_init 14 rfl) rfl rfl ?_
  obtain ⟨h24, h⟩ := h
  obtain ⟨e20, he21, hc22⟩ := h
  refine V_callIN (as := []) (st := [_, _]) (M' := MX2_init) (pc2 := 34) (dk D_X6_init 15 rfl) ml_6_23 mv_X2_init rfl rfl rfl (Nat.le_of_ble_eq_true rfl) rfl he21 h24 hc22 (RV.k fun  S23 h => ?_)
  obtain ⟨h25, h⟩ := h
  refine V_putR kc6 (pc2 := 37) 2 (dk D_X6_init 16 rfl) fl_6_24 (by decide) (Or.inr ⟨rfl, rfl, rfl⟩) (Or.inl ⟨_, rfl⟩) rfl h25 ?_
  have h := h _ rfl
  refine V_aload_n (pc2 := 38) (dk D_X6_init 17 rfl) rfl (V_lg 0 rfl) rfl ?_
  refine V_bipush (x := 61) (pc2 := 40) (dk D_X6_init 18 rfl) (by decide) rfl ?_
  refine V_anewO (M := MX6_init) (k := 25) (t0 := 5) (n := 61) (pc2 := 43) (by decide) (by decide) rfl rfl (dk D_X6_init 19 rfl) cl_6_28 ao_25 rfl (litI 61) (Nat.le_of_ble_eq_true rfl) ?_
  have h := h _ rfl
  refine V_putR kc6 (pc2 := 46) 5 (dk D_X6_init 20 rfl) fl_6_30 (by decide) (Or.inr ⟨rfl, rfl, rfl⟩) (Or.inr ⟨_, rfl⟩) rfl (isK_nw h25) ?_
  have h := h _ rfl
  refine V_aload_n (pc2 := 47) (dk D_X6_init 21 rfl) rfl (V_lg 0 rfl) rfl ?_
  refine V_bipush (x := 12) (pc2 := 49) (dk D_X6_init 22 rfl) (by decide) rfl ?_
  refine V_anew26 (M := MX6_init) (n := 12) (pc2 := 52) (dk D_X6_init 23 rfl) cl_6_34 ao_26 rfl (litI 12) (Nat.le_of_ble_eq_true rfl) ?_
  have h := h _ rfl
  refine V_putR kc6 (pc2 := 55) 6 (dk D_X6_init 24 rfl) fl_6_36 (by decide) (Or.inr ⟨rfl, rfl, rfl⟩) (Or.inr ⟨_, rfl⟩) rfl (isK_nw (isK_nw h25)) ?_
  have h := h _ rfl
  refine V_aload_n (pc2 := 56) (dk D_X6_init 25 rfl) rfl (V_lg 0 rfl) rfl ?_
  refine V_bipush (x := 12) (pc2 := 58) (dk D_X6_init 26 rfl) (by decide) rfl ?_
  have hd31 : decode MX6_init.2.1 58 = .ok (.newarray .int, 2) := dk D_X6_init 27 rfl
  refine V_newa21 (n := 12) (pc2 := 60) hd31 ac_21 rfl (litI 12) (Nat.le_of_ble_eq_true rfl) ?_
  have h := h _ rfl
  refine V_putR kc6 (pc2 := 63) 7 (dk D_X6_init 28 rfl) fl_6_40 (by decide) (Or.inr ⟨rfl, rfl, rfl⟩) (Or.inr ⟨_, rfl⟩) rfl (isK_nw (isK_nw (isK_nw h25))) ?_
  have h := h _ rfl
  refine V_aload_n (pc2 := 64) (dk D_X6_init 29 rfl) rfl (V_lg 0 rfl) rfl ?_
  refine V_aload_n (pc2 := 65) (dk D_X6_init 30 rfl) rfl (V_lg 1 rfl) rfl ?_
  refine V_putR kc6 (pc2 := 68) 3 (dk D_X6_init 31 rfl) fl_6_43 (by decide) (Or.inr ⟨rfl, rfl, rfl⟩) (Or.inl ⟨_, rfl⟩) rfl (isK_nw (isK_nw (isK_nw h25))) ?_
  have h := h _ rfl
  refine V_aload_n (pc2 := 69) (dk D_X6_init 32 rfl) rfl (V_lg 0 rfl) rfl ?_
  refine V_aload_n (pc2 := 70) (dk D_X6_init 33 rfl) rfl (V_lg 1 rfl) rfl ?_
  obtain ⟨h35, h⟩ := h
  refine V_getR kc7 (pc2 := 73) 0 (dk D_X6_init 34 rfl) fl_6_47 (by decide) (fun _ => rfl) rfl h35 ?_
  refine V_putR kc6 (pc2 := 76) 4 (dk D_X6_init 35 rfl) fl_6_53 (by decide) (Or.inr ⟨rfl, rfl, rfl⟩) (Or.inl ⟨_, rfl⟩) rfl (isK_nw (isK_nw (isK_nw h25))) ?_
  have h := h _ rfl
  refine V_aload_n (pc2 := 77) (dk D_X6_init 36 rfl) rfl (V_lg 0 rfl) rfl ?_
  refine V_getR kc6 (pc2 := 80) 2 (dk D_X6_init 37 rfl) fl_6_24 (by decide) (fun _ => rfl) rfl (isK_nw (isK_nw (isK_nw h25))) ?_
  obtain ⟨h41, h⟩ := h
  obtain ⟨e37, he38, hc39⟩ := h
  refine V_callV (as := []) (st := []) (M' := MX2_clear) (ci := 2) (pc2 := 83) (dk D_X6_init 38 rfl) ml_6_54 mv_X2_clear rfl rfl (by decide) rfl (Nat.le_of_ble_eq_true rfl) rfl he38 h41 hc39 (RV.k fun  S40 h => ?_)
  exact V_return (dk D_X6_init 39 rfl) rfl h
def L_X6_reset : List (Nat × Instr × Nat) := [(0, .aload_n 0, 1), (1, .invokevirtual 57, 3), (4, .aload_n 0, 1), (5, .getfield 12, 3), (8, .invokevirtual 60, 3), (11, .aload_n 0, 1), (12, .getfield 18, 3), (15, .invokevirtual 60, 3), (18, .aload_n 0, 1), (19, .getfield 24, 3), (22, .invokevirtual 54, 3), (25, .aload_n 0, 1), (26, .iconst 0, 1), (27, .putfield 61, 3), (30, .aload_n 0, 1), (31, .iconst 0, 1), (32, .putfield 65, 3), (35, .aload_n 0, 1), (36, .iconst 0, 1), (37, .putfield 68, 3), (40, .aload_n 0, 1), (41, .iconst 0, 1), (42, .putfield 71, 3), (45, .aload_n 0, 1), (46, .iconst 0, 1), (47, .putfield 74, 3), (50, .aload_n 0, 1), (51, .iconst 0, 1), (52, .putfield 77, 3), (55, .aload_n 0, 1), (56, .iconst 1, 1), (57, .putfield 80, 3), (60, .aload_n 0, 1), (61, .iconst 0, 1), (62, .putfield 83, 3), (65, .aload_n 0, 1), (66, .iconst 0, 1), (67, .putfield 86, 3), (70, .return_, 1)]
theorem D_X6_reset : dOk cX6_reset L_X6_reset = true := by decide +kernel
theorem w_X6_reset_0 {X : Cx} {d : Nat} {S : Mem} {Q : Res → Mem → Prop} (r0 : Nat) (h : (isK S r0 6) ∧ ∃ e1 : Nat, e1 + 1 ≤ d ∧ C X e1 MX6_failAll [vR r0] S (RV fun  S4 => (isK S4 r0 6) ∧ (isK S4 (gR S4 r0 0) 4) ∧ ∃ e7 : Nat, e7 + 1 ≤ d ∧ C X e7 MX4_clear [vR (gR S4 r0 0)] S4 (RV fun  S10 => (isK S10 r0 6) ∧ (isK S10 (gR S10 r0 1) 4) ∧ ∃ e13 : Nat, e13 + 1 ≤ d ∧ C X e13 MX4_clear [vR (gR S10 r0 1)] S10 (RV fun  S16 => (isK S16 r0 6) ∧ (isK S16 (gR S16 r0 2) 2) ∧ ∃ e19 : Nat, e19 + 1 ≤ d ∧ C X e19 MX2_clear [vR (gR S16 r0 2)] S16 (RV fun  S22 => (isK S22 r0 6) ∧ ∀ S25 : Mem, S25 = uI S22 r0 9 0 → ∀ S26 : Mem, S26 = uI S25 r0 10 0 → ∀ S27 : Mem, S27 = uI S26 r0 11 0 → ∀ S28 : Mem, S28 = uI S27 r0 12 0 → ∀ S29 : Mem, S29 = uI S28 r0 13 0 → ∀ S30 : Mem, S30 = uI S29 r0 14 0 → ∀ S31 : Mem, S31 = uI S30 r0 15 1 → ∀ S32 : Mem, S32 = uI S31 r0 16 0 → ∀ S33 : Mem, S33 = uI S32 r0 17 0 → Q (.inl none) S33))))) : V X d MX6_reset 0 [(0, vR r0)] [] S Q := by
  refine V_aload_n (pc2 := 1) (dk D_X6_reset 0 rfl) rfl (V_lg 0 rfl) rfl ?_
  obtain ⟨h5, h⟩ := h
  obtain ⟨e1, he2, hc3⟩ := h
  refine V_callV (as := []) (st := []) (M' := MX6_failAll) (ci := 6) (pc2 := 4) (dk D_X6_reset 1 rfl) ml_6_57 mv_X6_failAll rfl rfl (by decide) rfl (Nat.le_of_ble_eq_true rfl) rfl he2 h5 hc3 (RV.k fun  S4 h => ?_)
  refine V_aload_n (pc2 := 5) (dk D_X6_reset 2 rfl) rfl (V_lg 0 rfl) rfl ?_
  obtain ⟨h6, h⟩ := h
  refine V_getR kc6 (pc2 := 8) 0 (dk D_X6_reset 3 rfl) fl_6_12 (by decide) (fun _ => rfl) rfl h6 ?_
  obtain ⟨h11, h⟩ := h
  obtain ⟨e7, he8, hc9⟩ := h
  refine V_callV (as := []) (st := []) (M' := MX4_clear) (ci := 4) (pc2 := 11) (dk D_X6_reset 4 rfl) ml_6_60 mv_X4_clear rfl rfl (by decide) rfl (Nat.le_of_ble_eq_true rfl) rfl he8 h11 hc9 (RV.k fun  S10 h => ?_)
  refine V_aload_n (pc2 := 12) (dk D_X6_reset 5 rfl) rfl (V_lg 0 rfl) rfl ?_
  obtain ⟨h12, h⟩ := h
  refine V_getR kc6 (pc2 := 15) 1 (dk D_X6_reset 6 rfl) fl_6_18 (by decide) (fun _ => rfl) rfl h12 ?_
  obtain ⟨h17, h⟩ := h
  obtain ⟨e13, he14, hc15⟩ := h
  refine V_callV (as := []) (st := []) (M' := MX4_clear) (ci := 4) (pc2 := 18) (dk D_X6_reset 7 rfl) ml_6_60 mv_X4_clear rfl rfl (by decide) rfl (Nat.le_of_ble_eq_true rfl) rfl he14 h17 hc15 (RV.k fun  S16 h => ?_)
  refine V_aload_n (pc2 := 19) (dk D_X6_reset 8 rfl) rfl (V_lg 0 rfl) rfl ?_
  obtain ⟨h18, h⟩ := h
  refine V_getR kc6 (pc2 := 22) 2 (dk D_X6_reset 9 rfl) fl_6_24 (by decide) (fun _ => rfl) rfl h18 ?_
  obtain ⟨h23, h⟩ := h
  obtain ⟨e19, he20, hc21⟩ := h
  refine V_callV (as := []) (st := []) (M' := MX2_clear) (ci := 2) (pc2 := 25) (dk D_X6_reset 10 rfl) ml_6_54 mv_X2_clear rfl rfl (by decide) rfl (Nat.le_of_ble_eq_true rfl) rfl he20 h23 hc21 (RV.k fun  S22 h => ?_)
  refine V_aload_n (pc2 := 26) (dk D_X6_reset 11 rfl) rfl (V_lg 0 rfl) rfl ?_
  refine V_iconst (x := 0) (pc2 := 27) (dk D_X6_reset 12 rfl) (by decide) rfl ?_
  obtain ⟨h24, h⟩ := h
  refine V_putI kc6 (pc2 := 30) 9 (dk D_X6_reset 13 rfl) fl_6_61 (by decide) (Or.inl rfl) rfl rfl h24 ?_
  have h := h _ rfl
  refine V_aload_n (pc2 := 31) (dk D_X6_reset 14 rfl) rfl (V_lg 0 rfl) rfl ?_
  refine V_iconst (x := 0) (pc2 := 32) (dk D_X6_reset 15 rfl) (by decide) rfl ?_
  refine V_putI kc6 (pc2 := 35) 10 (dk D_X6_reset 16 rfl) fl_6_65 (by decide) (Or.inl rfl) rfl rfl h24 ?_
  have h := h _ rfl
  refine V_aload_n (pc2 := 36) (dk D_X6_reset 17 rfl) rfl (V_lg 0 rfl) rfl ?_
  refine V_iconst (x := 0) (pc2 := 37) (dk D_X6_reset 18 rfl) (by decide) rfl ?_
  refine V_putI kc6 (pc2 := 40) 11 (dk D_X6_reset 19 rfl) fl_6_68 (by decide) (Or.inl rfl) rfl rfl h24 ?_
  have h := h _ rfl
  refine V_aload_n (pc2 := 41) (dk D_X6_reset 20 rfl) rfl (V_lg 0 rfl) rfl ?_
  refine V_iconst (x := 0) (pc2 := 42) (dk D_X6_reset 21 rfl) (by decide) rfl ?_
  refine V_putI kc6 (pc2 := 45) 12 (dk D_X6_reset 22 rfl) fl_6_71 (by decide) (Or.inl rfl) rfl rfl h24 ?_
  have h := h _ rfl
  refine V_aload_n (pc2 := 46) (dk D_X6_reset 23 rfl) rfl (V_lg 0 rfl) rfl ?_
  refine V_iconst (x := 0) (pc2 := 47) (dk D_X6_reset 24 rfl) (by decide) rfl ?_
  refine V_putI kc6 (pc2 := 50) 13 (dk D_X6_reset 25 rfl) fl_6_74 (by decide) (Or.inl rfl) rfl rfl h24 ?_
  have h := h _ rfl
  refine V_aload_n (pc2 := 51) (dk D_X6_reset 26 rfl) rfl (V_lg 0 rfl) rfl ?_
  refine V_iconst (x := 0) (pc2 := 52) (dk D_X6_reset 27 rfl) (by decide) rfl ?_
  refine V_putI kc6 (pc2 := 55) 14 (dk D_X6_reset 28 rfl) fl_6_77 (by decide) (Or.inl rfl) rfl rfl h24 ?_
  have h := h _ rfl
  refine V_aload_n (pc2 := 56) (dk D_X6_reset 29 rfl) rfl (V_lg 0 rfl) rfl ?_
  refine V_iconst (x := 1) (pc2 := 57) (dk D_X6_reset 30 rfl) (by decide) rfl ?_
  refine V_putI kc6 (pc2 := 60) 15 (dk D_X6_reset 31 rfl) fl_6_80 (by decide) (Or.inl rfl) rfl rfl h24 ?_
  have h := h _ rfl
  refine V_aload_n (pc2 := 61) (dk D_X6_reset 32 rfl) rfl (V_lg 0 rfl) rfl ?_
  refine V_iconst (x := 0) (pc2 := 62) (dk D_X6_reset 33 rfl) (by decide) rfl ?_
  refine V_putI kc6 (pc2 := 65) 16 (dk D_X6_reset 34 rfl) fl_6_83 (by decide) (Or.inl rfl) rfl rfl h24 ?_
  have h := h _ rfl
  refine V_aload_n (pc2 := 66) (dk D_X6_reset 35 rfl) rfl (V_lg 0 rfl) rfl ?_
  refine V_iconst (x := 0) (pc2 := 67) (dk D_X6_reset 36 rfl) (by decide) rfl ?_
  refine V_putZ kc6 (pc2 := 70) 17 (dk D_X6_reset 37 rfl) fl_6_86 (by decide) (Or.inl rfl) rfl rfl h24 (Or.inl rfl) ?_
  have h := h _ rfl
  exact V_return (dk D_X6_reset 38 rfl) rfl h
def L_X6_failAll : List (Nat × Instr × Nat) := [(0, .iconst 1, 1), (1, .istore_n 1, 1), (2, .iload_n 1, 1), (3, .aload_n 0, 1), (4, .getfield 65, 3), (7, .if_icmp .gt 32, 3), (10, .aload_n 0, 1), (11, .iload_n 1, 1), (12, .invokevirtual 106, 3), (15, .astore_n 2, 1), (16, .aload_n 2, 1), (17, .ifnull 16, 3), (20, .aload_n 2, 1), (21, .invokevirtual 110, 3), (24, .ifCond .ne 9, 3), (27, .aload_n 0, 1), (28, .aload_n 2, 1), (29, .iconst 5, 1), (30, .invokevirtual 113, 3), (33, .iinc 1 1, 3), (36, .goto (-34), 3), (39, .return_, 1)]
theorem D_X6_failAll : dOk cX6_failAll L_X6_failAll = true := by decide +kernel
theorem w_X6_failAll_0 {X : Cx} {d : Nat} {S : Mem} {Q : Res → Mem → Prop} (r0 : Nat) (h : V X d MX6_failAll 2 [(0, vR r0), (1, vI 1)] [] S Q) : V X d MX6_failAll 0 [(0, vR r0)] [] S Q := by
  refine V_iconst (x := 1) (pc2 := 1) (dk D_X6_failAll 0 rfl) (by decide) rfl ?_
  refine V_istore_n (pc2 := 2) (lv2 := [(0, _), (1, _)]) (dk D_X6_failAll 1 rfl) rfl (by decide) rfl rfl ?_
  exact h
theorem w_X6_failAll_2 {X : Cx} {d : Nat} {S : Mem} {Q : Res → Mem → Prop} (r0 : Nat) (x1 : Int32) (h : (isK S r0 6) ∧ (((gI S r0 10) < x1 → Q (.inl none) S) ∧ (¬ (gI S r0 10) < x1 → ∃ e3 : Nat, e3 + 1 ≤ d ∧ C X e3 MX6_find [vR r0, vI x1] S (RR fun p6 S7 => ((p6 = 0 → V X d MX6_failAll 33 [(0, vR r0), (1, vI x1), (2, vR p6)] [] S7 Q) ∧ (¬ p6 = 0 → (isK S7 p6 10) ∧ ∃ e9 : Nat, e9 + 1 ≤ d ∧ C X e9 MX10_isOver [vR p6] S7 (RI fun y12 S13 => ((¬ y12 = 0 → V X d MX6_failAll 33 [(0, vR r0), (1, vI x1), (2, vR p6)] [] S13 Q) ∧ (y12 = 0 → (isK S13 r0 6) ∧ ∃ e16 : Nat, e16 + 1 ≤ d ∧ C X e16 MX6_end [vR r0, vR p6, vI 5] S13 (RV fun  S19 => V X d MX6_failAll 33 [(0, vR r0), (1, vI x1), (2, vR p6)] [] S19 Q)))))))))) : V X d MX6_failAll 2 [(0, vR r0), (1, vI x1)] [] S Q := by
  refine V_iload_n (pc2 := 3) (dk D_X6_failAll 2 rfl) rfl (V_lg 1 rfl) rfl ?_
  refine V_aload_n (pc2 := 4) (dk D_X6_failAll 3 rfl) rfl (V_lg 0 rfl) rfl ?_
  obtain ⟨h1, h⟩ := h
  refine V_getI kc6 (pc2 := 7) 10 (dk D_X6_failAll 4 rfl) fl_6_65 (by decide) (fun _ => rfl) rfl h1 ?_
  refine V_cmpgt (tgt := 39) (pc2 := 10) (dk D_X6_failAll 5 rfl) (by decide) rfl (fun q2 => ?_) (fun q2 => ?_)
  · have h := h.1 q2
    exact V_return (dk D_X6_failAll 21 rfl) rfl h
  · have h := h.2 q2
    refine V_aload_n (pc2 := 11) (dk D_X6_failAll 6 rfl) rfl (V_lg 0 rfl) rfl ?_
    refine V_iload_n (pc2 := 12) (dk D_X6_failAll 7 rfl) rfl (V_lg 1 rfl) rfl ?_
    obtain ⟨e3, he4, hc5⟩ := h
    refine V_callV (as := [_]) (st := []) (M' := MX6_find) (ci := 6) (pc2 := 15) (dk D_X6_failAll 8 rfl) ml_6_106 mv_X6_find rfl rfl (by decide) rfl (Nat.le_of_ble_eq_true rfl) rfl he4 h1 hc5 (RR.k fun p6 S7 h => ?_)
    refine V_astore_n (pc2 := 16) (lv2 := [(0, _), (1, _), (2, _)]) (dk D_X6_failAll 9 rfl) rfl (by decide) rfl rfl ?_
    refine V_aload_n (pc2 := 17) (dk D_X6_failAll 10 rfl) rfl (V_lg 2 rfl) rfl ?_
    refine V_ifnull (tgt := 33) (pc2 := 20) (dk D_X6_failAll 11 rfl) (by decide) rfl (fun q8 => ?_) (fun q8 => ?_)
    · have h := h.1 q8
      exact h
    · have h := h.2 q8
      refine V_aload_n (pc2 := 21) (dk D_X6_failAll 12 rfl) rfl (V_lg 2 rfl) rfl ?_
      obtain ⟨h14, h⟩ := h
      obtain ⟨e9, he10, hc11⟩ := h
      refine V_callV (as := []) (st := []) (M' := MX10_isOver) (ci := 10) (pc2 := 24) (dk D_X6_failAll 13 rfl) ml_6_110 mv_X10_isOver rfl rfl (by decide) rfl (Nat.le_of_ble_eq_true rfl) rfl he10 h14 hc11 (RI.k fun y12 S13 h => ?_)
      refine V_ifne (tgt := 33) (pc2 := 27) (dk D_X6_failAll 14 rfl) (by decide) rfl (fun q15 => ?_) (fun q15 => ?_)
      · have h := h.1 q15
        exact h
      · have h := h.2 q15
        refine V_aload_n (pc2 := 28) (dk D_X6_failAll 15 rfl) rfl (V_lg 0 rfl) rfl ?_
        refine V_aload_n (pc2 := 29) (dk D_X6_failAll 16 rfl) rfl (V_lg 2 rfl) rfl ?_
        refine V_iconst (x := 5) (pc2 := 30) (dk D_X6_failAll 17 rfl) (by decide) rfl ?_
        obtain ⟨h20, h⟩ := h
        obtain ⟨e16, he17, hc18⟩ := h
        refine V_callV (as := [_, _]) (st := []) (M' := MX6_end) (ci := 6) (pc2 := 33) (dk D_X6_failAll 18 rfl) ml_6_113 mv_X6_end rfl rfl (by decide) rfl (Nat.le_of_ble_eq_true rfl) rfl he17 h20 hc18 (RV.k fun  S19 h => ?_)
        exact h
