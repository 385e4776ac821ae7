def L_X6_init : List (Nat × Instr × Nat) := [(0, .aload_n 0, 1), (1, .invokespecial 3, 3), (4, .aload_n 0, 1), (5, .new 9, 3), (8, .dup, 1), (9, .invokespecial 11, 3), (12, .putfield 12, 3), (15, .aload_n 0, 1), (16, .new 9, 3), (19, .dup, 1), (20, .invokespecial 11, 3), (23, .putfield 18, 3), (26, .aload_n 0, 1), (27, .new 21, 3), (30, .dup, 1), (31, .invokespecial 23, 3), (34, .putfield 24, 3), (37, .aload_n 0, 1), (38, .bipush 61, 2), (40, .anewarray 28, 3), (43, .putfield 30, 3), (46, .aload_n 0, 1), (47, .bipush 12, 2), (49, .anewarray 34, 3), (52, .putfield 36, 3), (55, .aload_n 0, 1), (56, .bipush 12, 2), (58, .newarray .int, 2), (60, .putfield 40, 3), (63, .aload_n 0, 1), (64, .aload_n 1, 1), (65, .putfield 43, 3), (68, .aload_n 0, 1), (69, .aload_n 1, 1), (70, .getfield 47, 3), (73, .putfield 53, 3), (76, .aload_n 0, 1), (77, .getfield 24, 3), (80, .invokevirtual 54, 3), (83, .return_, 1)]
theorem D_X6_init : dOk cX6_init L_X6_init = true := by decide +kernel
theorem w_X6_init_0 {X : Cx} {d : Nat} {S : Mem} {Q : Res → Mem → Prop} (r0 : Nat) (r1 : Nat) (h : (1 ≤ d) ∧ (r0 ≠ 0) ∧ ∀ S3 : Mem, S3 = nw S 4 0 3 → ((tp S) ≠ 0) ∧ ∃ e4 : Nat, e4 + 1 ≤ d ∧ C X e4 MX4_init [vR (tp S)] S3 (RV fun  S7 => (isK S7 r0 6) ∧ ∀ S10 : Mem, S10 = uR S7 r0 0 (tp S) → ∀ S11 : Mem, S11 = nw S10 4 0 3 → ((tp S10) ≠ 0) ∧ ∃ e12 : Nat, e12 + 1 ≤ d ∧ C X e12 MX4_init [vR (tp S10)] S11 (RV fun  S15 => (isK S15 r0 6) ∧ ∀ S18 : Mem, S18 = uR S15 r0 1 (tp S10) → ∀ S19 : Mem, S19 = nw S18 2 0 8 → ((tp S18) ≠ 0) ∧ ∃ e20 : Nat, e20 + 1 ≤ d ∧ C X e20 MX2_init [vR (tp S18)] S19 (RV fun  S23 => (isK S23 r0 6) ∧ ∀ S26 : Mem, S26 = uR S23 r0 2 (tp S18) → ∀ S27 : Mem, S27 = nw S26 25 61 61 → ∀ S28 : Mem, S28 = uR S27 r0 5 (tp S26) → ∀ S29 : Mem, S29 = nw S28 26 12 12 → ∀ S30 : Mem, S30 = uR S29 r0 6 (tp S28) → ∀ S32 : Mem, S32 = nw S30 21 12 12 → ∀ S33 : Mem, S33 = uR S32 r0 7 (tp S30) → ∀ S34 : Mem, S34 = uR S33 r0 3 r1 → (isK S32 r1 7) ∧ ∀ S36 : Mem, S36 = uR S34 r0 4 (gR S34 r1 0) → (isK S32 (gR S36 r0 2) 2) ∧ ∃ e37 : Nat, e37 + 1 ≤ d ∧ C X e37 MX2_clear [vR (gR S36 r0 2)] S36 (RV fun  S40 => Q (.inl none) S40))))) : V X d MX6_init 0 [(0, vR r0), (1, vR r1)] [] S Q := by
  refine V_aload_n (pc2 := 1) (dk D_X6_init 0 rfl) rfl (V_lg 0 rfl) rfl ?_
  obtain ⟨h1, h⟩ := h
  obtain ⟨h2, h⟩ := h
  refine V_obj (pc2 := 4) (dk D_X6_init 1 rfl) ml_6_3 oi_i oi_c rfl (Nat.le_of_ble_eq_true rfl) h1 h2 ?_
  refine V_aload_n (pc2 := 5) (dk D_X6_init 2 rfl) rfl (V_lg 0 rfl) rfl ?_
  refine V_newC kc4 (pc2 := 8) (dk D_X6_init 3 rfl) cl_6_9 it_4 ii_4 (by decide) rfl ?_
  have h := h _ rfl
  refine V_dup (pc2 := 9) (dk D_X6_init 4 rfl) rfl rfl ?_
  obtain ⟨h8, h⟩ := h
  obtain ⟨e4, he5, hc6⟩ := h
  refine V_callIN (as := []) (st := [_, _]) (M' := MX4_init) (pc2 := 12) (dk D_X6_init 5 rfl) ml_6_11 mv_X4_init rfl rfl rfl (Nat.le_of_ble_eq_true rfl) rfl he5 h8 hc6 (RV.k fun  S7 h => ?_)
  obtain ⟨h9, h⟩ := h
  refine V_putR kc6 (pc2 := 15) 0 (dk D_X6_init 6 rfl) fl_6_12 (by decide) (Or.inr ⟨rfl, rfl, rfl⟩) (Or.inl ⟨_, rfl⟩) rfl h9 ?_
  have h := h _ rfl
  refine V_aload_n (pc2 := 16) (dk D_X6_init 7 rfl) rfl (V_lg 0 rfl) rfl ?_
  refine V_newC kc4 (pc2 := 19) (dk D_X6_init 8 rfl) cl_6_9 it_4 ii_4 (by decide) rfl ?_
  have h := h _ rfl
  refine V_dup (pc2 := 20) (dk D_X6_init 9 rfl) rfl rfl ?_
  obtain ⟨h16, h⟩ := h
  obtain ⟨e12, he13, hc14⟩ := h
  refine V_callIN (as := []) (st := [_, _]) (M' := MX4_init) (pc2 := 23) (dk D_X6_init 10 rfl) ml_6_11 mv_X4_init rfl rfl rfl (Nat.le_of_ble_eq_true rfl) rfl he13 h16 hc14 (RV.k fun  S15 h => ?_)
  obtain ⟨h17, h⟩ := h
  refine V_putR kc6 (pc2 := 26) 1 (dk D_X6_init 11 rfl) fl_6_18 (by decide) (Or.inr ⟨rfl, rfl, rfl⟩) (Or.inl ⟨_, rfl⟩) rfl h17 ?_
  have h := h _ rfl
  refine V_aload_n (pc2 := 27) (dk D_X6_init 12 rfl) rfl (V_lg 0 rfl) rfl ?_
  refine V_newC kc2 (pc2 := 30) (dk D_X6_init 13 rfl) cl_6_21 it_2 ii_2 (by decide) rfl ?_
  have h := h _ rfl
  refine V_dup (pc2 := 31) (dk D_X6_init 14 rfl) rfl rfl ?_
  obtain ⟨h24, h⟩ := h
  obtain ⟨e20, he21, hc22⟩ := h
  refine V_callIN (as := []) (st := [_, _]) (M' := MX2_init) (pc2 := 34) (dk D_X6_init 15 rfl) ml_6_23 mv_X2_init rfl rfl rfl (Nat.le_of_ble_eq_true rfl) rfl he21 h24 hc22 (RV.k fun  S23 h => ?_)
  obtain ⟨h25, h⟩ := h
  refine V_putR kc6 (pc2 := 37) 2 (dk D_X6_init 16 rfl) fl_6_24 (by decide) (Or.inr ⟨rfl, rfl, rfl⟩) (Or.inl ⟨_, rfl⟩) rfl h25 ?_
  have h := h _ rfl
  refine V_aload_n (pc2 := 38) (dk D_X6_init 17 rfl) rfl (V_lg 0 rfl) rfl ?_
  refine V_bipush (x := 61) (pc2 := 40) (dk D_X6_init 18 rfl) (by decide) rfl ?_
  refine V_anewO (M := MX6_init) (k := 25) (t0 := 5) (n := 61) (pc2 := 43) (by decide) (by decide) rfl rfl (dk D_X6_init 19 rfl) cl_6_28 ao_25 rfl (litI 61) (Nat.le_of_ble_eq_true rfl) ?_
  have h := h _ rfl
  refine V_putR kc6 (pc2 := 46) 5 (dk D_X6_init 20 rfl) fl_6_30 (by decide) (Or.inr ⟨rfl, rfl, rfl⟩) (Or.inr ⟨_, rfl⟩) rfl (isK_nw h25) ?_
  have h := h _ rfl
  refine V_aload_n (pc2 := 47) (dk D_X6_init 21 rfl) rfl (V_lg 0 rfl) rfl ?_
  refine V_bipush (x := 12) (pc2 := 49) (dk D_X6_init 22 rfl) (by decide) rfl ?_
  refine V_anew26 (M := MX6_init) (n := 12) (pc2 := 52) (dk D_X6_init 23 rfl) cl_6_34 ao_26 rfl (litI 12) (Nat.le_of_ble_eq_true rfl) ?_
  have h := h _ rfl
  refine V_putR kc6 (pc2 := 55) 6 (dk D_X6_init 24 rfl) fl_6_36 (by decide) (Or.inr ⟨rfl, rfl, rfl⟩) (Or.inr ⟨_, rfl⟩) rfl (isK_nw (isK_nw h25)) ?_
  have h := h _ rfl
  refine V_aload_n (pc2 := 56) (dk D_X6_init 25 rfl) rfl (V_lg 0 rfl) rfl ?_
  refine V_bipush (x := 12) (pc2 := 58) (dk D_X6_init 26 rfl) (by decide) rfl ?_
  have hd31 : decode MX6_init.2.1 58 = .ok (.newarray .int, 2) := dk D_X6_init 27 rfl
  refine V_newa21 (n := 12) (pc2 := 60) hd31 ac_21 rfl (litI 12) (Nat.le_of_ble_eq_true rfl) ?_
  have h := h _ rfl
  refine V_putR kc6 (pc2 := 63) 7 (dk D_X6_init 28 rfl) fl_6_40 (by decide) (Or.inr ⟨rfl, rfl, rfl⟩) (Or.inr ⟨_, rfl⟩) rfl (isK_nw (isK_nw (isK_nw h25))) ?_
  have h := h _ rfl
  refine V_aload_n (pc2 := 64) (dk D_X6_init 29 rfl) rfl (V_lg 0 rfl) rfl ?_
  refine V_aload_n (pc2 := 65) (dk D_X6_init 30 rfl) rfl (V_lg 1 rfl) rfl ?_
  refine V_putR kc6 (pc2 := 68) 3 (dk D_X6_init 31 rfl) fl_6_43 (by decide) (Or.inr ⟨rfl, rfl, rfl⟩) (Or.inl ⟨_, rfl⟩) rfl (isK_nw (isK_nw (isK_nw h25))) ?_
  have h := h _ rfl
  refine V_aload_n (pc2 := 69) (dk D_X6_init 32 rfl) rfl (V_lg 0 rfl) rfl ?_
  refine V_aload_n (pc2 := 70) (dk D_X6_init 33 rfl) rfl (V_lg 1 rfl) rfl ?_
  obtain ⟨h35, h⟩ := h
  refine V_getR kc7 (pc2 := 73) 0 (dk D_X6_init 34 rfl) fl_6_47 (by decide) (fun _ => rfl) rfl h35 ?_
  refine V_putR kc6 (pc2 := 76) 4 (dk D_X6_init 35 rfl) fl_6_53 (by decide) (Or.inr ⟨rfl, rfl, rfl⟩) (Or.inl ⟨_, rfl⟩) rfl (isK_nw (isK_nw (isK_nw h25))) ?_
  have h := h _ rfl
  refine V_aload_n (pc2 := 77) (dk D_X6_init 36 rfl) rfl (V_lg 0 rfl) rfl ?_
  refine V_getR kc6 (pc2 := 80) 2 (dk D_X6_init 37 rfl) fl_6_24 (by decide) (fun _ => rfl) rfl (isK_nw (isK_nw (isK_nw h25))) ?_
  obtain ⟨h41, h⟩ := h
  obtain ⟨e37, he38, hc39⟩ := h
  refine V_callV (as := []) (st := []) (M' := MX2_clear) (ci := 2) (pc2 := 83) (dk D_X6_init 38 rfl) ml_6_54 mv_X2_clear rfl rfl (by decide) rfl (Nat.le_of_ble_eq_true rfl) rfl he38 h41 hc39 (RV.k fun  S40 h => ?_)
  exact V_return (dk D_X6_init 39 rfl) rfl h
def L_X6_reset : List (Nat × Instr × Nat) := [(0, .aload_n 0, 1), (1, .invokevirtual 57, 3), (4, .aload_n 0, 1), (5, .getfield 12, 3), (8, .invokevirtual 60, 3), (11, .aload_n 0, 1), (12, .getfield 18, 3), (15, .invokevirtual 60, 3), (18, .aload_n 0, 1), (19, .getfield 24, 3), (22, .invokevirtual 54, 3), (25, .aload_n 0, 1), (26, .iconst 0, 1), (27, .putfield 61, 3), (30, .aload_n 0, 1), (31, .iconst 0, 1), (32, .putfield 65, 3), (35, .aload_n 0, 1), (36, .iconst 0, 1), (37, .putfield 68, 3), (40, .aload_n 0, 1), (41, .iconst 0, 1), (42, .putfield 71, 3), (45, .aload_n 0, 1), (46, .iconst 0, 1), (47, .putfield 74, 3), (50, .aload_n 0, 1), (51, .iconst 0, 1), (52, .putfield 77, 3), (55, .aload_n 0, 1), (56, .iconst 1, 1), (57, .putfield 80, 3), (60, .aload_n 0, 1), (61, .iconst 0, 1), (62, .putfield 83, 3), (65, .aload_n 0, 1), (66, .iconst 0, 1), (67, .putfield 86, 3), (70, .return_, 1)]
theorem D_X6_reset : dOk cX6_reset L_X6_reset = true := by decide +kernel
theorem w_X6_reset_0 {X : Cx} {d : Nat} {S : Mem} {Q : Res → Mem → Prop} (r0 : Nat) (h : (isK S r0 6) ∧ ∃ e1 : Nat, e1 + 1 ≤ d ∧ C X e1 MX6_failAll [vR r0] S (RV fun  S4 => (isK S4 r0 6) ∧ (isK S4 (gR S4 r0 0) 4) ∧ ∃ e7 : Nat, e7 + 1 ≤ d ∧ C X e7 MX4_clear [vR (gR S4 r0 0)] S4 (RV fun  S10 => (isK S10 r0 6) ∧ (isK S10 (gR S10 r0 1) 4) ∧ ∃ e13 : Nat, e13 + 1 ≤ d ∧ C X e13 MX4_clear [vR (gR S10 r0 1)] S10 (RV fun  S16 => (isK S16 r0 6) ∧ (isK S16 (gR S16 r0 2) 2) ∧ ∃ e19 : Nat, e19 + 1 ≤ d ∧ C X e19 MX2_clear [vR (gR S16 r0 2)] S16 (RV fun  S22 => (isK S22 r0 6) ∧ ∀ S25 : Mem, S25 = uI S22 r0 9 0 → ∀ S26 : Mem, S26 = uI S25 r0 10 0 → ∀ S27 : Mem, S27 = uI S26 r0 11 0 → ∀ S28 : Mem, S28 = uI S27 r0 12 0 → ∀ S29 : Mem, S29 = uI S28 r0 13 0 → ∀ S30 : Mem, S30 = uI S29 r0 14 0 → ∀ S31 : Mem, S31 = uI S30 r0 15 1 → ∀ S32 : Mem, S32 = uI S31 r0 16 0 → ∀ S33 : Mem, S33 = uI S32 r0 17 0 → Q (.inl none) S33))))) : V X d MX6_reset 0 [(0, vR r0)] [] S Q := by
  refine V_aload_n (pc2 := 1) (dk D_X6_reset 0 rfl) rfl (V_lg 0 rfl) rfl ?_
  obtain ⟨h5, h⟩ := h
  obtain ⟨e1, he2, hc3⟩ := h
  refine V_callV (as := []) (st := []) (M' := MX6_failAll) (ci := 6) (pc2 := 4) (dk D_X6_reset 1 rfl) ml_6_57 mv_X6_failAll rfl rfl (by decide) rfl (Nat.le_of_ble_eq_true rfl) rfl he2 h5 hc3 (RV.k fun  S4 h => ?_)
  refine V_aload_n (pc2 := 5) (dk D_X6_reset 2 rfl) rfl (V_lg 0 rfl) rfl ?_
  obtain ⟨h6, h⟩ := h
  refine V_getR kc6 (pc2 := 8) 0 (dk D_X6_reset 3 rfl) fl_6_12 (by decide) (fun _ => rfl) rfl h6 ?_
  obtain ⟨h11, h⟩ := h
  obtain ⟨e7, he8, hc9⟩ := h
  refine V_callV (as := []) (st := []) (M' := MX4_clear) (ci := 4) (pc2 := 11) (dk D_X6_reset 4 rfl) ml_6_60 mv_X4_clear rfl rfl (by decide) rfl (Nat.le_of_ble_eq_true rfl) rfl he8 h11 hc9 (RV.k fun  S10 h => ?_)
  refine V_aload_n (pc2 := 12) (dk D_X6_reset 5 rfl) rfl (V_lg 0 rfl) rfl ?_
  obtain ⟨h12, h⟩ := h
  refine V_getR kc6 (pc2 := 15) 1 (dk D_X6_reset 6 rfl) fl_6_18 (by decide) (fun _ => rfl) rfl h12 ?_
  obtain ⟨h17, h⟩ := h
  obtain ⟨e13, he14, hc15⟩ := h
  refine V_callV (as := []) (st := []) (M' := MX4_clear) (ci := 4) (pc2 := 18) (dk D_X6_reset 7 rfl) ml_6_60 mv_X4_clear rfl rfl (by decide) rfl (Nat.le_of_ble_eq_true rfl) rfl he14 h17 hc15 (RV.k fun  S16 h => ?_)
  refine V_aload_n (pc2 := 19) (dk D_X6_reset 8 rfl) rfl (V_lg 0 rfl) rfl ?_
  obtain ⟨h18, h⟩ := h
  refine V_getR kc6 (pc2 := 22) 2 (dk D_X6_reset 9 rfl) fl_6_24 (by decide) (fun _ => rfl) rfl h18 ?_
  obtain ⟨h23, h⟩ := h
  obtain ⟨e19, he20, hc21⟩ := h
  refine V_callV (as := []) (st := []) (M' := MX2_clear) (ci := 2) (pc2 := 25) (dk D_X6_reset 10 rfl) ml_6_54 mv_X2_clear rfl rfl (by decide) rfl (Nat.le_of_ble_eq_true rfl) rfl he20 h23 hc21 (RV.k fun  S22 h => ?_)
  refine V_aload_n (pc2 := 26) (dk D_X6_reset 11 rfl) rfl (V_lg 0 rfl) rfl ?_
  refine V_iconst (x := 0) (pc2 := 27) (dk D_X6_reset 12 rfl) (by decide) rfl ?_
  obtain ⟨h24, h⟩ := h
  refine V_putI kc6 (pc2 := 30) 9 (dk D_X6_reset 13 rfl) fl_6_61 (by decide) (Or.inl rfl) rfl rfl h24 ?_
  have h := h _ rfl
  refine V_aload_n (pc2 := 31) (dk D_X6_reset 14 rfl) rfl (V_lg 0 rfl) rfl ?_
  refine V_iconst (x := 0) (pc2 := 32) (dk D_X6_reset 15 rfl) (by decide) rfl ?_
  refine V_putI kc6 (pc2 := 35) 10 (dk D_X6_reset 16 rfl) fl_6_65 (by decide) (Or.inl rfl) rfl rfl h24 ?_
  have h := h _ rfl
  refine V_aload_n (pc2 := 36) (dk D_X6_reset 17 rfl) rfl (V_lg 0 rfl) rfl ?_
  refine V_iconst (x := 0) (pc2 := 37) (dk D_X6_reset 18 rfl) (by decide) rfl ?_
  refine V_putI kc6 (pc2 := 40) 11 (dk D_X6_reset 19 rfl) fl_6_68 (by decide) (Or.inl rfl) rfl rfl h24 ?_
  have h := h _ rfl
  refine V_aload_n (pc2 := 41) (dk D_X6_reset 20 rfl) rfl (V_lg 0 rfl) rfl ?_
  refine V_iconst (x := 0) (pc2 := 42) (dk D_X6_reset 21 rfl) (by decide) rfl ?_
  refine V_putI kc6 (pc2 := 45) 12 (dk D_X6_reset 22 rfl) fl_6_71 (by decide) (Or.inl rfl) rfl rfl h24 ?_
  have h := h _ rfl
  refine V_aload_n (pc2 := 46) (dk D_X6_reset 23 rfl) rfl (V_lg 0 rfl) rfl ?_
  refine V_iconst (x := 0) (pc2 := 47) (dk D_X6_reset 24 rfl) (by decide) rfl ?_
  refine V_putI kc6 (pc2 := 50) 13 (dk D_X6_reset 25 rfl) fl_6_74 (by decide) (Or.inl rfl) rfl rfl h24 ?_
  have h := h _ rfl
  refine V_aload_n (pc2 := 51) (dk D_X6_reset 26 rfl) rfl (V_lg 0 rfl) rfl ?_
  refine V_iconst (x := 0) (pc2 := 52) (dk D_X6_reset 27 rfl) (by decide) rfl ?_
  refine V_putI kc6 (pc2 := 55) 14 (dk D_X6_reset 28 rfl) fl_6_77 (by decide) (Or.inl rfl) rfl rfl h24 ?_
  have h := h _ rfl
  refine V_aload_n (pc2 := 56) (dk D_X6_reset 29 rfl) rfl (V_lg 0 rfl) rfl ?_
  refine V_iconst (x := 1) (pc2 := 57) (dk D_X6_reset 30 rfl) (by decide) rfl ?_
  refine V_putI kc6 (pc2 := 60) 15 (dk D_X6_reset 31 rfl) fl_6_80 (by decide) (Or.inl rfl) rfl rfl h24 ?_
  have h := h _ rfl
  refine V_aload_n (pc2 := 61) (dk D_X6_reset 32 rfl) rfl (V_lg 0 rfl) rfl ?_
  refine V_iconst (x := 0) (pc2 := 62) (dk D_X6_reset 33 rfl) (by decide) rfl ?_
  refine V_putI kc6 (pc2 := 65) 16 (dk D_X6_reset 34 rfl) fl_6_83 (by decide) (Or.inl rfl) rfl rfl h24 ?_
  have h := h _ rfl
  refine V_aload_n (pc2 := 66) (dk D_X6_reset 35 rfl) rfl (V_lg 0 rfl) rfl ?_
  refine V_iconst (x := 0) (pc2 := 67) (dk D_X6_reset 36 rfl) (by decide) rfl ?_
  refine V_putZ kc6 (pc2 := 70) 17 (dk D_X6_reset 37 rfl) fl_6_86 (by decide) (Or.inl rfl) rfl rfl h24 (Or.inl rfl) ?_
  have h := h _ rfl
  exact V_return (dk D_X6_reset 38 rfl) rfl h
def L_X6_made : List (Nat × Instr × Nat) := [(0, .aload_n 0, 1), (1, .getfield 65, 3), (4, .ireturn, 1)]
theorem D_X6_made : dOk cX6_made L_X6_made = true := by decide +kernel
theorem w_X6_made_0 {X : Cx} {d : Nat} {S : Mem} {Q : Res → Mem → Prop} (r0 : Nat) (h : (isK S r0 6) ∧ Q (.inl (some (vI (gI S r0 10)))) S) : V X d MX6_made 0 [(0, vR r0)] [] S Q := by
  refine V_aload_n (pc2 := 1) (dk D_X6_made 0 rfl) rfl (V_lg 0 rfl) rfl ?_
  obtain ⟨h1, h⟩ := h
  refine V_getI kc6 (pc2 := 4) 10 (dk D_X6_made 1 rfl) fl_6_65 (by decide) (fun _ => rfl) rfl h1 ?_
  exact V_ireturn (dk D_X6_made 2 rfl) rfl h
def L_X6_alive : List (Nat × Instr × Nat) := [(0, .aload_n 0, 1), (1, .getfield 68, 3), (4, .ireturn, 1)]
theorem D_X6_alive : dOk cX6_alive L_X6_alive = true := by decide +kernel
theorem w_X6_alive_0 {X : Cx} {d : Nat} {S : Mem} {Q : Res → Mem → Prop} (r0 : Nat) (h : (isK S r0 6) ∧ Q (.inl (some (vI (gI S r0 11)))) S) : V X d MX6_alive 0 [(0, vR r0)] [] S Q := by
  refine V_aload_n (pc2 := 1) (dk D_X6_alive 0 rfl) rfl (V_lg 0 rfl) rfl ?_
  obtain ⟨h1, h⟩ := h
  refine V_getI kc6 (pc2 := 4) 11 (dk D_X6_alive 1 rfl) fl_6_68 (by decide) (fun _ => rfl) rfl h1 ?_
  exact V_ireturn (dk D_X6_alive 2 rfl) rfl h
def L_X6_steps : List (Nat × Instr × Nat) := [(0, .aload_n 0, 1), (1, .getfield 71, 3), (4, .ireturn, 1)]
theorem D_X6_steps : dOk cX6_steps L_X6_steps = true := by decide +kernel
theorem w_X6_steps_0 {X : Cx} {d : Nat} {S : Mem} {Q : Res → Mem → Prop} (r0 : Nat) (h : (isK S r0 6) ∧ Q (.inl (some (vI (gI S r0 12)))) S) : V X d MX6_steps 0 [(0, vR r0)] [] S Q := by
  refine V_aload_n (pc2 := 1) (dk D_X6_steps 0 rfl) rfl (V_lg 0 rfl) rfl ?_
  obtain ⟨h1, h⟩ := h
  refine V_getI kc6 (pc2 := 4) 12 (dk D_X6_steps 1 rfl) fl_6_71 (by decide) (fun _ => rfl) rfl h1 ?_
  exact V_ireturn (dk D_X6_steps 2 rfl) rfl h
def L_X6_outcome : List (Nat × Instr × Nat) := [(0, .aload_n 0, 1), (1, .getfield 80, 3), (4, .ireturn, 1)]
theorem D_X6_outcome : dOk cX6_outcome L_X6_outcome = true := by decide +kernel
theorem w_X6_outcome_0 {X : Cx} {d : Nat} {S : Mem} {Q : Res → Mem → Prop} (r0 : Nat) (h : (isK S r0 6) ∧ Q (.inl (some (vI (gI S r0 15)))) S) : V X d MX6_outcome 0 [(0, vR r0)] [] S Q := by
  refine V_aload_n (pc2 := 1) (dk D_X6_outcome 0 rfl) rfl (V_lg 0 rfl) rfl ?_
  obtain ⟨h1, h⟩ := h
  refine V_getI kc6 (pc2 := 4) 15 (dk D_X6_outcome 1 rfl) fl_6_80 (by decide) (fun _ => rfl) rfl h1 ?_
  exact V_ireturn (dk D_X6_outcome 2 rfl) rfl h
def L_X6_given : List (Nat × Instr × Nat) := [(0, .aload_n 0, 1), (1, .getfield 83, 3), (4, .ireturn, 1)]
theorem D_X6_given : dOk cX6_given L_X6_given = true := by decide +kernel
theorem w_X6_given_0 {X : Cx} {d : Nat} {S : Mem} {Q : Res → Mem → Prop} (r0 : Nat) (h : (isK S r0 6) ∧ Q (.inl (some (vI (gI S r0 16)))) S) : V X d MX6_given 0 [(0, vR r0)] [] S Q := by
  refine V_aload_n (pc2 := 1) (dk D_X6_given 0 rfl) rfl (V_lg 0 rfl) rfl ?_
  obtain ⟨h1, h⟩ := h
  refine V_getI kc6 (pc2 := 4) 16 (dk D_X6_given 1 rfl) fl_6_83 (by decide) (fun _ => rfl) rfl h1 ?_
  exact V_ireturn (dk D_X6_given 2 rfl) rfl h
def L_X6_isSpent : List (Nat × Instr × Nat) := [(0, .aload_n 0, 1), (1, .getfield 86, 3), (4, .ireturn, 1)]
theorem D_X6_isSpent : dOk cX6_isSpent L_X6_isSpent = true := by decide +kernel
theorem w_X6_isSpent_0 {X : Cx} {d : Nat} {S : Mem} {Q : Res → Mem → Prop} (r0 : Nat) (h : (isK S r0 6) ∧ ((gI S r0 17) = 0 ∨ (gI S r0 17) = 1) ∧ Q (.inl (some (vI (gI S r0 17)))) S) : V X d MX6_isSpent 0 [(0, vR r0)] [] S Q := by
  refine V_aload_n (pc2 := 1) (dk D_X6_isSpent 0 rfl) rfl (V_lg 0 rfl) rfl ?_
  obtain ⟨h1, h⟩ := h
  refine V_getI kc6 (pc2 := 4) 17 (dk D_X6_isSpent 1 rfl) fl_6_86 (by decide) (fun _ => rfl) rfl h1 ?_
  obtain ⟨h2, h⟩ := h
  exact V_zreturn (dk D_X6_isSpent 2 rfl) rfl h2 h
def L_X6_isFull : List (Nat × Instr × Nat) := [(0, .aload_n 0, 1), (1, .getfield 65, 3), (4, .bipush 60, 2), (6, .if_icmp .ge 12, 3), (9, .aload_n 0, 1), (10, .getfield 68, 3), (13, .bipush 12, 2), (15, .if_icmp .lt 7, 3), (18, .iconst 1, 1), (19, .goto 4, 3), (22, .iconst 0, 1), (23, .ireturn, 1)]
theorem D_X6_isFull : dOk cX6_isFull L_X6_isFull = true := by decide +kernel
theorem w_X6_isFull_0 {X : Cx} {d : Nat} {S : Mem} {Q : Res → Mem → Prop} (r0 : Nat) (h : (isK S r0 6) ∧ ((60 ≤ (gI S r0 10) → V X d MX6_isFull 18 [(0, vR r0)] [] S Q) ∧ (¬ 60 ≤ (gI S r0 10) → (((gI S r0 11) < 12 → V X d MX6_isFull 23 [(0, vR r0)] [vI 0] S Q) ∧ (¬ (gI S r0 11) < 12 → V X d MX6_isFull 18 [(0, vR r0)] [] S Q))))) : V X d MX6_isFull 0 [(0, vR r0)] [] S Q := by
  refine V_aload_n (pc2 := 1) (dk D_X6_isFull 0 rfl) rfl (V_lg 0 rfl) rfl ?_
  obtain ⟨h1, h⟩ := h
  refine V_getI kc6 (pc2 := 4) 10 (dk D_X6_isFull 1 rfl) fl_6_65 (by decide) (fun _ => rfl) rfl h1 ?_
  refine V_bipush (x := 60) (pc2 := 6) (dk D_X6_isFull 2 rfl) (by decide) rfl ?_
  refine V_cmpge (tgt := 18) (pc2 := 9) (dk D_X6_isFull 3 rfl) (by decide) rfl (fun q2 => ?_) (fun q2 => ?_)
  · have h := h.1 q2
    exact h
  · have h := h.2 q2
    refine V_aload_n (pc2 := 10) (dk D_X6_isFull 4 rfl) rfl (V_lg 0 rfl) rfl ?_
    refine V_getI kc6 (pc2 := 13) 11 (dk D_X6_isFull 5 rfl) fl_6_68 (by decide) (fun _ => rfl) rfl h1 ?_
    refine V_bipush (x := 12) (pc2 := 15) (dk D_X6_isFull 6 rfl) (by decide) rfl ?_
    refine V_cmplt (tgt := 22) (pc2 := 18) (dk D_X6_isFull 7 rfl) (by decide) rfl (fun q3 => ?_) (fun q3 => ?_)
    · have h := h.1 q3
      refine V_iconst (x := 0) (pc2 := 23) (dk D_X6_isFull 10 rfl) (by decide) rfl ?_
      exact h
    · have h := h.2 q3
      exact h
theorem w_X6_isFull_18 {X : Cx} {d : Nat} {S : Mem} {Q : Res → Mem → Prop} (r0 : Nat) (h : V X d MX6_isFull 23 [(0, vR r0)] [vI 1] S Q) : V X d MX6_isFull 18 [(0, vR r0)] [] S Q := by
  refine V_iconst (x := 1) (pc2 := 19) (dk D_X6_isFull 8 rfl) (by decide) rfl ?_
  refine V_goto (tgt := 23) (dk D_X6_isFull 9 rfl) (by decide) ?_
  exact h
theorem w_X6_isFull_23 {X : Cx} {d : Nat} {S : Mem} {Q : Res → Mem → Prop} (r0 : Nat) (t0 : Int32) (h : (t0 = 0 ∨ t0 = 1) ∧ Q (.inl (some (vI t0))) S) : V X d MX6_isFull 23 [(0, vR r0)] [vI t0] S Q := by
  obtain ⟨h1, h⟩ := h
  exact V_zreturn (dk D_X6_isFull 11 rfl) rfl h1 h
def L_X6_inRing : List (Nat × Instr × Nat) := [(0, .iload_n 1, 1), (1, .ifCond .lt 17, 3), (4, .iload_n 1, 1), (5, .aload_n 0, 1), (6, .getfield 61, 3), (9, .if_icmp .ge 9, 3), (12, .iload_n 1, 1), (13, .bipush 12, 2), (15, .if_icmp .lt 8, 3), (18, .bipush (-9), 2), (20, .goto 9, 3), (23, .aload_n 0, 1), (24, .getfield 40, 3), (27, .iload_n 1, 1), (28, .iaload, 1), (29, .ireturn, 1)]
theorem D_X6_inRing : dOk cX6_inRing L_X6_inRing = true := by decide +kernel
theorem w_X6_inRing_0 {X : Cx} {d : Nat} {S : Mem} {Q : Res → Mem → Prop} (r0 : Nat) (x1 : Int32) (h : ((x1 < 0 → V X d MX6_inRing 18 [(0, vR r0), (1, vI x1)] [] S Q) ∧ (¬ x1 < 0 → (isK S r0 6) ∧ (((gI S r0 9) ≤ x1 → V X d MX6_inRing 18 [(0, vR r0), (1, vI x1)] [] S Q) ∧ (¬ (gI S r0 9) ≤ x1 → ((x1 < 12 → (isK S (gR S r0 7) 21) ∧ (vp_in x1 (gN S (gR S r0 7))) ∧ V X d MX6_inRing 29 [(0, vR r0), (1, vI x1)] [vI (gI S (gR S r0 7) (x1 : Int32).toNatClampNeg)] S Q) ∧ (¬ x1 < 12 → V X d MX6_inRing 18 [(0, vR r0), (1, vI x1)] [] S Q))))))) : V X d MX6_inRing 0 [(0, vR r0), (1, vI x1)] [] S Q := by
  refine V_iload_n (pc2 := 1) (dk D_X6_inRing 0 rfl) rfl (V_lg 1 rfl) rfl ?_
  refine V_iflt (tgt := 18) (pc2 := 4) (dk D_X6_inRing 1 rfl) (by decide) rfl (fun q1 => ?_) (fun q1 => ?_)
  · have h := h.1 q1
    exact h
  · have h := h.2 q1
    refine V_iload_n (pc2 := 5) (dk D_X6_inRing 2 rfl) rfl (V_lg 1 rfl) rfl ?_
    refine V_aload_n (pc2 := 6) (dk D_X6_inRing 3 rfl) rfl (V_lg 0 rfl) rfl ?_
    obtain ⟨h2, h⟩ := h
    refine V_getI kc6 (pc2 := 9) 9 (dk D_X6_inRing 4 rfl) fl_6_61 (by decide) (fun _ => rfl) rfl h2 ?_
    refine V_cmpge (tgt := 18) (pc2 := 12) (dk D_X6_inRing 5 rfl) (by decide) rfl (fun q3 => ?_) (fun q3 => ?_)
    · have h := h.1 q3
      exact h
    · have h := h.2 q3
      refine V_iload_n (pc2 := 13) (dk D_X6_inRing 6 rfl) rfl (V_lg 1 rfl) rfl ?_
      refine V_bipush (x := 12) (pc2 := 15) (dk D_X6_inRing 7 rfl) (by decide) rfl ?_
      refine V_cmplt (tgt := 23) (pc2 := 18) (dk D_X6_inRing 8 rfl) (by decide) rfl (fun q4 => ?_) (fun q4 => ?_)
      · have h := h.1 q4
        refine V_aload_n (pc2 := 24) (dk D_X6_inRing 11 rfl) rfl (V_lg 0 rfl) rfl ?_
        refine V_getR kc6 (pc2 := 27) 7 (dk D_X6_inRing 12 rfl) fl_6_40 (by decide) (fun _ => rfl) rfl h2 ?_
        refine V_iload_n (pc2 := 28) (dk D_X6_inRing 13 rfl) rfl (V_lg 1 rfl) rfl ?_
        obtain ⟨h5, h⟩ := h
        obtain ⟨h6, h⟩ := h
        refine V_iald (pc2 := 29) (dk D_X6_inRing 14 rfl) rfl h5 h6 ?_
        exact h
      · have h := h.2 q4
        exact h
theorem w_X6_inRing_18 {X : Cx} {d : Nat} {S : Mem} {Q : Res → Mem → Prop} (r0 : Nat) (x1 : Int32) (h : V X d MX6_inRing 29 [(0, vR r0), (1, vI x1)] [vI (-9)] S Q) : V X d MX6_inRing 18 [(0, vR r0), (1, vI x1)] [] S Q := by
  refine V_bipush (x := (-9)) (pc2 := 20) (dk D_X6_inRing 9 rfl) (by decide) rfl ?_
  refine V_goto (tgt := 29) (dk D_X6_inRing 10 rfl) (by decide) ?_
  exact h
theorem w_X6_inRing_29 {X : Cx} {d : Nat} {S : Mem} {Q : Res → Mem → Prop} (r0 : Nat) (x1 : Int32) (t0 : Int32) (h : Q (.inl (some (vI t0))) S) : V X d MX6_inRing 29 [(0, vR r0), (1, vI x1)] [vI t0] S Q := by
  exact V_ireturn (dk D_X6_inRing 15 rfl) rfl h
def L_X6_find : List (Nat × Instr × Nat) := [(0, .iload_n 1, 1), (1, .iconst 1, 1), (2, .if_icmp .lt 17, 3), (5, .iload_n 1, 1), (6, .aload_n 0, 1), (7, .getfield 65, 3), (10, .if_icmp .gt 9, 3), (13, .iload_n 1, 1), (14, .bipush 60, 2), (16, .if_icmp .le 7, 3), (19, .aconst_null, 1), (20, .goto 9, 3), (23, .aload_n 0, 1), (24, .getfield 30, 3), (27, .iload_n 1, 1), (28, .aaload, 1), (29, .areturn, 1)]
theorem D_X6_find : dOk cX6_find L_X6_find = true := by decide +kernel
theorem w_X6_find_0 {X : Cx} {d : Nat} {S : Mem} {Q : Res → Mem → Prop} (r0 : Nat) (x1 : Int32) (h : ((x1 < 1 → V X d MX6_find 19 [(0, vR r0), (1, vI x1)] [] S Q) ∧ (¬ x1 < 1 → (isK S r0 6) ∧ (((gI S r0 10) < x1 → V X d MX6_find 19 [(0, vR r0), (1, vI x1)] [] S Q) ∧ (¬ (gI S r0 10) < x1 → ((x1 ≤ 60 → (isK S (gR S r0 5) 25) ∧ (vp_in x1 (gN S (gR S r0 5))) ∧ V X d MX6_find 29 [(0, vR r0), (1, vI x1)] [vR (gR S (gR S r0 5) (x1 : Int32).toNatClampNeg)] S Q) ∧ (¬ x1 ≤ 60 → V X d MX6_find 19 [(0, vR r0), (1, vI x1)] [] S Q))))))) : V X d MX6_find 0 [(0, vR r0), (1, vI x1)] [] S Q := by
  refine V_iload_n (pc2 := 1) (dk D_X6_find 0 rfl) rfl (V_lg 1 rfl) rfl ?_
  refine V_iconst (x := 1) (pc2 := 2) (dk D_X6_find 1 rfl) (by decide) rfl ?_
  refine V_cmplt (tgt := 19) (pc2 := 5) (dk D_X6_find 2 rfl) (by decide) rfl (fun q1 => ?_) (fun q1 => ?_)
  · have h := h.1 q1
    exact h
  · have h := h.2 q1
    refine V_iload_n (pc2 := 6) (dk D_X6_find 3 rfl) rfl (V_lg 1 rfl) rfl ?_
    refine V_aload_n (pc2 := 7) (dk D_X6_find 4 rfl) rfl (V_lg 0 rfl) rfl ?_
    obtain ⟨h2, h⟩ := h
    refine V_getI kc6 (pc2 := 10) 10 (dk D_X6_find 5 rfl) fl_6_65 (by decide) (fun _ => rfl) rfl h2 ?_
    refine V_cmpgt (tgt := 19) (pc2 := 13) (dk D_X6_find 6 rfl) (by decide) rfl (fun q3 => ?_) (fun q3 => ?_)
    · have h := h.1 q3
      exact h
    · have h := h.2 q3
      refine V_iload_n (pc2 := 14) (dk D_X6_find 7 rfl) rfl (V_lg 1 rfl) rfl ?_
      refine V_bipush (x := 60) (pc2 := 16) (dk D_X6_find 8 rfl) (by decide) rfl ?_
      refine V_cmple (tgt := 23) (pc2 := 19) (dk D_X6_find 9 rfl) (by decide) rfl (fun q4 => ?_) (fun q4 => ?_)
      · have h := h.1 q4
        refine V_aload_n (pc2 := 24) (dk D_X6_find 12 rfl) rfl (V_lg 0 rfl) rfl ?_
        refine V_getR kc6 (pc2 := 27) 5 (dk D_X6_find 13 rfl) fl_6_30 (by decide) (fun _ => rfl) rfl h2 ?_
        refine V_iload_n (pc2 := 28) (dk D_X6_find 14 rfl) rfl (V_lg 1 rfl) rfl ?_
        obtain ⟨h5, h⟩ := h
        obtain ⟨h6, h⟩ := h
        refine V_aald (k := 25) (pc2 := 29) (dk D_X6_find 15 rfl) rfl (by decide) (by decide) h5 h6 ?_
        exact h
      · have h := h.2 q4
        exact h
theorem w_X6_find_19 {X : Cx} {d : Nat} {S : Mem} {Q : Res → Mem → Prop} (r0 : Nat) (x1 : Int32) (h : V X d MX6_find 29 [(0, vR r0), (1, vI x1)] [vR 0] S Q) : V X d MX6_find 19 [(0, vR r0), (1, vI x1)] [] S Q := by
  refine V_null (pc2 := 20) (dk D_X6_find 10 rfl) rfl ?_
  refine V_goto (tgt := 29) (dk D_X6_find 11 rfl) (by decide) ?_
  exact h
theorem w_X6_find_29 {X : Cx} {d : Nat} {S : Mem} {Q : Res → Mem → Prop} (r0 : Nat) (x1 : Int32) (t0 : Nat) (h : Q (.inl (some (vR t0))) S) : V X d MX6_find 29 [(0, vR r0), (1, vI x1)] [vR t0] S Q := by
  exact V_areturn (dk D_X6_find 16 rfl) rfl (Or.inl ⟨_, rfl⟩) h
def L_X6_make : List (Nat × Instr × Nat) := [(0, .aload_n 0, 1), (1, .invokevirtual 90, 3), (4, .ifCond .eq 6, 3), (7, .bipush (-9), 2), (9, .ireturn, 1), (10, .aload_n 0, 1), (11, .dup, 1), (12, .getfield 65, 3), (15, .iconst 1, 1), (16, .iadd, 1), (17, .putfield 65, 3), (20, .aload_n 0, 1), (21, .dup, 1), (22, .getfield 68, 3), (25, .iconst 1, 1), (26, .iadd, 1), (27, .putfield 68, 3), (30, .aload_n 0, 1), (31, .getfield 30, 3), (34, .aload_n 0, 1), (35, .getfield 65, 3), (38, .aaload, 1), (39, .ifnonnull 19, 3), (42, .aload_n 0, 1), (43, .getfield 30, 3), (46, .aload_n 0, 1), (47, .getfield 65, 3), (50, .new 28, 3), (53, .dup, 1), (54, .invokespecial 94, 3), (57, .aastore, 1), (58, .aload_n 0, 1), (59, .getfield 30, 3), (62, .aload_n 0, 1), (63, .getfield 65, 3), (66, .aaload, 1), (67, .aload_n 0, 1), (68, .getfield 65, 3), (71, .iload_n 1, 1), (72, .iload_n 2, 1), (73, .iload_n 3, 1), (74, .invokevirtual 95, 3), (77, .aload_n 0, 1), (78, .getfield 65, 3), (81, .ireturn, 1)]
theorem D_X6_make : dOk cX6_make L_X6_make = true := by decide +kernel
theorem w_X6_make_0 {X : Cx} {d : Nat} {S : Mem} {Q : Res → Mem → Prop} (r0 : Nat) (x1 : Int32) (x2 : Int32) (x3 : Int32) (h : (isK S r0 6) ∧ ∃ e1 : Nat, e1 + 1 ≤ d ∧ C X e1 MX6_isFull [vR r0] S (RI fun y4 S5 => ((y4 = 0 → (isK S5 r0 6) ∧ ∀ S9 : Mem, S9 = uI S5 r0 10 ((gI S5 r0 10) + 1) → ∀ S10 : Mem, S10 = uI S9 r0 11 ((gI S9 r0 11) + 1) → (isK S5 (gR S5 r0 5) 25) ∧ (vp_in (gI S10 r0 10) (gN S5 (gR S5 r0 5))) ∧ ((¬ (gR S5 (gR S5 r0 5) ((gI S10 r0 10) : Int32).toNatClampNeg) = 0 → V X d MX6_make 58 [(0, vR r0), (1, vI x1), (2, vI x2), (3, vI x3)] [] S10 Q) ∧ ((gR S5 (gR S5 r0 5) ((gI S10 r0 10) : Int32).toNatClampNeg) = 0 → ∀ S14 : Mem, S14 = nw S10 10 0 16 → ((tp S10) ≠ 0) ∧ ∃ e15 : Nat, e15 + 1 ≤ d ∧ C X e15 MX10_init [vR (tp S10)] S14 (RV fun  S18 => (isK S18 (gR S5 r0 5) 25) ∧ (vp_in (gI S10 r0 10) (gN S18 (gR S5 r0 5))) ∧ (isK S18 (tp S10) 10) ∧ ((tp S10) ≠ 0) ∧ ∀ S24 : Mem, S24 = uR S18 (gR S5 r0 5) (((gI S10 r0 10) : Int32).toNatClampNeg) (tp S10) → V X d MX6_make 58 [(0, vR r0), (1, vI x1), (2, vI x2), (3, vI x3)] [] S24 Q)))) ∧ (¬ y4 = 0 → Q (.inl (some (vI (-9)))) S5)))) : V X d MX6_make 0 [(0, vR r0), (1, vI x1), (2, vI x2), (3, vI x3)] [] S Q := by
  refine V_aload_n (pc2 := 1) (dk D_X6_make 0 rfl) rfl (V_lg 0 rfl) rfl ?_
  obtain ⟨h6, h⟩ := h
  obtain ⟨e1, he2, hc3⟩ := h
  refine V_callV (as := []) (st := []) (M' := MX6_isFull) (ci := 6) (pc2 := 4) (dk D_X6_make 1 rfl) ml_6_90 mv_X6_isFull rfl rfl (by decide) rfl (Nat.le_of_ble_eq_true rfl) rfl he2 h6 hc3 (RI.k fun y4 S5 h => ?_)
  refine V_ifeq (tgt := 10) (pc2 := 7) (dk D_X6_make 2 rfl) (by decide) rfl (fun q7 => ?_) (fun q7 => ?_)
  · have h := h.1 q7
    refine V_aload_n (pc2 := 11) (dk D_X6_make 5 rfl) rfl (V_lg 0 rfl) rfl ?_
    refine V_dup (pc2 := 12) (dk D_X6_make 6 rfl) rfl rfl ?_
    obtain ⟨h8, h⟩ := h
    refine V_getI kc6 (pc2 := 15) 10 (dk D_X6_make 7 rfl) fl_6_65 (by decide) (fun _ => rfl) rfl h8 ?_
    refine V_iconst (x := 1) (pc2 := 16) (dk D_X6_make 8 rfl) (by decide) rfl ?_
    refine V_iadd (pc2 := 17) (dk D_X6_make 9 rfl) rfl ?_
    refine V_putI kc6 (pc2 := 20) 10 (dk D_X6_make 10 rfl) fl_6_65 (by decide) (Or.inl rfl) rfl rfl h8 ?_
    have h := h _ rfl
    refine V_aload_n (pc2 := 21) (dk D_X6_make 11 rfl) rfl (V_lg 0 rfl) rfl ?_
    refine V_dup (pc2 := 22) (dk D_X6_make 12 rfl) rfl rfl ?_
    refine V_getI kc6 (pc2 := 25) 11 (dk D_X6_make 13 rfl) fl_6_68 (by decide) (fun _ => rfl) rfl h8 ?_
    refine V_iconst (x := 1) (pc2 := 26) (dk D_X6_make 14 rfl) (by decide) rfl ?_
    refine V_iadd (pc2 := 27) (dk D_X6_make 15 rfl) rfl ?_
    refine V_putI kc6 (pc2 := 30) 11 (dk D_X6_make 16 rfl) fl_6_68 (by decide) (Or.inl rfl) rfl rfl h8 ?_
    have h := h _ rfl
    refine V_aload_n (pc2 := 31) (dk D_X6_make 17 rfl) rfl (V_lg 0 rfl) rfl ?_
    refine V_getR kc6 (pc2 := 34) 5 (dk D_X6_make 18 rfl) fl_6_30 (by decide) (fun _ => rfl) rfl h8 ?_
    refine V_aload_n (pc2 := 35) (dk D_X6_make 19 rfl) rfl (V_lg 0 rfl) rfl ?_
    refine V_getI kc6 (pc2 := 38) 10 (dk D_X6_make 20 rfl) fl_6_65 (by decide) (fun _ => rfl) rfl h8 ?_
    obtain ⟨h11, h⟩ := h
    obtain ⟨h12, h⟩ := h
    refine V_aald (k := 25) (pc2 := 39) (dk D_X6_make 21 rfl) rfl (by decide) (by decide) h11 h12 ?_
    refine V_ifnonnull (tgt := 58) (pc2 := 42) (dk D_X6_make 22 rfl) (by decide) rfl (fun q13 => ?_) (fun q13 => ?_)
    · have h := h.1 q13
      exact h
    · have h := h.2 q13
      refine V_aload_n (pc2 := 43) (dk D_X6_make 23 rfl) rfl (V_lg 0 rfl) rfl ?_
      refine V_getR kc6 (pc2 := 46) 5 (dk D_X6_make 24 rfl) fl_6_30 (by decide) (fun _ => rfl) rfl h8 ?_
      refine V_aload_n (pc2 := 47) (dk D_X6_make 25 rfl) rfl (V_lg 0 rfl) rfl ?_
      refine V_getI kc6 (pc2 := 50) 10 (dk D_X6_make 26 rfl) fl_6_65 (by decide) (fun _ => rfl) rfl h8 ?_
      refine V_newC kc10 (pc2 := 53) (dk D_X6_make 27 rfl) cl_6_28 it_10 ii_10 (by decide) rfl ?_
      have h := h _ rfl
      refine V_dup (pc2 := 54) (dk D_X6_make 28 rfl) rfl rfl ?_
      obtain ⟨h19, h⟩ := h
      obtain ⟨e15, he16, hc17⟩ := h
      refine V_callIN (as := []) (st := [_, _, _]) (M' := MX10_init) (pc2 := 57) (dk D_X6_make 29 rfl) ml_6_94 mv_X10_init rfl rfl rfl (Nat.le_of_ble_eq_true rfl) rfl he16 h19 hc17 (RV.k fun  S18 h => ?_)
      obtain ⟨h20, h⟩ := h
      obtain ⟨h21, h⟩ := h
      obtain ⟨h22, h⟩ := h
      obtain ⟨h23, h⟩ := h
      refine V_aast25 (pc2 := 58) (dk D_X6_make 30 rfl) rfl h20 h21 h22 h23 ?_
      have h := h _ rfl
      exact h
  · have h := h.2 q7
    refine V_bipush (x := (-9)) (pc2 := 9) (dk D_X6_make 3 rfl) (by decide) rfl ?_
    exact V_ireturn (dk D_X6_make 4 rfl) rfl h
theorem w_X6_make_58 {X : Cx} {d : Nat} {S : Mem} {Q : Res → Mem → Prop} (r0 : Nat) (x1 : Int32) (x2 : Int32) (x3 : Int32) (h : (isK S r0 6) ∧ (isK S (gR S r0 5) 25) ∧ (vp_in (gI S r0 10) (gN S (gR S r0 5))) ∧ (isK S (gR S (gR S r0 5) ((gI S r0 10) : Int32).toNatClampNeg) 10) ∧ ∃ e4 : Nat, e4 + 1 ≤ d ∧ C X e4 MX10_reset [vR (gR S (gR S r0 5) ((gI S r0 10) : Int32).toNatClampNeg), vI (gI S r0 10), vI x1, vI x2, vI x3] S (RV fun  S7 => (isK S7 r0 6) ∧ Q (.inl (some (vI (gI S7 r0 10)))) S7)) : V X d MX6_make 58 [(0, vR r0), (1, vI x1), (2, vI x2), (3, vI x3)] [] S Q := by
  refine V_aload_n (pc2 := 59) (dk D_X6_make 31 rfl) rfl (V_lg 0 rfl) rfl ?_
  obtain ⟨h1, h⟩ := h
  refine V_getR kc6 (pc2 := 62) 5 (dk D_X6_make 32 rfl) fl_6_30 (by decide) (fun _ => rfl) rfl h1 ?_
  refine V_aload_n (pc2 := 63) (dk D_X6_make 33 rfl) rfl (V_lg 0 rfl) rfl ?_
  refine V_getI kc6 (pc2 := 66) 10 (dk D_X6_make 34 rfl) fl_6_65 (by decide) (fun _ => rfl) rfl h1 ?_
  obtain ⟨h2, h⟩ := h
  obtain ⟨h3, h⟩ := h
  refine V_aald (k := 25) (pc2 := 67) (dk D_X6_make 35 rfl) rfl (by decide) (by decide) h2 h3 ?_
  refine V_aload_n (pc2 := 68) (dk D_X6_make 36 rfl) rfl (V_lg 0 rfl) rfl ?_
  refine V_getI kc6 (pc2 := 71) 10 (dk D_X6_make 37 rfl) fl_6_65 (by decide) (fun _ => rfl) rfl h1 ?_
  refine V_iload_n (pc2 := 72) (dk D_X6_make 38 rfl) rfl (V_lg 1 rfl) rfl ?_
  refine V_iload_n (pc2 := 73) (dk D_X6_make 39 rfl) rfl (V_lg 2 rfl) rfl ?_
  refine V_iload_n (pc2 := 74) (dk D_X6_make 40 rfl) rfl (V_lg 3 rfl) rfl ?_
  obtain ⟨h8, h⟩ := h
  obtain ⟨e4, he5, hc6⟩ := h
  refine V_callV (as := [_, _, _, _]) (st := []) (M' := MX10_reset) (ci := 10) (pc2 := 77) (dk D_X6_make 41 rfl) ml_6_95 mv_X10_reset rfl rfl (by decide) rfl (Nat.le_of_ble_eq_true rfl) rfl he5 h8 hc6 (RV.k fun  S7 h => ?_)
  refine V_aload_n (pc2 := 78) (dk D_X6_make 42 rfl) rfl (V_lg 0 rfl) rfl ?_
  obtain ⟨h9, h⟩ := h
  refine V_getI kc6 (pc2 := 81) 10 (dk D_X6_make 43 rfl) fl_6_65 (by decide) (fun _ => rfl) rfl h9 ?_
  exact V_ireturn (dk D_X6_make 44 rfl) rfl h
def L_X6_end : List (Nat × Instr × Nat) := [(0, .aload_n 1, 1), (1, .iload_n 2, 1), (2, .invokevirtual 99, 3), (5, .astore_n 3, 1), (6, .aload_n 0, 1), (7, .dup, 1), (8, .getfield 68, 3), (11, .iconst 1, 1), (12, .isub, 1), (13, .putfield 68, 3), (16, .aload_n 3, 1), (17, .ifnull 39, 3), (20, .aload_n 0, 1), (21, .getfield 103, 3), (24, .ifCond .lt 32, 3), (27, .aload_n 0, 1), (28, .getfield 103, 3), (31, .bipush 12, 2), (33, .if_icmp .ge 23, 3), (36, .aload_n 0, 1), (37, .getfield 36, 3), (40, .aload_n 0, 1), (41, .getfield 103, 3), (44, .aload_n 3, 1), (45, .aastore, 1), (46, .aload_n 0, 1), (47, .dup, 1), (48, .getfield 103, 3), (51, .iconst 1, 1), (52, .iadd, 1), (53, .putfield 103, 3), (56, .return_, 1)]
theorem D_X6_end : dOk cX6_end L_X6_end = true := by decide +kernel
theorem w_X6_end_0 {X : Cx} {d : Nat} {S : Mem} {Q : Res → Mem → Prop} (r0 : Nat) (r1 : Nat) (x2 : Int32) (h : (isK S r1 10) ∧ ∃ e1 : Nat, e1 + 1 ≤ d ∧ C X e1 MX10_end [vR r1, vI x2] S (RR fun p4 S5 => (isK S5 r0 6) ∧ ∀ S8 : Mem, S8 = uI S5 r0 11 ((gI S5 r0 11) - 1) → ((p4 = 0 → V X d MX6_end 56 [(0, vR r0), (1, vR r1), (2, vI x2), (3, vR p4)] [] S8 Q) ∧ (¬ p4 = 0 → (((gI S8 r0 8) < 0 → V X d MX6_end 56 [(0, vR r0), (1, vR r1), (2, vI x2), (3, vR p4)] [] S8 Q) ∧ (¬ (gI S8 r0 8) < 0 → ((12 ≤ (gI S8 r0 8) → V X d MX6_end 56 [(0, vR r0), (1, vR r1), (2, vI x2), (3, vR p4)] [] S8 Q) ∧ (¬ 12 ≤ (gI S8 r0 8) → (isK S5 (gR S5 r0 6) 26) ∧ (vp_in (gI S8 r0 8) (gN S5 (gR S5 r0 6))) ∧ (isK S5 p4 21) ∧ (p4 ≠ 0) ∧ (p4 ≠ 27) ∧ ∀ S17 : Mem, S17 = uR S8 (gR S5 r0 6) (((gI S8 r0 8) : Int32).toNatClampNeg) p4 → ∀ S18 : Mem, S18 = uI S17 r0 8 ((gI S8 r0 8) + 1) → V X d MX6_end 56 [(0, vR r0), (1, vR r1), (2, vI x2), (3, vR p4)] [] S18 Q)))))))) : V X d MX6_end 0 [(0, vR r0), (1, vR r1), (2, vI x2)] [] S Q := by
  refine V_aload_n (pc2 := 1) (dk D_X6_end 0 rfl) rfl (V_lg 1 rfl) rfl ?_
  refine V_iload_n (pc2 := 2) (dk D_X6_end 1 rfl) rfl (V_lg 2 rfl) rfl ?_
  obtain ⟨h6, h⟩ := h
  obtain ⟨e1, he2, hc3⟩ := h
  refine V_callV (as := [_]) (st := []) (M' := MX10_end) (ci := 10) (pc2 := 5) (dk D_X6_end 2 rfl) ml_6_99 mv_X10_end rfl rfl (by decide) rfl (Nat.le_of_ble_eq_true rfl) rfl he2 h6 hc3 (RR.k fun p4 S5 h => ?_)
  refine V_astore_n (pc2 := 6) (lv2 := [(0, _), (1, _), (2, _), (3, _)]) (dk D_X6_end 3 rfl) rfl (by decide) rfl rfl ?_
  refine V_aload_n (pc2 := 7) (dk D_X6_end 4 rfl) rfl (V_lg 0 rfl) rfl ?_
  refine V_dup (pc2 := 8) (dk D_X6_end 5 rfl) rfl rfl ?_
  obtain ⟨h7, h⟩ := h
  refine V_getI kc6 (pc2 := 11) 11 (dk D_X6_end 6 rfl) fl_6_68 (by decide) (fun _ => rfl) rfl h7 ?_
  refine V_iconst (x := 1) (pc2 := 12) (dk D_X6_end 7 rfl) (by decide) rfl ?_
  refine V_isub (pc2 := 13) (dk D_X6_end 8 rfl) rfl ?_
  refine V_putI kc6 (pc2 := 16) 11 (dk D_X6_end 9 rfl) fl_6_68 (by decide) (Or.inl rfl) rfl rfl h7 ?_
  have h := h _ rfl
  refine V_aload_n (pc2 := 17) (dk D_X6_end 10 rfl) rfl (V_lg 3 rfl) rfl ?_
  refine V_ifnull (tgt := 56) (pc2 := 20) (dk D_X6_end 11 rfl) (by decide) rfl (fun q9 => ?_) (fun q9 => ?_)
  · have h := h.1 q9
    exact h
  · have h := h.2 q9
    refine V_aload_n (pc2 := 21) (dk D_X6_end 12 rfl) rfl (V_lg 0 rfl) rfl ?_
    refine V_getI kc6 (pc2 := 24) 8 (dk D_X6_end 13 rfl) fl_6_103 (by decide) (fun _ => rfl) rfl h7 ?_
    refine V_iflt (tgt := 56) (pc2 := 27) (dk D_X6_end 14 rfl) (by decide) rfl (fun q10 => ?_) (fun q10 => ?_)
    · have h := h.1 q10
      exact h
    · have h := h.2 q10
      refine V_aload_n (pc2 := 28) (dk D_X6_end 15 rfl) rfl (V_lg 0 rfl) rfl ?_
      refine V_getI kc6 (pc2 := 31) 8 (dk D_X6_end 16 rfl) fl_6_103 (by decide) (fun _ => rfl) rfl h7 ?_
      refine V_bipush (x := 12) (pc2 := 33) (dk D_X6_end 17 rfl) (by decide) rfl ?_
      refine V_cmpge (tgt := 56) (pc2 := 36) (dk D_X6_end 18 rfl) (by decide) rfl (fun q11 => ?_) (fun q11 => ?_)
      · have h := h.1 q11
        exact h
      · have h := h.2 q11
        refine V_aload_n (pc2 := 37) (dk D_X6_end 19 rfl) rfl (V_lg 0 rfl) rfl ?_
        refine V_getR kc6 (pc2 := 40) 6 (dk D_X6_end 20 rfl) fl_6_36 (by decide) (fun _ => rfl) rfl h7 ?_
        refine V_aload_n (pc2 := 41) (dk D_X6_end 21 rfl) rfl (V_lg 0 rfl) rfl ?_
        refine V_getI kc6 (pc2 := 44) 8 (dk D_X6_end 22 rfl) fl_6_103 (by decide) (fun _ => rfl) rfl h7 ?_
        refine V_aload_n (pc2 := 45) (dk D_X6_end 23 rfl) rfl (V_lg 3 rfl) rfl ?_
        obtain ⟨h12, h⟩ := h
        obtain ⟨h13, h⟩ := h
        obtain ⟨h14, h⟩ := h
        obtain ⟨h15, h⟩ := h
        obtain ⟨h16, h⟩ := h
        refine V_aast26 (pc2 := 46) ao_26 (dk D_X6_end 24 rfl) rfl h12 h13 h14 h15 h16 ?_
        have h := h _ rfl
        refine V_aload_n (pc2 := 47) (dk D_X6_end 25 rfl) rfl (V_lg 0 rfl) rfl ?_
        refine V_dup (pc2 := 48) (dk D_X6_end 26 rfl) rfl rfl ?_
        refine V_getI kc6 (pc2 := 51) 8 (dk D_X6_end 27 rfl) fl_6_103 (by decide) (fun _ => rfl) rfl h7 ?_
        refine V_iconst (x := 1) (pc2 := 52) (dk D_X6_end 28 rfl) (by decide) rfl ?_
        refine V_iadd (pc2 := 53) (dk D_X6_end 29 rfl) rfl ?_
        refine V_putI kc6 (pc2 := 56) 8 (dk D_X6_end 30 rfl) fl_6_103 (by decide) (Or.inl rfl) rfl rfl h7 ?_
        have h := h _ rfl
        exact h
theorem w_X6_end_56 {X : Cx} {d : Nat} {S : Mem} {Q : Res → Mem → Prop} (r0 : Nat) (r1 : Nat) (x2 : Int32) (r3 : Nat) (h : Q (.inl none) S) : V X d MX6_end 56 [(0, vR r0), (1, vR r1), (2, vI x2), (3, vR r3)] [] S Q := by
  exact V_return (dk D_X6_end 31 rfl) rfl h
def L_X6_failAll : List (Nat × Instr × Nat) := [(0, .iconst 1, 1), (1, .istore_n 1, 1), (2, .iload_n 1, 1), (3, .aload_n 0, 1), (4, .getfield 65, 3), (7, .if_icmp .gt 32, 3), (10, .aload_n 0, 1), (11, .iload_n 1, 1), (12, .invokevirtual 106, 3), (15, .astore_n 2, 1), (16, .aload_n 2, 1), (17, .ifnull 16, 3), (20, .aload_n 2, 1), (21, .invokevirtual 110, 3), (24, .ifCond .ne 9, 3), (27, .aload_n 0, 1), (28, .aload_n 2, 1), (29, .iconst 5, 1), (30, .invokevirtual 113, 3), (33, .iinc 1 1, 3), (36, .goto (-34), 3), (39, .return_, 1)]
theorem D_X6_failAll : dOk cX6_failAll L_X6_failAll = true := by decide +kernel
theorem w_X6_failAll_0 {X : Cx} {d : Nat} {S : Mem} {Q : Res → Mem → Prop} (r0 : Nat) (h : V X d MX6_failAll 2 [(0, vR r0), (1, vI 1)] [] S Q) : V X d MX6_failAll 0 [(0, vR r0)] [] S Q := by
  refine V_iconst (x := 1) (pc2 := 1) (dk D_X6_failAll 0 rfl) (by decide) rfl ?_
  refine V_istore_n (pc2 := 2) (lv2 := [(0, _), (1, _)]) (dk D_X6_failAll 1 rfl) rfl (by decide) rfl rfl ?_
  exact h
theorem w_X6_failAll_2 {X : Cx} {d : Nat} {S : Mem} {Q : Res → Mem → Prop} (r0 : Nat) (x1 : Int32) (h : (isK S r0 6) ∧ (((gI S r0 10) < x1 → Q (.inl none) S) ∧ (¬ (gI S r0 10) < x1 → ∃ e3 : Nat, e3 + 1 ≤ d ∧ C X e3 MX6_find [vR r0, vI x1] S (RR fun p6 S7 => ((p6 = 0 → V X d MX6_failAll 33 [(0, vR r0), (1, vI x1), (2, vR p6)] [] S7 Q) ∧ (¬ p6 = 0 → (isK S7 p6 10) ∧ ∃ e9 : Nat, e9 + 1 ≤ d ∧ C X e9 MX10_isOver [vR p6] S7 (RI fun y12 S13 => ((¬ y12 = 0 → V X d MX6_failAll 33 [(0, vR r0), (1, vI x1), (2, vR p6)] [] S13 Q) ∧ (y12 = 0 → (isK S13 r0 6) ∧ ∃ e16 : Nat, e16 + 1 ≤ d ∧ C X e16 MX6_end [vR r0, vR p6, vI 5] S13 (RV fun  S19 => V X d MX6_failAll 33 [(0, vR r0), (1, vI x1), (2, vR p6)] [] S19 Q)))))))))) : V X d MX6_failAll 2 [(0, vR r0), (1, vI x1)] [] S Q := by
  refine V_iload_n (pc2 := 3) (dk D_X6_failAll 2 rfl) rfl (V_lg 1 rfl) rfl ?_
  refine V_aload_n (pc2 := 4) (dk D_X6_failAll 3 rfl) rfl (V_lg 0 rfl) rfl ?_
  obtain ⟨h1, h⟩ := h
  refine V_getI kc6 (pc2 := 7) 10 (dk D_X6_failAll 4 rfl) fl_6_65 (by decide) (fun _ => rfl) rfl h1 ?_
  refine V_cmpgt (tgt := 39) (pc2 := 10) (dk D_X6_failAll 5 rfl) (by decide) rfl (fun q2 => ?_) (fun q2 => ?_)
  · have h := h.1 q2
    exact V_return (dk D_X6_failAll 21 rfl) rfl h
  · have h := h.2 q2
    refine V_aload_n (pc2 := 11) (dk D_X6_failAll 6 rfl) rfl (V_lg 0 rfl) rfl ?_
    refine V_iload_n (pc2 := 12) (dk D_X6_failAll 7 rfl) rfl (V_lg 1 rfl) rfl ?_
    obtain ⟨e3, he4, hc5⟩ := h
    refine V_callV (as := [_]) (st := []) (M' := MX6_find) (ci := 6) (pc2 := 15) (dk D_X6_failAll 8 rfl) ml_6_106 mv_X6_find rfl rfl (by decide) rfl (Nat.le_of_ble_eq_true rfl) rfl he4 h1 hc5 (RR.k fun p6 S7 h => ?_)
    refine V_astore_n (pc2 := 16) (lv2 := [(0, _), (1, _), (2, _)]) (dk D_X6_failAll 9 rfl) rfl (by decide) rfl rfl ?_
    refine V_aload_n (pc2 := 17) (dk D_X6_failAll 10 rfl) rfl (V_lg 2 rfl) rfl ?_
    refine V_ifnull (tgt := 33) (pc2 := 20) (dk D_X6_failAll 11 rfl) (by decide) rfl (fun q8 => ?_) (fun q8 => ?_)
    · have h := h.1 q8
      exact h
    · have h := h.2 q8
      refine V_aload_n (pc2 := 21) (dk D_X6_failAll 12 rfl) rfl (V_lg 2 rfl) rfl ?_
      obtain ⟨h14, h⟩ := h
      obtain ⟨e9, he10, hc11⟩ := h
      refine V_callV (as := []) (st := []) (M' := MX10_isOver) (ci := 10) (pc2 := 24) (dk D_X6_failAll 13 rfl) ml_6_110 mv_X10_isOver rfl rfl (by decide) rfl (Nat.le_of_ble_eq_true rfl) rfl he10 h14 hc11 (RI.k fun y12 S13 h => ?_)
      refine V_ifne (tgt := 33) (pc2 := 27) (dk D_X6_failAll 14 rfl) (by decide) rfl (fun q15 => ?_) (fun q15 => ?_)
      · have h := h.1 q15
        exact h
      · have h := h.2 q15
        refine V_aload_n (pc2 := 28) (dk D_X6_failAll 15 rfl) rfl (V_lg 0 rfl) rfl ?_
        refine V_aload_n (pc2 := 29) (dk D_X6_failAll 16 rfl) rfl (V_lg 2 rfl) rfl ?_
        refine V_iconst (x := 5) (pc2 := 30) (dk D_X6_failAll 17 rfl) (by decide) rfl ?_
        obtain ⟨h20, h⟩ := h
        obtain ⟨e16, he17, hc18⟩ := h
        refine V_callV (as := [_, _]) (st := []) (M' := MX6_end) (ci := 6) (pc2 := 33) (dk D_X6_failAll 18 rfl) ml_6_113 mv_X6_end rfl rfl (by decide) rfl (Nat.le_of_ble_eq_true rfl) rfl he17 h20 hc18 (RV.k fun  S19 h => ?_)
        exact h
theorem w_X6_failAll_33 {X : Cx} {d : Nat} {S : Mem} {Q : Res → Mem → Prop} (r0 : Nat) (x1 : Int32) (r2 : Nat) (h : V X d MX6_failAll 2 [(0, vR r0), (1, vI (x1 + 1))] [] S Q) : V X d MX6_failAll 33 [(0, vR r0), (1, vI x1), (2, vR r2)] [] S Q := by
  refine V_iinc (y := _ + 1) (pc2 := 36) (lv2 := [(0, _), (1, _), (2, _)]) (dk D_X6_failAll 19 rfl) (V_lg 1 rfl) rfl (by decide) rfl rfl ?_
  refine V_goto (tgt := 2) (dk D_X6_failAll 20 rfl) (by decide) ?_
  refine V_pick [0, 1] (lv2 := [(0, _), (1, _)]) rfl ?_
  exact h
def L_X6_deskResumes : List (Nat × Instr × Nat) := [(0, .aload_n 1, 1), (1, .iconst 0, 1), (2, .putfield 116, 3), (5, .aload_n 0, 1), (6, .iconst 0, 1), (7, .aload_n 1, 1), (8, .iload_n 2, 1), (9, .invokevirtual 119, 3), (12, .return_, 1)]
theorem D_X6_deskResumes : dOk cX6_deskResumes L_X6_deskResumes = true := by decide +kernel
theorem w_X6_deskResumes_0 {X : Cx} {d : Nat} {S : Mem} {Q : Res → Mem → Prop} (r0 : Nat) (r1 : Nat) (x2 : Int32) (h : (isK S r1 10) ∧ ∀ S2 : Mem, S2 = uI S r1 5 0 → (isK S r0 6) ∧ ∃ e3 : Nat, e3 + 1 ≤ d ∧ C X e3 MX6_give [vR r0, vI 0, vR r1, vI x2] S2 (RV fun  S6 => Q (.inl none) S6)) : V X d MX6_deskResumes 0 [(0, vR r0), (1, vR r1), (2, vI x2)] [] S Q := by
  refine V_aload_n (pc2 := 1) (dk D_X6_deskResumes 0 rfl) rfl (V_lg 1 rfl) rfl ?_
  refine V_iconst (x := 0) (pc2 := 2) (dk D_X6_deskResumes 1 rfl) (by decide) rfl ?_
  obtain ⟨h1, h⟩ := h
  refine V_putI kc10 (pc2 := 5) 5 (dk D_X6_deskResumes 2 rfl) fl_6_116 (by decide) (Or.inl rfl) rfl rfl h1 ?_
  have h := h _ rfl
  refine V_aload_n (pc2 := 6) (dk D_X6_deskResumes 3 rfl) rfl (V_lg 0 rfl) rfl ?_
  refine V_iconst (x := 0) (pc2 := 7) (dk D_X6_deskResumes 4 rfl) (by decide) rfl ?_
  refine V_aload_n (pc2 := 8) (dk D_X6_deskResumes 5 rfl) rfl (V_lg 1 rfl) rfl ?_
  refine V_iload_n (pc2 := 9) (dk D_X6_deskResumes 6 rfl) rfl (V_lg 2 rfl) rfl ?_
  obtain ⟨h7, h⟩ := h
  obtain ⟨e3, he4, hc5⟩ := h
  refine V_callV (as := [_, _, _]) (st := []) (M' := MX6_give) (ci := 6) (pc2 := 12) (dk D_X6_deskResumes 7 rfl) ml_6_119 mv_X6_give rfl rfl (by decide) rfl (Nat.le_of_ble_eq_true rfl) rfl he4 h7 hc5 (RV.k fun  S6 h => ?_)
  exact V_return (dk D_X6_deskResumes 8 rfl) rfl h
def L_X6_deskInjects : List (Nat × Instr × Nat) := [(0, .aload_n 0, 1), (1, .aload_n 1, 1), (2, .iconst 0, 1), (3, .aload_n 0, 1), (4, .getfield 24, 3), (7, .iload_n 2, 1), (8, .iload_n 3, 1), (9, .iconst 0, 1), (10, .bipush (-9), 2), (12, .iconst 0, 1), (13, .invokevirtual 123, 3), (16, .invokevirtual 127, 3), (19, .return_, 1)]
theorem D_X6_deskInjects : dOk cX6_deskInjects L_X6_deskInjects = true := by decide +kernel
theorem w_X6_deskInjects_0 {X : Cx} {d : Nat} {S : Mem} {Q : Res → Mem → Prop} (r0 : Nat) (r1 : Nat) (x2 : Int32) (x3 : Int32) (h : (isK S r0 6) ∧ (isK S (gR S r0 2) 2) ∧ ∃ e2 : Nat, e2 + 1 ≤ d ∧ C X e2 MX2_make [vR (gR S r0 2), vI x2, vI x3, vI 0, vI (-9), vI 0] S (RI fun y5 S6 => (isK S6 r0 6) ∧ ∃ e8 : Nat, e8 + 1 ≤ d ∧ C X e8 MX6_throwInto [vR r0, vR r1, vI 0, vI y5] S6 (RV fun  S11 => Q (.inl none) S11))) : V X d MX6_deskInjects 0 [(0, vR r0), (1, vR r1), (2, vI x2), (3, vI x3)] [] S Q := by
  refine V_aload_n (pc2 := 1) (dk D_X6_deskInjects 0 rfl) rfl (V_lg 0 rfl) rfl ?_
  refine V_aload_n (pc2 := 2) (dk D_X6_deskInjects 1 rfl) rfl (V_lg 1 rfl) rfl ?_
  refine V_iconst (x := 0) (pc2 := 3) (dk D_X6_deskInjects 2 rfl) (by decide) rfl ?_
  refine V_aload_n (pc2 := 4) (dk D_X6_deskInjects 3 rfl) rfl (V_lg 0 rfl) rfl ?_
  obtain ⟨h1, h⟩ := h
  refine V_getR kc6 (pc2 := 7) 2 (dk D_X6_deskInjects 4 rfl) fl_6_24 (by decide) (fun _ => rfl) rfl h1 ?_
  refine V_iload_n (pc2 := 8) (dk D_X6_deskInjects 5 rfl) rfl (V_lg 2 rfl) rfl ?_
  refine V_iload_n (pc2 := 9) (dk D_X6_deskInjects 6 rfl) rfl (V_lg 3 rfl) rfl ?_
  refine V_iconst (x := 0) (pc2 := 10) (dk D_X6_deskInjects 7 rfl) (by decide) rfl ?_
  refine V_bipush (x := (-9)) (pc2 := 12) (dk D_X6_deskInjects 8 rfl) (by decide) rfl ?_
  refine V_iconst (x := 0) (pc2 := 13) (dk D_X6_deskInjects 9 rfl) (by decide) rfl ?_
  obtain ⟨h7, h⟩ := h
  obtain ⟨e2, he3, hc4⟩ := h
  refine V_callV (as := [_, _, _, _, _]) (st := [_, _, _]) (M' := MX2_make) (ci := 2) (pc2 := 16) (dk D_X6_deskInjects 10 rfl) ml_6_123 mv_X2_make rfl rfl (by decide) rfl (Nat.le_of_ble_eq_true rfl) rfl he3 h7 hc4 (RI.k fun y5 S6 h => ?_)
  obtain ⟨h12, h⟩ := h
  obtain ⟨e8, he9, hc10⟩ := h
  refine V_callV (as := [_, _, _]) (st := []) (M' := MX6_throwInto) (ci := 6) (pc2 := 19) (dk D_X6_deskInjects 11 rfl) ml_6_127 mv_X6_throwInto rfl rfl (by decide) rfl (Nat.le_of_ble_eq_true rfl) rfl he9 h12 hc10 (RV.k fun  S11 h => ?_)
  exact V_return (dk D_X6_deskInjects 12 rfl) rfl h
def L_X6_deskCloses : List (Nat × Instr × Nat) := [(0, .aload_n 0, 1), (1, .iconst 1, 1), (2, .putfield 80, 3), (5, .aload_n 1, 1), (6, .getfield 131, 3), (9, .ifCond .ne 13, 3), (12, .aload_n 0, 1), (13, .aload_n 1, 1), (14, .bipush 6, 2), (16, .invokevirtual 113, 3), (19, .goto 28, 3), (22, .aload_n 1, 1), (23, .iconst 1, 1), (24, .putfield 134, 3), (27, .aload_n 0, 1), (28, .aload_n 1, 1), (29, .iconst 0, 1), (30, .aload_n 0, 1), (31, .getfield 24, 3), (34, .bipush 14, 2), (36, .iconst 0, 1), (37, .iconst 0, 1), (38, .bipush (-9), 2), (40, .iconst 0, 1), (41, .invokevirtual 123, 3), (44, .invokevirtual 127, 3), (47, .return_, 1)]
theorem D_X6_deskCloses : dOk cX6_deskCloses L_X6_deskCloses = true := by decide +kernel
theorem w_X6_deskCloses_0 {X : Cx} {d : Nat} {S : Mem} {Q : Res → Mem → Prop} (r0 : Nat) (r1 : Nat) (h : (isK S r0 6) ∧ ∀ S2 : Mem, S2 = uI S r0 15 1 → (isK S r1 10) ∧ ((¬ (gI S2 r1 1) = 0 → ∀ S5 : Mem, S5 = uI S2 r1 11 1 → (isK S (gR S r0 2) 2) ∧ ∃ e6 : Nat, e6 + 1 ≤ d ∧ C X e6 MX2_make [vR (gR S r0 2), vI 14, vI 0, vI 0, vI (-9), vI 0] S5 (RI fun y9 S10 => (isK S10 r0 6) ∧ ∃ e12 : Nat, e12 + 1 ≤ d ∧ C X e12 MX6_throwInto [vR r0, vR r1, vI 0, vI y9] S10 (RV fun  S15 => V X d MX6_deskCloses 47 [(0, vR r0), (1, vR r1)] [] S15 Q))) ∧ ((gI S2 r1 1) = 0 → ∃ e17 : Nat, e17 + 1 ≤ d ∧ C X e17 MX6_end [vR r0, vR r1, vI 6] S2 (RV fun  S20 => V X d MX6_deskCloses 47 [(0, vR r0), (1, vR r1)] [] S20 Q)))) : V X d MX6_deskCloses 0 [(0, vR r0), (1, vR r1)] [] S Q := by
  refine V_aload_n (pc2 := 1) (dk D_X6_deskCloses 0 rfl) rfl (V_lg 0 rfl) rfl ?_
  refine V_iconst (x := 1) (pc2 := 2) (dk D_X6_deskCloses 1 rfl) (by decide) rfl ?_
  obtain ⟨h1, h⟩ := h
  refine V_putI kc6 (pc2 := 5) 15 (dk D_X6_deskCloses 2 rfl) fl_6_80 (by decide) (Or.inl rfl) rfl rfl h1 ?_
  have h := h _ rfl
  refine V_aload_n (pc2 := 6) (dk D_X6_deskCloses 3 rfl) rfl (V_lg 1 rfl) rfl ?_
  obtain ⟨h3, h⟩ := h
  refine V_getI kc10 (pc2 := 9) 1 (dk D_X6_deskCloses 4 rfl) fl_6_131 (by decide) (fun _ => rfl) rfl h3 ?_
  refine V_ifne (tgt := 22) (pc2 := 12) (dk D_X6_deskCloses 5 rfl) (by decide) rfl (fun q4 => ?_) (fun q4 => ?_)
  · have h := h.1 q4
    refine V_aload_n (pc2 := 23) (dk D_X6_deskCloses 11 rfl) rfl (V_lg 1 rfl) rfl ?_
    refine V_iconst (x := 1) (pc2 := 24) (dk D_X6_deskCloses 12 rfl) (by decide) rfl ?_
    refine V_putZ kc10 (pc2 := 27) 11 (dk D_X6_deskCloses 13 rfl) fl_6_134 (by decide) (Or.inl rfl) rfl rfl h3 (Or.inr rfl) ?_
    have h := h _ rfl
    refine V_aload_n (pc2 := 28) (dk D_X6_deskCloses 14 rfl) rfl (V_lg 0 rfl) rfl ?_
    refine V_aload_n (pc2 := 29) (dk D_X6_deskCloses 15 rfl) rfl (V_lg 1 rfl) rfl ?_
    refine V_iconst (x := 0) (pc2 := 30) (dk D_X6_deskCloses 16 rfl) (by decide) rfl ?_
    refine V_aload_n (pc2 := 31) (dk D_X6_deskCloses 17 rfl) rfl (V_lg 0 rfl) rfl ?_
    refine V_getR kc6 (pc2 := 34) 2 (dk D_X6_deskCloses 18 rfl) fl_6_24 (by decide) (fun _ => rfl) rfl h1 ?_
    refine V_bipush (x := 14) (pc2 := 36) (dk D_X6_deskCloses 19 rfl) (by decide) rfl ?_
    refine V_iconst (x := 0) (pc2 := 37) (dk D_X6_deskCloses 20 rfl) (by decide) rfl ?_
    refine V_iconst (x := 0) (pc2 := 38) (dk D_X6_deskCloses 21 rfl) (by decide) rfl ?_
    refine V_bipush (x := (-9)) (pc2 := 40) (dk D_X6_deskCloses 22 rfl) (by decide) rfl ?_
    refine V_iconst (x := 0) (pc2 := 41) (dk D_X6_deskCloses 23 rfl) (by decide) rfl ?_
    obtain ⟨h11, h⟩ := h
    obtain ⟨e6, he7, hc8⟩ := h
    refine V_callV (as := [_, _, _, _, _]) (st := [_, _, _]) (M' := MX2_make) (ci := 2) (pc2 := 44) (dk D_X6_deskCloses 24 rfl) ml_6_123 mv_X2_make rfl rfl (by decide) rfl (Nat.le_of_ble_eq_true rfl) rfl he7 h11 hc8 (RI.k fun y9 S10 h => ?_)
    obtain ⟨h16, h⟩ := h
    obtain ⟨e12, he13, hc14⟩ := h
    refine V_callV (as := [_, _, _]) (st := []) (M' := MX6_throwInto) (ci := 6) (pc2 := 47) (dk D_X6_deskCloses 25 rfl) ml_6_127 mv_X6_throwInto rfl rfl (by decide) rfl (Nat.le_of_ble_eq_true rfl) rfl he13 h16 hc14 (RV.k fun  S15 h => ?_)
    exact h
  · have h := h.2 q4
    refine V_aload_n (pc2 := 13) (dk D_X6_deskCloses 6 rfl) rfl (V_lg 0 rfl) rfl ?_
    refine V_aload_n (pc2 := 14) (dk D_X6_deskCloses 7 rfl) rfl (V_lg 1 rfl) rfl ?_
    refine V_bipush (x := 6) (pc2 := 16) (dk D_X6_deskCloses 8 rfl) (by decide) rfl ?_
    obtain ⟨e17, he18, hc19⟩ := h
    refine V_callV (as := [_, _]) (st := []) (M' := MX6_end) (ci := 6) (pc2 := 19) (dk D_X6_deskCloses 9 rfl) ml_6_113 mv_X6_end rfl rfl (by decide) rfl (Nat.le_of_ble_eq_true rfl) rfl he18 h1 hc19 (RV.k fun  S20 h => ?_)
    refine V_goto (tgt := 47) (dk D_X6_deskCloses 10 rfl) (by decide) ?_
    exact h
theorem w_X6_deskCloses_47 {X : Cx} {d : Nat} {S : Mem} {Q : Res → Mem → Prop} (r0 : Nat) (r1 : Nat) (h : Q (.inl none) S) : V X d MX6_deskCloses 47 [(0, vR r0), (1, vR r1)] [] S Q := by
  exact V_return (dk D_X6_deskCloses 26 rfl) rfl h
def L_X6_findReached : List (Nat × Instr × Nat) := [(0, .iconst 1, 1), (1, .istore_n 1, 1), (2, .iload_n 1, 1), (3, .aload_n 0, 1), (4, .getfield 65, 3), (7, .if_icmp .gt 35, 3), (10, .aload_n 0, 1), (11, .iload_n 1, 1), (12, .invokevirtual 106, 3), (15, .astore_n 2, 1), (16, .aload_n 2, 1), (17, .ifnull 19, 3), (20, .aload_n 2, 1), (21, .aload_n 2, 1), (22, .getfield 137, 3), (25, .ifCond .ne 7, 3), (28, .iconst 1, 1), (29, .goto 4, 3), (32, .iconst 0, 1), (33, .putfield 140, 3), (36, .iinc 1 1, 3), (39, .goto (-37), 3), (42, .iconst 1, 1), (43, .istore_n 1, 1), (44, .iconst 0, 1), (45, .istore_n 2, 1), (46, .iload_n 2, 1), (47, .bipush 60, 2), (49, .if_icmp .gt 74, 3), (52, .iload_n 1, 1), (53, .ifCond .eq 70, 3), (56, .iconst 0, 1), (57, .istore_n 1, 1), (58, .iconst 1, 1), (59, .istore_n 3, 1), (60, .iload_n 3, 1), (61, .aload_n 0, 1), (62, .getfield 65, 3), (65, .if_icmp .gt 52, 3), (68, .aload_n 0, 1), (69, .iload_n 3, 1), (70, .invokevirtual 106, 3), (73, .astore 4, 2), (75, .aload 4, 2), (77, .ifnull 34, 3), (80, .aload 4, 2), (82, .getfield 140, 3), (85, .iconst 1, 1), (86, .if_icmp .ne 25, 3), (89, .aload 4, 2), (91, .invokevirtual 110, 3), (94, .ifCond .ne 17, 3), (97, .aload 4, 2), (99, .iconst 2, 1), (100, .putfield 140, 3), (103, .aload_n 0, 1), (104, .aload 4, 2), (106, .invokevirtual 143, 3), (109, .iconst 1, 1), (110, .istore_n 1, 1), (111, .iinc 3 1, 3), (114, .goto (-54), 3), (117, .iinc 2 1, 3), (120, .goto (-74), 3), (123, .aload_n 0, 1), (124, .getfield 65, 3), (127, .ireturn, 1)]
theorem D_X6_findReached : dOk cX6_findReached L_X6_findReached = true := by decide +kernel
theorem w_X6_findReached_0 {X : Cx} {d : Nat} {S : Mem} {Q : Res → Mem → Prop} (r0 : Nat) (h : V X d MX6_findReached 2 [(0, vR r0), (1, vI 1)] [] S Q) : V X d MX6_findReached 0 [(0, vR r0)] [] S Q := by
  refine V_iconst (x := 1) (pc2 := 1) (dk D_X6_findReached 0 rfl) (by decide) rfl ?_
  refine V_istore_n (pc2 := 2) (lv2 := [(0, _), (1, _)]) (dk D_X6_findReached 1 rfl) rfl (by decide) rfl rfl ?_
  exact h
theorem w_X6_findReached_2 {X : Cx} {d : Nat} {S : Mem} {Q : Res → Mem → Prop} (r0 : Nat) (x1 : Int32) (h : (isK S r0 6) ∧ (((gI S r0 10) < x1 → V X d MX6_findReached 46 [(0, vR r0), (1, vI 1), (2, vI 0)] [] S Q) ∧ (¬ (gI S r0 10) < x1 → ∃ e3 : Nat, e3 + 1 ≤ d ∧ C X e3 MX6_find [vR r0, vI x1] S (RR fun p6 S7 => ((p6 = 0 → V X d MX6_findReached 36 [(0, vR r0), (1, vI x1), (2, vR p6)] [] S7 Q) ∧ (¬ p6 = 0 → (isK S7 p6 10) ∧ ((¬ (gI S7 p6 4) = 0 → V X d MX6_findReached 33 [(0, vR r0), (1, vI x1), (2, vR p6)] [vI 0, vR p6] S7 Q) ∧ ((gI S7 p6 4) = 0 → V X d MX6_findReached 33 [(0, vR r0), (1, vI x1), (2, vR p6)] [vI 1, vR p6] S7 Q)))))))) : V X d MX6_findReached 2 [(0, vR r0), (1, vI x1)] [] S Q := by
  refine V_iload_n (pc2 := 3) (dk D_X6_findReached 2 rfl) rfl (V_lg 1 rfl) rfl ?_
  refine V_aload_n (pc2 := 4) (dk D_X6_findReached 3 rfl) rfl (V_lg 0 rfl) rfl ?_
  obtain ⟨h1, h⟩ := h
  refine V_getI kc6 (pc2 := 7) 10 (dk D_X6_findReached 4 rfl) fl_6_65 (by decide) (fun _ => rfl) rfl h1 ?_
  refine V_cmpgt (tgt := 42) (pc2 := 10) (dk D_X6_findReached 5 rfl) (by decide) rfl (fun q2 => ?_) (fun q2 => ?_)
  · have h := h.1 q2
    refine V_iconst (x := 1) (pc2 := 43) (dk D_X6_findReached 22 rfl) (by decide) rfl ?_
    refine V_istore_n (pc2 := 44) (lv2 := [(0, _), (1, _)]) (dk D_X6_findReached 23 rfl) rfl (by decide) rfl rfl ?_
    refine V_iconst (x := 0) (pc2 := 45) (dk D_X6_findReached 24 rfl) (by decide) rfl ?_
    refine V_istore_n (pc2 := 46) (lv2 := [(0, _), (1, _), (2, _)]) (dk D_X6_findReached 25 rfl) rfl (by decide) rfl rfl ?_
    exact h
  · have h := h.2 q2
    refine V_aload_n (pc2 := 11) (dk D_X6_findReached 6 rfl) rfl (V_lg 0 rfl) rfl ?_
    refine V_iload_n (pc2 := 12) (dk D_X6_findReached 7 rfl) rfl (V_lg 1 rfl) rfl ?_
    obtain ⟨e3, he4, hc5⟩ := h
    refine V_callV (as := [_]) (st := []) (M' := MX6_find) (ci := 6) (pc2 := 15) (dk D_X6_findReached 8 rfl) ml_6_106 mv_X6_find rfl rfl (by decide) rfl (Nat.le_of_ble_eq_true rfl) rfl he4 h1 hc5 (RR.k fun p6 S7 h => ?_)
    refine V_astore_n (pc2 := 16) (lv2 := [(0, _), (1, _), (2, _)]) (dk D_X6_findReached 9 rfl) rfl (by decide) rfl rfl ?_
    refine V_aload_n (pc2 := 17) (dk D_X6_findReached 10 rfl) rfl (V_lg 2 rfl) rfl ?_
    refine V_ifnull (tgt := 36) (pc2 := 20) (dk D_X6_findReached 11 rfl) (by decide) rfl (fun q8 => ?_) (fun q8 => ?_)
    · have h := h.1 q8
      exact h
    · have h := h.2 q8
      refine V_aload_n (pc2 := 21) (dk D_X6_findReached 12 rfl) rfl (V_lg 2 rfl) rfl ?_
      refine V_aload_n (pc2 := 22) (dk D_X6_findReached 13 rfl) rfl (V_lg 2 rfl) rfl ?_
      obtain ⟨h9, h⟩ := h
      refine V_getI kc10 (pc2 := 25) 4 (dk D_X6_findReached 14 rfl) fl_6_137 (by decide) (fun _ => rfl) rfl h9 ?_
      refine V_ifne (tgt := 32) (pc2 := 28) (dk D_X6_findReached 15 rfl) (by decide) rfl (fun q10 => ?_) (fun q10 => ?_)
      · have h := h.1 q10
        refine V_iconst (x := 0) (pc2 := 33) (dk D_X6_findReached 18 rfl) (by decide) rfl ?_
        exact h
      · have h := h.2 q10
        refine V_iconst (x := 1) (pc2 := 29) (dk D_X6_findReached 16 rfl) (by decide) rfl ?_
        refine V_goto (tgt := 33) (dk D_X6_findReached 17 rfl) (by decide) ?_
        exact h
theorem w_X6_findReached_33 {X : Cx} {d : Nat} {S : Mem} {Q : Res → Mem → Prop} (r0 : Nat) (x1 : Int32) (r2 : Nat) (t0 : Nat) (t1 : Int32) (h : (isK S t0 10) ∧ ∀ S2 : Mem, S2 = uI S t0 10 t1 → V X d MX6_findReached 36 [(0, vR r0), (1, vI x1), (2, vR r2)] [] S2 Q) : V X d MX6_findReached 33 [(0, vR r0), (1, vI x1), (2, vR r2)] [vI t1, vR t0] S Q := by
  obtain ⟨h1, h⟩ := h
  refine V_putI kc10 (pc2 := 36) 10 (dk D_X6_findReached 19 rfl) fl_6_140 (by decide) (Or.inl rfl) rfl rfl h1 ?_
  have h := h _ rfl
  exact h
theorem w_X6_findReached_36 {X : Cx} {d : Nat} {S : Mem} {Q : Res → Mem → Prop} (r0 : Nat) (x1 : Int32) (r2 : Nat) (h : V X d MX6_findReached 2 [(0, vR r0), (1, vI (x1 + 1))] [] S Q) : V X d MX6_findReached 36 [(0, vR r0), (1, vI x1), (2, vR r2)] [] S Q := by
  refine V_iinc (y := _ + 1) (pc2 := 39) (lv2 := [(0, _), (1, _), (2, _)]) (dk D_X6_findReached 20 rfl) (V_lg 1 rfl) rfl (by decide) rfl rfl ?_
  refine V_goto (tgt := 2) (dk D_X6_findReached 21 rfl) (by decide) ?_
  refine V_pick [0, 1] (lv2 := [(0, _), (1, _)]) rfl ?_
  exact h
theorem w_X6_findReached_46 {X : Cx} {d : Nat} {S : Mem} {Q : Res → Mem → Prop} (r0 : Nat) (x1 : Int32) (x2 : Int32) (h : ((60 < x2 → V X d MX6_findReached 123 [(0, vR r0), (1, vI x1), (2, vI x2)] [] S Q) ∧ (¬ 60 < x2 → ((x1 = 0 → V X d MX6_findReached 123 [(0, vR r0), (1, vI x1), (2, vI x2)] [] S Q) ∧ (¬ x1 = 0 → V X d MX6_findReached 60 [(0, vR r0), (1, vI 0), (2, vI x2), (3, vI 1)] [] S Q))))) : V X d MX6_findReached 46 [(0, vR r0), (1, vI x1), (2, vI x2)] [] S Q := by
  refine V_iload_n (pc2 := 47) (dk D_X6_findReached 26 rfl) rfl (V_lg 2 rfl) rfl ?_
  refine V_bipush (x := 60) (pc2 := 49) (dk D_X6_findReached 27 rfl) (by decide) rfl ?_
  refine V_cmpgt (tgt := 123) (pc2 := 52) (dk D_X6_findReached 28 rfl) (by decide) rfl (fun q1 => ?_) (fun q1 => ?_)
  · have h := h.1 q1
    exact h
  · have h := h.2 q1
    refine V_iload_n (pc2 := 53) (dk D_X6_findReached 29 rfl) rfl (V_lg 1 rfl) rfl ?_
    refine V_ifeq (tgt := 123) (pc2 := 56) (dk D_X6_findReached 30 rfl) (by decide) rfl (fun q2 => ?_) (fun q2 => ?_)
    · have h := h.1 q2
      exact h
    · have h := h.2 q2
      refine V_iconst (x := 0) (pc2 := 57) (dk D_X6_findReached 31 rfl) (by decide) rfl ?_
      refine V_istore_n (pc2 := 58) (lv2 := [(0, _), (1, _), (2, _)]) (dk D_X6_findReached 32 rfl) rfl (by decide) rfl rfl ?_
      refine V_iconst (x := 1) (pc2 := 59) (dk D_X6_findReached 33 rfl) (by decide) rfl ?_
      refine V_istore_n (pc2 := 60) (lv2 := [(0, _), (1, _), (2, _), (3, _)]) (dk D_X6_findReached 34 rfl) rfl (by decide) rfl rfl ?_
      exact h
theorem w_X6_findReached_60 {X : Cx} {d : Nat} {S : Mem} {Q : Res → Mem → Prop} (r0 : Nat) (x1 : Int32) (x2 : Int32) (x3 : Int32) (h : (isK S r0 6) ∧ (((gI S r0 10) < x3 → V X d MX6_findReached 46 [(0, vR r0), (1, vI x1), (2, vI (x2 + 1))] [] S Q) ∧ (¬ (gI S r0 10) < x3 → ∃ e3 : Nat, e3 + 1 ≤ d ∧ C X e3 MX6_find [vR r0, vI x3] S (RR fun p6 S7 => ((p6 = 0 → V X d MX6_findReached 111 [(0, vR r0), (1, vI x1), (2, vI x2), (3, vI x3), (4, vR p6)] [] S7 Q) ∧ (¬ p6 = 0 → (isK S7 p6 10) ∧ ((¬ (gI S7 p6 10) = 1 → V X d MX6_findReached 111 [(0, vR r0), (1, vI x1), (2, vI x2), (3, vI x3), (4, vR p6)] [] S7 Q) ∧ ((gI S7 p6 10) = 1 → ∃ e11 : Nat, e11 + 1 ≤ d ∧ C X e11 MX10_isOver [vR p6] S7 (RI fun y14 S15 => ((¬ y14 = 0 → V X d MX6_findReached 111 [(0, vR r0), (1, vI x1), (2, vI x2), (3, vI x3), (4, vR p6)] [] S15 Q) ∧ (y14 = 0 → (isK S15 p6 10) ∧ ∀ S18 : Mem, S18 = uI S15 p6 10 2 → (isK S15 r0 6) ∧ ∃ e19 : Nat, e19 + 1 ≤ d ∧ C X e19 MX6_lookInto [vR r0, vR p6] S18 (RV fun  S22 => V X d MX6_findReached 111 [(0, vR r0), (1, vI 1), (2, vI x2), (3, vI x3), (4, vR p6)] [] S22 Q)))))))))))) : V X d MX6_findReached 60 [(0, vR r0), (1, vI x1), (2, vI x2), (3, vI x3)] [] S Q := by
  refine V_iload_n (pc2 := 61) (dk D_X6_findReached 35 rfl) rfl (V_lg 3 rfl) rfl ?_
  refine V_aload_n (pc2 := 62) (dk D_X6_findReached 36 rfl) rfl (V_lg 0 rfl) rfl ?_
  obtain ⟨h1, h⟩ := h
  refine V_getI kc6 (pc2 := 65) 10 (dk D_X6_findReached 37 rfl) fl_6_65 (by decide) (fun _ => rfl) rfl h1 ?_
  refine V_cmpgt (tgt := 117) (pc2 := 68) (dk D_X6_findReached 38 rfl) (by decide) rfl (fun q2 => ?_) (fun q2 => ?_)
  · have h := h.1 q2
    refine V_iinc (y := _ + 1) (pc2 := 120) (lv2 := [(0, _), (1, _), (2, _), (3, _)]) (dk D_X6_findReached 62 rfl) (V_lg 2 rfl) rfl (by decide) rfl rfl ?_
    refine V_goto (tgt := 46) (dk D_X6_findReached 63 rfl) (by decide) ?_
    refine V_pick [0, 1, 2] (lv2 := [(0, _), (1, _), (2, _)]) rfl ?_
    exact h
  · have h := h.2 q2
    refine V_aload_n (pc2 := 69) (dk D_X6_findReached 39 rfl) rfl (V_lg 0 rfl) rfl ?_
    refine V_iload_n (pc2 := 70) (dk D_X6_findReached 40 rfl) rfl (V_lg 3 rfl) rfl ?_
    obtain ⟨e3, he4, hc5⟩ := h
    refine V_callV (as := [_]) (st := []) (M' := MX6_find) (ci := 6) (pc2 := 73) (dk D_X6_findReached 41 rfl) ml_6_106 mv_X6_find rfl rfl (by decide) rfl (Nat.le_of_ble_eq_true rfl) rfl he4 h1 hc5 (RR.k fun p6 S7 h => ?_)
    refine V_astore (pc2 := 75) (lv2 := [(0, _), (1, _), (2, _), (3, _), (4, _)]) (dk D_X6_findReached 42 rfl) (by decide) rfl rfl ?_
    refine V_aload (pc2 := 77) (dk D_X6_findReached 43 rfl) (V_lg 4 rfl) rfl ?_
    refine V_ifnull (tgt := 111) (pc2 := 80) (dk D_X6_findReached 44 rfl) (by decide) rfl (fun q8 => ?_) (fun q8 => ?_)
    · have h := h.1 q8
      exact h
    · have h := h.2 q8
      refine V_aload (pc2 := 82) (dk D_X6_findReached 45 rfl) (V_lg 4 rfl) rfl ?_
      obtain ⟨h9, h⟩ := h
      refine V_getI kc10 (pc2 := 85) 10 (dk D_X6_findReached 46 rfl) fl_6_140 (by decide) (fun _ => rfl) rfl h9 ?_
      refine V_iconst (x := 1) (pc2 := 86) (dk D_X6_findReached 47 rfl) (by decide) rfl ?_
      refine V_cmpne (tgt := 111) (pc2 := 89) (dk D_X6_findReached 48 rfl) (by decide) rfl (fun q10 => ?_) (fun q10 => ?_)
      · have h := h.1 q10
        exact h
      · have h := h.2 q10
        refine V_aload (pc2 := 91) (dk D_X6_findReached 49 rfl) (V_lg 4 rfl) rfl ?_
        obtain ⟨e11, he12, hc13⟩ := h
        refine V_callV (as := []) (st := []) (M' := MX10_isOver) (ci := 10) (pc2 := 94) (dk D_X6_findReached 50 rfl) ml_6_110 mv_X10_isOver rfl rfl (by decide) rfl (Nat.le_of_ble_eq_true rfl) rfl he12 h9 hc13 (RI.k fun y14 S15 h => ?_)
        refine V_ifne (tgt := 111) (pc2 := 97) (dk D_X6_findReached 51 rfl) (by decide) rfl (fun q16 => ?_) (fun q16 => ?_)
        · have h := h.1 q16
          exact h
        · have h := h.2 q16
          refine V_aload (pc2 := 99) (dk D_X6_findReached 52 rfl) (V_lg 4 rfl) rfl ?_
          refine V_iconst (x := 2) (pc2 := 100) (dk D_X6_findReached 53 rfl) (by decide) rfl ?_
          obtain ⟨h17, h⟩ := h
          refine V_putI kc10 (pc2 := 103) 10 (dk D_X6_findReached 54 rfl) fl_6_140 (by decide) (Or.inl rfl) rfl rfl h17 ?_
          have h := h _ rfl
          refine V_aload_n (pc2 := 104) (dk D_X6_findReached 55 rfl) rfl (V_lg 0 rfl) rfl ?_
          refine V_aload (pc2 := 106) (dk D_X6_findReached 56 rfl) (V_lg 4 rfl) rfl ?_
          obtain ⟨h23, h⟩ := h
          obtain ⟨e19, he20, hc21⟩ := h
          refine V_callV (as := [_]) (st := []) (M' := MX6_lookInto) (ci := 6) (pc2 := 109) (dk D_X6_findReached 57 rfl) ml_6_143 mv_X6_lookInto rfl rfl (by decide) rfl (Nat.le_of_ble_eq_true rfl) rfl he20 h23 hc21 (RV.k fun  S22 h => ?_)
          refine V_iconst (x := 1) (pc2 := 110) (dk D_X6_findReached 58 rfl) (by decide) rfl ?_
          refine V_istore_n (pc2 := 111) (lv2 := [(0, _), (1, _), (2, _), (3, _), (4, _)]) (dk D_X6_findReached 59 rfl) rfl (by decide) rfl rfl ?_
          exact h
theorem w_X6_findReached_111 {X : Cx} {d : Nat} {S : Mem} {Q : Res → Mem → Prop} (r0 : Nat) (x1 : Int32) (x2 : Int32) (x3 : Int32) (r4 : Nat) (h : V X d MX6_findReached 60 [(0, vR r0), (1, vI x1), (2, vI x2), (3, vI (x3 + 1))] [] S Q) : V X d MX6_findReached 111 [(0, vR r0), (1, vI x1), (2, vI x2), (3, vI x3), (4, vR r4)] [] S Q := by
  refine V_iinc (y := _ + 1) (pc2 := 114) (lv2 := [(0, _), (1, _), (2, _), (3, _), (4, _)]) (dk D_X6_findReached 60 rfl) (V_lg 3 rfl) rfl (by decide) rfl rfl ?_
  refine V_goto (tgt := 60) (dk D_X6_findReached 61 rfl) (by decide) ?_
  refine V_pick [0, 1, 2, 3] (lv2 := [(0, _), (1, _), (2, _), (3, _)]) rfl ?_
  exact h
theorem w_X6_findReached_123 {X : Cx} {d : Nat} {S : Mem} {Q : Res → Mem → Prop} (r0 : Nat) (x1 : Int32) (x2 : Int32) (h : (isK S r0 6) ∧ Q (.inl (some (vI (gI S r0 10)))) S) : V X d MX6_findReached 123 [(0, vR r0), (1, vI x1), (2, vI x2)] [] S Q := by
  refine V_aload_n (pc2 := 124) (dk D_X6_findReached 64 rfl) rfl (V_lg 0 rfl) rfl ?_
  obtain ⟨h1, h⟩ := h
  refine V_getI kc6 (pc2 := 127) 10 (dk D_X6_findReached 65 rfl) fl_6_65 (by decide) (fun _ => rfl) rfl h1 ?_
  exact V_ireturn (dk D_X6_findReached 66 rfl) rfl h
def L_X6_lookInto : List (Nat × Instr × Nat) := [(0, .aload_n 1, 1), (1, .getfield 131, 3), (4, .ifCond .ne 11, 3), (7, .aload_n 0, 1), (8, .aload_n 1, 1), (9, .getfield 147, 3), (12, .invokevirtual 150, 3), (15, .iconst 0, 1), (16, .istore_n 2, 1), (17, .iload_n 2, 1), (18, .aload_n 1, 1), (19, .getfield 154, 3), (22, .if_icmp .ge 45, 3), (25, .aload_n 1, 1), (26, .iload_n 2, 1), (27, .invokevirtual 157, 3), (30, .istore_n 3, 1), (31, .iconst 0, 1), (32, .istore 4, 2), (34, .iload 4, 2), (36, .aload_n 1, 1), (37, .iload_n 3, 1), (38, .invokevirtual 161, 3), (41, .if_icmp .ge 20, 3), (44, .aload_n 0, 1), (45, .aload_n 1, 1), (46, .iload_n 3, 1), (47, .iload 4, 2), (49, .invokevirtual 164, 3), (52, .invokevirtual 150, 3), (55, .iinc 4 1, 3), (58, .goto (-24), 3), (61, .iinc 2 1, 3), (64, .goto (-47), 3), (67, .return_, 1)]
theorem D_X6_lookInto : dOk cX6_lookInto L_X6_lookInto = true := by decide +kernel
theorem w_X6_lookInto_0 {X : Cx} {d : Nat} {S : Mem} {Q : Res → Mem → Prop} (r0 : Nat) (r1 : Nat) (h : (isK S r1 10) ∧ ((¬ (gI S r1 1) = 0 → V X d MX6_lookInto 15 [(0, vR r0), (1, vR r1)] [] S Q) ∧ ((gI S r1 1) = 0 → (isK S r0 6) ∧ ∃ e3 : Nat, e3 + 1 ≤ d ∧ C X e3 MX6_reach [vR r0, vI (gI S r1 3)] S (RV fun  S6 => V X d MX6_lookInto 15 [(0, vR r0), (1, vR r1)] [] S6 Q)))) : V X d MX6_lookInto 0 [(0, vR r0), (1, vR r1)] [] S Q := by
  refine V_aload_n (pc2 := 1) (dk D_X6_lookInto 0 rfl) rfl (V_lg 1 rfl) rfl ?_
  obtain ⟨h1, h⟩ := h
  refine V_getI kc10 (pc2 := 4) 1 (dk D_X6_lookInto 1 rfl) fl_6_131 (by decide) (fun _ => rfl) rfl h1 ?_
  refine V_ifne (tgt := 15) (pc2 := 7) (dk D_X6_lookInto 2 rfl) (by decide) rfl (fun q2 => ?_) (fun q2 => ?_)
  · have h := h.1 q2
    exact h
  · have h := h.2 q2
    refine V_aload_n (pc2 := 8) (dk D_X6_lookInto 3 rfl) rfl (V_lg 0 rfl) rfl ?_
    refine V_aload_n (pc2 := 9) (dk D_X6_lookInto 4 rfl) rfl (V_lg 1 rfl) rfl ?_
    refine V_getI kc10 (pc2 := 12) 3 (dk D_X6_lookInto 5 rfl) fl_6_147 (by decide) (fun _ => rfl) rfl h1 ?_
    obtain ⟨h7, h⟩ := h
    obtain ⟨e3, he4, hc5⟩ := h
    refine V_callV (as := [_]) (st := []) (M' := MX6_reach) (ci := 6) (pc2 := 15) (dk D_X6_lookInto 6 rfl) ml_6_150 mv_X6_reach rfl rfl (by decide) rfl (Nat.le_of_ble_eq_true rfl) rfl he4 h7 hc5 (RV.k fun  S6 h => ?_)
    exact h
theorem w_X6_lookInto_15 {X : Cx} {d : Nat} {S : Mem} {Q : Res → Mem → Prop} (r0 : Nat) (r1 : Nat) (h : V X d MX6_lookInto 17 [(0, vR r0), (1, vR r1), (2, vI 0)] [] S Q) : V X d MX6_lookInto 15 [(0, vR r0), (1, vR r1)] [] S Q := by
  refine V_iconst (x := 0) (pc2 := 16) (dk D_X6_lookInto 7 rfl) (by decide) rfl ?_
  refine V_istore_n (pc2 := 17) (lv2 := [(0, _), (1, _), (2, _)]) (dk D_X6_lookInto 8 rfl) rfl (by decide) rfl rfl ?_
  exact h
theorem w_X6_lookInto_17 {X : Cx} {d : Nat} {S : Mem} {Q : Res → Mem → Prop} (r0 : Nat) (r1 : Nat) (x2 : Int32) (h : (isK S r1 10) ∧ (((gI S r1 8) ≤ x2 → Q (.inl none) S) ∧ (¬ (gI S r1 8) ≤ x2 → ∃ e3 : Nat, e3 + 1 ≤ d ∧ C X e3 MX10_frameOf [vR r1, vI x2] S (RI fun y6 S7 => V X d MX6_lookInto 34 [(0, vR r0), (1, vR r1), (2, vI x2), (3, vI y6), (4, vI 0)] [] S7 Q)))) : V X d MX6_lookInto 17 [(0, vR r0), (1, vR r1), (2, vI x2)] [] S Q := by
  refine V_iload_n (pc2 := 18) (dk D_X6_lookInto 9 rfl) rfl (V_lg 2 rfl) rfl ?_
  refine V_aload_n (pc2 := 19) (dk D_X6_lookInto 10 rfl) rfl (V_lg 1 rfl) rfl ?_
  obtain ⟨h1, h⟩ := h
  refine V_getI kc10 (pc2 := 22) 8 (dk D_X6_lookInto 11 rfl) fl_6_154 (by decide) (fun _ => rfl) rfl h1 ?_
  refine V_cmpge (tgt := 67) (pc2 := 25) (dk D_X6_lookInto 12 rfl) (by decide) rfl (fun q2 => ?_) (fun q2 => ?_)
  · have h := h.1 q2
    exact V_return (dk D_X6_lookInto 34 rfl) rfl h
  · have h := h.2 q2
    refine V_aload_n (pc2 := 26) (dk D_X6_lookInto 13 rfl) rfl (V_lg 1 rfl) rfl ?_
    refine V_iload_n (pc2 := 27) (dk D_X6_lookInto 14 rfl) rfl (V_lg 2 rfl) rfl ?_
    obtain ⟨e3, he4, hc5⟩ := h
    refine V_callV (as := [_]) (st := []) (M' := MX10_frameOf) (ci := 10) (pc2 := 30) (dk D_X6_lookInto 15 rfl) ml_6_157 mv_X10_frameOf rfl rfl (by decide) rfl (Nat.le_of_ble_eq_true rfl) rfl he4 h1 hc5 (RI.k fun y6 S7 h => ?_)
    refine V_istore_n (pc2 := 31) (lv2 := [(0, _), (1, _), (2, _), (3, _)]) (dk D_X6_lookInto 16 rfl) rfl (by decide) rfl rfl ?_
    refine V_iconst (x := 0) (pc2 := 32) (dk D_X6_lookInto 17 rfl) (by decide) rfl ?_
    refine V_istore (pc2 := 34) (lv2 := [(0, _), (1, _), (2, _), (3, _), (4, _)]) (dk D_X6_lookInto 18 rfl) (by decide) rfl rfl ?_
    exact h
theorem w_X6_lookInto_34 {X : Cx} {d : Nat} {S : Mem} {Q : Res → Mem → Prop} (r0 : Nat) (r1 : Nat) (x2 : Int32) (x3 : Int32) (x4 : Int32) (h : (isK S r1 10) ∧ ∃ e1 : Nat, e1 + 1 ≤ d ∧ C X e1 MX10_variablesOf [vR r1, vI x3] S (RI fun y4 S5 => ((y4 ≤ x4 → V X d MX6_lookInto 17 [(0, vR r0), (1, vR r1), (2, vI (x2 + 1))] [] S5 Q) ∧ (¬ y4 ≤ x4 → (isK S5 r1 10) ∧ ∃ e8 : Nat, e8 + 1 ≤ d ∧ C X e8 MX10_variable [vR r1, vI x3, vI x4] S5 (RI fun y11 S12 => (isK S12 r0 6) ∧ ∃ e14 : Nat, e14 + 1 ≤ d ∧ C X e14 MX6_reach [vR r0, vI y11] S12 (RV fun  S17 => V X d MX6_lookInto 34 [(0, vR r0), (1, vR r1), (2, vI x2), (3, vI x3), (4, vI (x4 + 1))] [] S17 Q)))))) : V X d MX6_lookInto 34 [(0, vR r0), (1, vR r1), (2, vI x2), (3, vI x3), (4, vI x4)] [] S Q := by
  refine V_iload (pc2 := 36) (dk D_X6_lookInto 19 rfl) (V_lg 4 rfl) rfl ?_
  refine V_aload_n (pc2 := 37) (dk D_X6_lookInto 20 rfl) rfl (V_lg 1 rfl) rfl ?_
  refine V_iload_n (pc2 := 38) (dk D_X6_lookInto 21 rfl) rfl (V_lg 3 rfl) rfl ?_
  obtain ⟨h6, h⟩ := h
  obtain ⟨e1, he2, hc3⟩ := h
  refine V_callV (as := [_]) (st := [_]) (M' := MX10_variablesOf) (ci := 10) (pc2 := 41) (dk D_X6_lookInto 22 rfl) ml_6_161 mv_X10_variablesOf rfl rfl (by decide) rfl (Nat.le_of_ble_eq_true rfl) rfl he2 h6 hc3 (RI.k fun y4 S5 h => ?_)
  refine V_cmpge (tgt := 61) (pc2 := 44) (dk D_X6_lookInto 23 rfl) (by decide) rfl (fun q7 => ?_) (fun q7 => ?_)
  · have h := h.1 q7
    refine V_iinc (y := _ + 1) (pc2 := 64) (lv2 := [(0, _), (1, _), (2, _), (3, _), (4, _)]) (dk D_X6_lookInto 32 rfl) (V_lg 2 rfl) rfl (by decide) rfl rfl ?_
    refine V_goto (tgt := 17) (dk D_X6_lookInto 33 rfl) (by decide) ?_
    refine V_pick [0, 1, 2] (lv2 := [(0, _), (1, _), (2, _)]) rfl ?_
    exact h
  · have h := h.2 q7
    refine V_aload_n (pc2 := 45) (dk D_X6_lookInto 24 rfl) rfl (V_lg 0 rfl) rfl ?_
    refine V_aload_n (pc2 := 46) (dk D_X6_lookInto 25 rfl) rfl (V_lg 1 rfl) rfl ?_
    refine V_iload_n (pc2 := 47) (dk D_X6_lookInto 26 rfl) rfl (V_lg 3 rfl) rfl ?_
    refine V_iload (pc2 := 49) (dk D_X6_lookInto 27 rfl) (V_lg 4 rfl) rfl ?_
    obtain ⟨h13, h⟩ := h
    obtain ⟨e8, he9, hc10⟩ := h
    refine V_callV (as := [_, _]) (st := [_]) (M' := MX10_variable) (ci := 10) (pc2 := 52) (dk D_X6_lookInto 28 rfl) ml_6_164 mv_X10_variable rfl rfl (by decide) rfl (Nat.le_of_ble_eq_true rfl) rfl he9 h13 hc10 (RI.k fun y11 S12 h => ?_)
    obtain ⟨h18, h⟩ := h
    obtain ⟨e14, he15, hc16⟩ := h
    refine V_callV (as := [_]) (st := []) (M' := MX6_reach) (ci := 6) (pc2 := 55) (dk D_X6_lookInto 29 rfl) ml_6_150 mv_X6_reach rfl rfl (by decide) rfl (Nat.le_of_ble_eq_true rfl) rfl he15 h18 hc16 (RV.k fun  S17 h => ?_)
    refine V_iinc (y := _ + 1) (pc2 := 58) (lv2 := [(0, _), (1, _), (2, _), (3, _), (4, _)]) (dk D_X6_lookInto 30 rfl) (V_lg 4 rfl) rfl (by decide) rfl rfl ?_
    refine V_goto (tgt := 34) (dk D_X6_lookInto 31 rfl) (by decide) ?_
    exact h
def L_X6_reach : List (Nat × Instr × Nat) := [(0, .aload_n 0, 1), (1, .iload_n 1, 1), (2, .invokevirtual 106, 3), (5, .astore_n 2, 1), (6, .aload_n 2, 1), (7, .ifnull 15, 3), (10, .aload_n 2, 1), (11, .getfield 140, 3), (14, .ifCond .ne 8, 3), (17, .aload_n 2, 1), (18, .iconst 1, 1), (19, .putfield 140, 3), (22, .return_, 1)]
theorem D_X6_reach : dOk cX6_reach L_X6_reach = true := by decide +kernel
theorem w_X6_reach_0 {X : Cx} {d : Nat} {S : Mem} {Q : Res → Mem → Prop} (r0 : Nat) (x1 : Int32) (h : (isK S r0 6) ∧ ∃ e1 : Nat, e1 + 1 ≤ d ∧ C X e1 MX6_find [vR r0, vI x1] S (RR fun p4 S5 => ((p4 = 0 → V X d MX6_reach 22 [(0, vR r0), (1, vI x1), (2, vR p4)] [] S5 Q) ∧ (¬ p4 = 0 → (isK S5 p4 10) ∧ ((¬ (gI S5 p4 10) = 0 → V X d MX6_reach 22 [(0, vR r0), (1, vI x1), (2, vR p4)] [] S5 Q) ∧ ((gI S5 p4 10) = 0 → ∀ S10 : Mem, S10 = uI S5 p4 10 1 → V X d MX6_reach 22 [(0, vR r0), (1, vI x1), (2, vR p4)] [] S10 Q)))))) : V X d MX6_reach 0 [(0, vR r0), (1, vI x1)] [] S Q := by
  refine V_aload_n (pc2 := 1) (dk D_X6_reach 0 rfl) rfl (V_lg 0 rfl) rfl ?_
  refine V_iload_n (pc2 := 2) (dk D_X6_reach 1 rfl) rfl (V_lg 1 rfl) rfl ?_
  obtain ⟨h6, h⟩ := h
  obtain ⟨e1, he2, hc3⟩ := h
  refine V_callV (as := [_]) (st := []) (M' := MX6_find) (ci := 6) (pc2 := 5) (dk D_X6_reach 2 rfl) ml_6_106 mv_X6_find rfl rfl (by decide) rfl (Nat.le_of_ble_eq_true rfl) rfl he2 h6 hc3 (RR.k fun p4 S5 h => ?_)
  refine V_astore_n (pc2 := 6) (lv2 := [(0, _), (1, _), (2, _)]) (dk D_X6_reach 3 rfl) rfl (by decide) rfl rfl ?_
  refine V_aload_n (pc2 := 7) (dk D_X6_reach 4 rfl) rfl (V_lg 2 rfl) rfl ?_
  refine V_ifnull (tgt := 22) (pc2 := 10) (dk D_X6_reach 5 rfl) (by decide) rfl (fun q7 => ?_) (fun q7 => ?_)
  · have h := h.1 q7
    exact h
  · have h := h.2 q7
    refine V_aload_n (pc2 := 11) (dk D_X6_reach 6 rfl) rfl (V_lg 2 rfl) rfl ?_
    obtain ⟨h8, h⟩ := h
    refine V_getI kc10 (pc2 := 14) 10 (dk D_X6_reach 7 rfl) fl_6_140 (by decide) (fun _ => rfl) rfl h8 ?_
    refine V_ifne (tgt := 22) (pc2 := 17) (dk D_X6_reach 8 rfl) (by decide) rfl (fun q9 => ?_) (fun q9 => ?_)
    · have h := h.1 q9
      exact h
    · have h := h.2 q9
      refine V_aload_n (pc2 := 18) (dk D_X6_reach 9 rfl) rfl (V_lg 2 rfl) rfl ?_
      refine V_iconst (x := 1) (pc2 := 19) (dk D_X6_reach 10 rfl) (by decide) rfl ?_
      refine V_putI kc10 (pc2 := 22) 10 (dk D_X6_reach 11 rfl) fl_6_140 (by decide) (Or.inl rfl) rfl rfl h8 ?_
      have h := h _ rfl
      exact h
theorem w_X6_reach_22 {X : Cx} {d : Nat} {S : Mem} {Q : Res → Mem → Prop} (r0 : Nat) (x1 : Int32) (r2 : Nat) (h : Q (.inl none) S) : V X d MX6_reach 22 [(0, vR r0), (1, vI x1), (2, vR r2)] [] S Q := by
  exact V_return (dk D_X6_reach 12 rfl) rfl h
def L_X6_run : List (Nat × Instr × Nat) := [(0, .iconst 0, 1), (1, .istore_n 1, 1), (2, .iload_n 1, 1), (3, .ldc 168, 2), (5, .if_icmp .ge 153, 3), (8, .aload_n 0, 1), (9, .getfield 74, 3), (12, .ifCond .eq 146, 3), (15, .aload_n 0, 1), (16, .aload_n 0, 1), (17, .getfield 74, 3), (20, .invokevirtual 106, 3), (23, .astore_n 2, 1), (24, .aload_n 2, 1), (25, .ifnonnull 11, 3), (28, .aload_n 0, 1), (29, .iconst 0, 1), (30, .putfield 74, 3), (33, .goto 119, 3), (36, .aload_n 0, 1), (37, .getfield 86, 3), (40, .ifCond .eq 11, 3), (43, .aload_n 0, 1), (44, .aload_n 2, 1), (45, .invokevirtual 169, 3), (48, .goto 104, 3), (51, .aload_n 0, 1), (52, .getfield 77, 3), (55, .ifCond .eq 11, 3), (58, .aload_n 0, 1), (59, .aload_n 2, 1), (60, .invokevirtual 172, 3), (63, .goto 89, 3), (66, .aload_n 0, 1), (67, .getfield 53, 3), (70, .aload_n 2, 1), (71, .getfield 175, 3), (74, .invokevirtual 178, 3), (77, .istore_n 3, 1), (78, .aload_n 0, 1), (79, .getfield 53, 3), (82, .aload_n 2, 1), (83, .getfield 175, 3), (86, .invokevirtual 183, 3), (89, .istore 4, 2), (91, .aload_n 2, 1), (92, .dup, 1), (93, .getfield 175, 3), (96, .iconst 1, 1), (97, .iadd, 1), (98, .putfield 175, 3), (101, .iload_n 3, 1), (102, .bipush 40, 2), (104, .if_icmp .lt 14, 3), (107, .aload_n 0, 1), (108, .aload_n 2, 1), (109, .iload_n 3, 1), (110, .iload 4, 2), (112, .invokevirtual 185, 3), (115, .goto 37, 3), (118, .iload_n 3, 1), (119, .bipush 20, 2), (121, .if_icmp .lt 14, 3), (124, .aload_n 0, 1), (125, .aload_n 2, 1), (126, .iload_n 3, 1), (127, .iload 4, 2), (129, .invokevirtual 188, 3), (132, .goto 20, 3), (135, .aload_n 2, 1), (136, .iload_n 3, 1), (137, .iload 4, 2), (139, .invokevirtual 191, 3), (142, .ifCond .ne 10, 3), (145, .aload_n 0, 1), (146, .aload_n 2, 1), (147, .bipush 11, 2), (149, .invokevirtual 195, 3), (152, .iinc 1 1, 3), (155, .goto (-153), 3), (158, .return_, 1)]
theorem D_X6_run : dOk cX6_run L_X6_run = true := by decide +kernel
theorem w_X6_run_0 {X : Cx} {d : Nat} {S : Mem} {Q : Res → Mem → Prop} (r0 : Nat) (h : V X d MX6_run 2 [(0, vR r0), (1, vI 0)] [] S Q) : V X d MX6_run 0 [(0, vR r0)] [] S Q := by
  refine V_iconst (x := 0) (pc2 := 1) (dk D_X6_run 0 rfl) (by decide) rfl ?_
  refine V_istore_n (pc2 := 2) (lv2 := [(0, _), (1, _)]) (dk D_X6_run 1 rfl) rfl (by decide) rfl rfl ?_
  exact h
theorem w_X6_run_2 {X : Cx} {d : Nat} {S : Mem} {Q : Res → Mem → Prop} (r0 : Nat) (x1 : Int32) (h : ((200000000 ≤ x1 → V X d MX6_run 158 [(0, vR r0), (1, vI x1)] [] S Q) ∧ (¬ 200000000 ≤ x1 → (isK S r0 6) ∧ (((gI S r0 13) = 0 → V X d MX6_run 158 [(0, vR r0), (1, vI x1)] [] S Q) ∧ (¬ (gI S r0 13) = 0 → ∃ e4 : Nat, e4 + 1 ≤ d ∧ C X e4 MX6_find [vR r0, vI (gI S r0 13)] S (RR fun p7 S8 => ((¬ p7 = 0 → (isK S8 r0 6) ∧ (((gI S8 r0 17) = 0 → (((gI S8 r0 14) = 0 → (isK S8 p7 10) ∧ (isK S8 (gR S8 r0 4) 1) ∧ ∃ e14 : Nat, e14 + 1 ≤ d ∧ C X e14 MX1_act [vR (gR S8 r0 4), vI (gI S8 p7 9)] S8 (RI fun y17 S18 => (isK S18 r0 6) ∧ (isK S18 p7 10) ∧ (isK S18 (gR S18 r0 4) 1) ∧ ∃ e22 : Nat, e22 + 1 ≤ d ∧ C X e22 MX1_argument [vR (gR S18 r0 4), vI (gI S18 p7 9)] S18 (RI fun y25 S26 => (isK S26 p7 10) ∧ ∀ S29 : Mem, S29 = uI S26 p7 9 ((gI S26 p7 9) + 1) → ((y17 < 40 → ((y17 < 20 → ∃ e32 : Nat, e32 + 1 ≤ d ∧ C X e32 MX10_work [vR p7, vI y17, vI y25] S29 (RI fun y35 S36 => ((¬ y35 = 0 → V X d MX6_run 152 [(0, vR r0), (1, vI x1), (2, vR p7)] [] S36 Q) ∧ (y35 = 0 → (isK S36 r0 6) ∧ ∃ e38 : Nat, e38 + 1 ≤ d ∧ C X e38 MX6_raise [vR r0, vR p7, vI 11] S36 (RV fun  S41 => V X d MX6_run 152 [(0, vR r0), (1, vI x1), (2, vR p7)] [] S41 Q))))) ∧ (¬ y17 < 20 → (isK S26 r0 6) ∧ ∃ e43 : Nat, e43 + 1 ≤ d ∧ C X e43 MX6_playPart [vR r0, vR p7, vI y17, vI y25] S29 (RV fun  S46 => V X d MX6_run 152 [(0, vR r0), (1, vI x1), (2, vR p7)] [] S46 Q)))) ∧ (¬ y17 < 40 → (isK S26 r0 6) ∧ ∃ e48 : Nat, e48 + 1 ≤ d ∧ C X e48 MX6_passGuards [vR r0, vR p7, vI y17, vI y25] S29 (RV fun  S51 => V X d MX6_run 152 [(0, vR r0), (1, vI x1), (2, vR p7)] [] S51 Q)))))) ∧ (¬ (gI S8 r0 14) = 0 → ∃ e53 : Nat, e53 + 1 ≤ d ∧ C X e53 MX6_unwind [vR r0, vR p7] S8 (RV fun  S56 => V X d MX6_run 152 [(0, vR r0), (1, vI x1), (2, vR p7)] [] S56 Q)))) ∧ (¬ (gI S8 r0 17) = 0 → ∃ e57 : Nat, e57 + 1 ≤ d ∧ C X e57 MX6_spend [vR r0, vR p7] S8 (RV fun  S60 => V X d MX6_run 152 [(0, vR r0), (1, vI x1), (2, vR p7)] [] S60 Q)))) ∧ (p7 = 0 → (isK S8 r0 6) ∧ ∀ S62 : Mem, S62 = uI S8 r0 13 0 → V X d MX6_run 152 [(0, vR r0), (1, vI x1), (2, vR p7)] [] S62 Q)))))))) : V X d MX6_run 2 [(0, vR r0), (1, vI x1)] [] S Q := by
  refine V_iload_n (pc2 := 3) (dk D_X6_run 2 rfl) rfl (V_lg 1 rfl) rfl ?_
  refine V_ldci (x := 200000000) (pc2 := 5) (dk D_X6_run 3 rfl) ki_6_168 rfl ?_
  refine V_cmpge (tgt := 158) (pc2 := 8) (dk D_X6_run 4 rfl) (by decide) rfl (fun q1 => ?_) (fun q1 => ?_)
  · have h := h.1 q1
    exact h
  · have h := h.2 q1
    refine V_aload_n (pc2 := 9) (dk D_X6_run 5 rfl) rfl (V_lg 0 rfl) rfl ?_
    obtain ⟨h2, h⟩ := h
    refine V_getI kc6 (pc2 := 12) 13 (dk D_X6_run 6 rfl) fl_6_74 (by decide) (fun _ => rfl) rfl h2 ?_
    refine V_ifeq (tgt := 158) (pc2 := 15) (dk D_X6_run 7 rfl) (by decide) rfl (fun q3 => ?_) (fun q3 => ?_)
    · have h := h.1 q3
      exact h
    · have h := h.2 q3
      refine V_aload_n (pc2 := 16) (dk D_X6_run 8 rfl) rfl (V_lg 0 rfl) rfl ?_
      refine V_aload_n (pc2 := 17) (dk D_X6_run 9 rfl) rfl (V_lg 0 rfl) rfl ?_
      refine V_getI kc6 (pc2 := 20) 13 (dk D_X6_run 10 rfl) fl_6_74 (by decide) (fun _ => rfl) rfl h2 ?_
      obtain ⟨e4, he5, hc6⟩ := h
      refine V_callV (as := [_]) (st := []) (M' := MX6_find) (ci := 6) (pc2 := 23) (dk D_X6_run 11 rfl) ml_6_106 mv_X6_find rfl rfl (by decide) rfl (Nat.le_of_ble_eq_true rfl) rfl he5 h2 hc6 (RR.k fun p7 S8 h => ?_)
      refine V_astore_n (pc2 := 24) (lv2 := [(0, _), (1, _), (2, _)]) (dk D_X6_run 12 rfl) rfl (by decide) rfl rfl ?_
      refine V_aload_n (pc2 := 25) (dk D_X6_run 13 rfl) rfl (V_lg 2 rfl) rfl ?_
      refine V_ifnonnull (tgt := 36) (pc2 := 28) (dk D_X6_run 14 rfl) (by decide) rfl (fun q9 => ?_) (fun q9 => ?_)
      · have h := h.1 q9
        refine V_aload_n (pc2 := 37) (dk D_X6_run 19 rfl) rfl (V_lg 0 rfl) rfl ?_
        obtain ⟨h10, h⟩ := h
        refine V_getI kc6 (pc2 := 40) 17 (dk D_X6_run 20 rfl) fl_6_86 (by decide) (fun _ => rfl) rfl h10 ?_
        refine V_ifeq (tgt := 51) (pc2 := 43) (dk D_X6_run 21 rfl) (by decide) rfl (fun q11 => ?_) (fun q11 => ?_)
        · have h := h.1 q11
          refine V_aload_n (pc2 := 52) (dk D_X6_run 26 rfl) rfl (V_lg 0 rfl) rfl ?_
          refine V_getI kc6 (pc2 := 55) 14 (dk D_X6_run 27 rfl) fl_6_77 (by decide) (fun _ => rfl) rfl h10 ?_
          refine V_ifeq (tgt := 66) (pc2 := 58) (dk D_X6_run 28 rfl) (by decide) rfl (fun q12 => ?_) (fun q12 => ?_)
          · have h := h.1 q12
            refine V_aload_n (pc2 := 67) (dk D_X6_run 33 rfl) rfl (V_lg 0 rfl) rfl ?_
            refine V_getR kc6 (pc2 := 70) 4 (dk D_X6_run 34 rfl) fl_6_53 (by decide) (fun _ => rfl) rfl h10 ?_
            refine V_aload_n (pc2 := 71) (dk D_X6_run 35 rfl) rfl (V_lg 2 rfl) rfl ?_
            obtain ⟨h13, h⟩ := h
            refine V_getI kc10 (pc2 := 74) 9 (dk D_X6_run 36 rfl) fl_6_175 (by decide) (fun _ => rfl) rfl h13 ?_
            obtain ⟨h19, h⟩ := h
            obtain ⟨e14, he15, hc16⟩ := h
            refine V_callV (as := [_]) (st := []) (M' := MX1_act) (ci := 1) (pc2 := 77) (dk D_X6_run 37 rfl) ml_6_178 mv_X1_act rfl rfl (by decide) rfl (Nat.le_of_ble_eq_true rfl) rfl he15 h19 hc16 (RI.k fun y17 S18 h => ?_)
            refine V_istore_n (pc2 := 78) (lv2 := [(0, _), (1, _), (2, _), (3, _)]) (dk D_X6_run 38 rfl) rfl (by decide) rfl rfl ?_
            refine V_aload_n (pc2 := 79) (dk D_X6_run 39 rfl) rfl (V_lg 0 rfl) rfl ?_
            obtain ⟨h20, h⟩ := h
            refine V_getR kc6 (pc2 := 82) 4 (dk D_X6_run 40 rfl) fl_6_53 (by decide) (fun _ => rfl) rfl h20 ?_
            refine V_aload_n (pc2 := 83) (dk D_X6_run 41 rfl) rfl (V_lg 2 rfl) rfl ?_
            obtain ⟨h21, h⟩ := h
            refine V_getI kc10 (pc2 := 86) 9 (dk D_X6_run 42 rfl) fl_6_175 (by decide) (fun _ => rfl) rfl h21 ?_
            obtain ⟨h27, h⟩ := h
            obtain ⟨e22, he23, hc24⟩ := h
            refine V_callV (as := [_]) (st := []) (M' := MX1_argument) (ci := 1) (pc2 := 89) (dk D_X6_run 43 rfl) ml_6_183 mv_X1_argument rfl rfl (by decide) rfl (Nat.le_of_ble_eq_true rfl) rfl he23 h27 hc24 (RI.k fun y25 S26 h => ?_)
            refine V_istore (pc2 := 91) (lv2 := [(0, _), (1, _), (2, _), (3, _), (4, _)]) (dk D_X6_run 44 rfl) (by decide) rfl rfl ?_
            refine V_aload_n (pc2 := 92) (dk D_X6_run 45 rfl) rfl (V_lg 2 rfl) rfl ?_
            refine V_dup (pc2 := 93) (dk D_X6_run 46 rfl) rfl rfl ?_
            obtain ⟨h28, h⟩ := h
            refine V_getI kc10 (pc2 := 96) 9 (dk D_X6_run 47 rfl) fl_6_175 (by decide) (fun _ => rfl) rfl h28 ?_
            refine V_iconst (x := 1) (pc2 := 97) (dk D_X6_run 48 rfl) (by decide) rfl ?_
            refine V_iadd (pc2 := 98) (dk D_X6_run 49 rfl) rfl ?_
            refine V_putI kc10 (pc2 := 101) 9 (dk D_X6_run 50 rfl) fl_6_175 (by decide) (Or.inl rfl) rfl rfl h28 ?_
            have h := h _ rfl
            refine V_iload_n (pc2 := 102) (dk D_X6_run 51 rfl) rfl (V_lg 3 rfl) rfl ?_
            refine V_bipush (x := 40) (pc2 := 104) (dk D_X6_run 52 rfl) (by decide) rfl ?_
            refine V_cmplt (tgt := 118) (pc2 := 107) (dk D_X6_run 53 rfl) (by decide) rfl (fun q30 => ?_) (fun q30 => ?_)
            · have h := h.1 q30
              refine V_iload_n (pc2 := 119) (dk D_X6_run 60 rfl) rfl (V_lg 3 rfl) rfl ?_
              refine V_bipush (x := 20) (pc2 := 121) (dk D_X6_run 61 rfl) (by decide) rfl ?_
              refine V_cmplt (tgt := 135) (pc2 := 124) (dk D_X6_run 62 rfl) (by decide) rfl (fun q31 => ?_) (fun q31 => ?_)
              · have h := h.1 q31
                refine V_aload_n (pc2 := 136) (dk D_X6_run 69 rfl) rfl (V_lg 2 rfl) rfl ?_
                refine V_iload_n (pc2 := 137) (dk D_X6_run 70 rfl) rfl (V_lg 3 rfl) rfl ?_
                refine V_iload (pc2 := 139) (dk D_X6_run 71 rfl) (V_lg 4 rfl) rfl ?_
                obtain ⟨e32, he33, hc34⟩ := h
                refine V_callV (as := [_, _]) (st := []) (M' := MX10_work) (ci := 10) (pc2 := 142) (dk D_X6_run 72 rfl) ml_6_191 mv_X10_work rfl rfl (by decide) rfl (Nat.le_of_ble_eq_true rfl) rfl he33 h28 hc34 (RI.k fun y35 S36 h => ?_)
                refine V_ifne (tgt := 152) (pc2 := 145) (dk D_X6_run 73 rfl) (by decide) rfl (fun q37 => ?_) (fun q37 => ?_)
                · have h := h.1 q37
                  refine V_pick [0, 1, 2] (lv2 := [(0, _), (1, _), (2, _)]) rfl ?_
                  exact h
                · have h := h.2 q37
                  refine V_aload_n (pc2 := 146) (dk D_X6_run 74 rfl) rfl (V_lg 0 rfl) rfl ?_
                  refine V_aload_n (pc2 := 147) (dk D_X6_run 75 rfl) rfl (V_lg 2 rfl) rfl ?_
                  refine V_bipush (x := 11) (pc2 := 149) (dk D_X6_run 76 rfl) (by decide) rfl ?_
                  obtain ⟨h42, h⟩ := h
                  obtain ⟨e38, he39, hc40⟩ := h
                  refine V_callV (as := [_, _]) (st := []) (M' := MX6_raise) (ci := 6) (pc2 := 152) (dk D_X6_run 77 rfl) ml_6_195 mv_X6_raise rfl rfl (by decide) rfl (Nat.le_of_ble_eq_true rfl) rfl he39 h42 hc40 (RV.k fun  S41 h => ?_)
                  refine V_pick [0, 1, 2] (lv2 := [(0, _), (1, _), (2, _)]) rfl ?_
                  exact h
              · have h := h.2 q31
                refine V_aload_n (pc2 := 125) (dk D_X6_run 63 rfl) rfl (V_lg 0 rfl) rfl ?_
                refine V_aload_n (pc2 := 126) (dk D_X6_run 64 rfl) rfl (V_lg 2 rfl) rfl ?_
                refine V_iload_n (pc2 := 127) (dk D_X6_run 65 rfl) rfl (V_lg 3 rfl) rfl ?_
                refine V_iload (pc2 := 129) (dk D_X6_run 66 rfl) (V_lg 4 rfl) rfl ?_
                obtain ⟨h47, h⟩ := h
                obtain ⟨e43, he44, hc45⟩ := h
                refine V_callV (as := [_, _, _]) (st := []) (M' := MX6_playPart) (ci := 6) (pc2 := 132) (dk D_X6_run 67 rfl) ml_6_188 mv_X6_playPart rfl rfl (by decide) rfl (Nat.le_of_ble_eq_true rfl) rfl he44 h47 hc45 (RV.k fun  S46 h => ?_)
                refine V_goto (tgt := 152) (dk D_X6_run 68 rfl) (by decide) ?_
                refine V_pick [0, 1, 2] (lv2 := [(0, _), (1, _), (2, _)]) rfl ?_
                exact h
            · have h := h.2 q30
              refine V_aload_n (pc2 := 108) (dk D_X6_run 54 rfl) rfl (V_lg 0 rfl) rfl ?_
              refine V_aload_n (pc2 := 109) (dk D_X6_run 55 rfl) rfl (V_lg 2 rfl) rfl ?_
              refine V_iload_n (pc2 := 110) (dk D_X6_run 56 rfl) rfl (V_lg 3 rfl) rfl ?_
              refine V_iload (pc2 := 112) (dk D_X6_run 57 rfl) (V_lg 4 rfl) rfl ?_
              obtain ⟨h52, h⟩ := h
              obtain ⟨e48, he49, hc50⟩ := h
              refine V_callV (as := [_, _, _]) (st := []) (M' := MX6_passGuards) (ci := 6) (pc2 := 115) (dk D_X6_run 58 rfl) ml_6_185 mv_X6_passGuards rfl rfl (by decide) rfl (Nat.le_of_ble_eq_true rfl) rfl he49 h52 hc50 (RV.k fun  S51 h => ?_)
              refine V_goto (tgt := 152) (dk D_X6_run 59 rfl) (by decide) ?_
              refine V_pick [0, 1, 2] (lv2 := [(0, _), (1, _), (2, _)]) rfl ?_
              exact h
          · have h := h.2 q12
            refine V_aload_n (pc2 := 59) (dk D_X6_run 29 rfl) rfl (V_lg 0 rfl) rfl ?_
            refine V_aload_n (pc2 := 60) (dk D_X6_run 30 rfl) rfl (V_lg 2 rfl) rfl ?_
            obtain ⟨e53, he54, hc55⟩ := h
            refine V_callV (as := [_]) (st := []) (M' := MX6_unwind) (ci := 6) (pc2 := 63) (dk D_X6_run 31 rfl) ml_6_172 mv_X6_unwind rfl rfl (by decide) rfl (Nat.le_of_ble_eq_true rfl) rfl he54 h10 hc55 (RV.k fun  S56 h => ?_)
            refine V_goto (tgt := 152) (dk D_X6_run 32 rfl) (by decide) ?_
            exact h
        · have h := h.2 q11
          refine V_aload_n (pc2 := 44) (dk D_X6_run 22 rfl) rfl (V_lg 0 rfl) rfl ?_
          refine V_aload_n (pc2 := 45) (dk D_X6_run 23 rfl) rfl (V_lg 2 rfl) rfl ?_
          obtain ⟨e57, he58, hc59⟩ := h
          refine V_callV (as := [_]) (st := []) (M' := MX6_spend) (ci := 6) (pc2 := 48) (dk D_X6_run 24 rfl) ml_6_169 mv_X6_spend rfl rfl (by decide) rfl (Nat.le_of_ble_eq_true rfl) rfl he58 h10 hc59 (RV.k fun  S60 h => ?_)
          refine V_goto (tgt := 152) (dk D_X6_run 25 rfl) (by decide) ?_
          exact h
      · have h := h.2 q9
        refine V_aload_n (pc2 := 29) (dk D_X6_run 15 rfl) rfl (V_lg 0 rfl) rfl ?_
        refine V_iconst (x := 0) (pc2 := 30) (dk D_X6_run 16 rfl) (by decide) rfl ?_
        obtain ⟨h61, h⟩ := h
        refine V_putI kc6 (pc2 := 33) 13 (dk D_X6_run 17 rfl) fl_6_74 (by decide) (Or.inl rfl) rfl rfl h61 ?_
        have h := h _ rfl
        refine V_goto (tgt := 152) (dk D_X6_run 18 rfl) (by decide) ?_
        exact h
theorem w_X6_run_152 {X : Cx} {d : Nat} {S : Mem} {Q : Res → Mem → Prop} (r0 : Nat) (x1 : Int32) (r2 : Nat) (h : V X d MX6_run 2 [(0, vR r0), (1, vI (x1 + 1))] [] S Q) : V X d MX6_run 152 [(0, vR r0), (1, vI x1), (2, vR r2)] [] S Q := by
  refine V_iinc (y := _ + 1) (pc2 := 155) (lv2 := [(0, _), (1, _), (2, _)]) (dk D_X6_run 78 rfl) (V_lg 1 rfl) rfl (by decide) rfl rfl ?_
  refine V_goto (tgt := 2) (dk D_X6_run 79 rfl) (by decide) ?_
  refine V_pick [0, 1] (lv2 := [(0, _), (1, _)]) rfl ?_
  exact h
theorem w_X6_run_158 {X : Cx} {d : Nat} {S : Mem} {Q : Res → Mem → Prop} (r0 : Nat) (x1 : Int32) (h : Q (.inl none) S) : V X d MX6_run 158 [(0, vR r0), (1, vI x1)] [] S Q := by
  exact V_return (dk D_X6_run 80 rfl) rfl h
def L_X6_raise : List (Nat × Instr × Nat) := [(0, .aload_n 0, 1), (1, .aload_n 0, 1), (2, .getfield 24, 3), (5, .iload_n 2, 1), (6, .iconst 0, 1), (7, .aload_n 1, 1), (8, .getfield 198, 3), (11, .aload_n 1, 1), (12, .invokevirtual 201, 3), (15, .iconst 0, 1), (16, .invokevirtual 123, 3), (19, .putfield 77, 3), (22, .return_, 1)]
theorem D_X6_raise : dOk cX6_raise L_X6_raise = true := by decide +kernel
theorem w_X6_raise_0 {X : Cx} {d : Nat} {S : Mem} {Q : Res → Mem → Prop} (r0 : Nat) (r1 : Nat) (x2 : Int32) (h : (isK S r0 6) ∧ (isK S r1 10) ∧ ∃ e3 : Nat, e3 + 1 ≤ d ∧ C X e3 MX10_place [vR r1] S (RI fun y6 S7 => (isK S7 (gR S r0 2) 2) ∧ ∃ e8 : Nat, e8 + 1 ≤ d ∧ C X e8 MX2_make [vR (gR S r0 2), vI x2, vI 0, vI (gI S r1 0), vI y6, vI 0] S7 (RI fun y11 S12 => (isK S12 r0 6) ∧ ∀ S15 : Mem, S15 = uI S12 r0 14 y11 → Q (.inl none) S15))) : V X d MX6_raise 0 [(0, vR r0), (1, vR r1), (2, vI x2)] [] S Q := by
  refine V_aload_n (pc2 := 1) (dk D_X6_raise 0 rfl) rfl (V_lg 0 rfl) rfl ?_
  refine V_aload_n (pc2 := 2) (dk D_X6_raise 1 rfl) rfl (V_lg 0 rfl) rfl ?_
  obtain ⟨h1, h⟩ := h
  refine V_getR kc6 (pc2 := 5) 2 (dk D_X6_raise 2 rfl) fl_6_24 (by decide) (fun _ => rfl) rfl h1 ?_
  refine V_iload_n (pc2 := 6) (dk D_X6_raise 3 rfl) rfl (V_lg 2 rfl) rfl ?_
  refine V_iconst (x := 0) (pc2 := 7) (dk D_X6_raise 4 rfl) (by decide) rfl ?_
  refine V_aload_n (pc2 := 8) (dk D_X6_raise 5 rfl) rfl (V_lg 1 rfl) rfl ?_
  obtain ⟨h2, h⟩ := h
  refine V_getI kc10 (pc2 := 11) 0 (dk D_X6_raise 6 rfl) fl_6_198 (by decide) (fun _ => rfl) rfl h2 ?_
  refine V_aload_n (pc2 := 12) (dk D_X6_raise 7 rfl) rfl (V_lg 1 rfl) rfl ?_
  obtain ⟨e3, he4, hc5⟩ := h
  refine V_callV (as := []) (st := [_, _, _, _, _]) (M' := MX10_place) (ci := 10) (pc2 := 15) (dk D_X6_raise 8 rfl) ml_6_201 mv_X10_place rfl rfl (by decide) rfl (Nat.le_of_ble_eq_true rfl) rfl he4 h2 hc5 (RI.k fun y6 S7 h => ?_)
  refine V_iconst (x := 0) (pc2 := 16) (dk D_X6_raise 9 rfl) (by decide) rfl ?_
  obtain ⟨h13, h⟩ := h
  obtain ⟨e8, he9, hc10⟩ := h
  refine V_callV (as := [_, _, _, _, _]) (st := [_]) (M' := MX2_make) (ci := 2) (pc2 := 19) (dk D_X6_raise 10 rfl) ml_6_123 mv_X2_make rfl rfl (by decide) rfl (Nat.le_of_ble_eq_true rfl) rfl he9 h13 hc10 (RI.k fun y11 S12 h => ?_)
  obtain ⟨h14, h⟩ := h
  refine V_putI kc6 (pc2 := 22) 14 (dk D_X6_raise 11 rfl) fl_6_77 (by decide) (Or.inl rfl) rfl rfl h14 ?_
  have h := h _ rfl
  exact V_return (dk D_X6_raise 12 rfl) rfl h
def L_X6_playPart : List (Nat × Instr × Nat) := [(0, .iload_n 2, 1), (1, .tableswitch 199 20 30 #[59, 75, 93, 111, 120, 129, 141, 182, 191, 199, 165], 59), (60, .aload_n 0, 1), (61, .aload_n 1, 1), (62, .invokevirtual 205, 3), (65, .ifCond .eq 148, 3), (68, .aload_n 1, 1), (69, .iload_n 3, 1), (70, .invokevirtual 209, 3), (73, .goto 140, 3), (76, .aload_n 0, 1), (77, .getfield 12, 3), (80, .aload_n 1, 1), (81, .getfield 198, 3), (84, .aload_n 1, 1), (85, .invokevirtual 212, 3), (88, .invokevirtual 215, 3), (91, .goto 122, 3), (94, .aload_n 1, 1), (95, .aload_n 0, 1), (96, .aload_n 1, 1), (97, .invokevirtual 212, 3), (100, .invokevirtual 106, 3), (103, .invokestatic 219, 3), (106, .invokevirtual 223, 3), (109, .goto 104, 3), (112, .aload_n 0, 1), (113, .aload_n 1, 1), (114, .iload_n 3, 1), (115, .invokevirtual 226, 3), (118, .goto 95, 3), (121, .aload_n 0, 1), (122, .aload_n 1, 1), (123, .iload_n 3, 1), (124, .invokevirtual 229, 3), (127, .goto 86, 3), (130, .aload_n 0, 1), (131, .aload_n 1, 1), (132, .aload_n 1, 1), (133, .invokevirtual 212, 3), (136, .invokevirtual 232, 3), (139, .goto 74, 3), (142, .aload_n 1, 1), (143, .invokevirtual 212, 3), (146, .istore 4, 2), (148, .aload_n 0, 1), (149, .aload_n 1, 1), (150, .aload_n 0, 1), (151, .aload_n 1, 1), (152, .invokevirtual 212, 3), (155, .invokevirtual 106, 3), (158, .iload 4, 2), (160, .invokevirtual 235, 3), (163, .goto 50, 3), (166, .aload_n 0, 1), (167, .aload_n 1, 1), (168, .aload_n 0, 1), (169, .aload_n 1, 1), (170, .invokevirtual 239, 3), (173, .invokevirtual 106, 3), (176, .iconst 0, 1), (177, .invokevirtual 235, 3), (180, .goto 33, 3), (183, .aload_n 0, 1), (184, .aload_n 1, 1), (185, .iload_n 3, 1), (186, .invokevirtual 242, 3), (189, .goto 24, 3), (192, .aload_n 0, 1), (193, .aload_n 1, 1), (194, .invokevirtual 245, 3), (197, .goto 16, 3), (200, .aload_n 0, 1), (201, .aload_n 1, 1), (202, .aload_n 0, 1), (203, .aload_n 1, 1), (204, .invokevirtual 212, 3), (207, .invokevirtual 106, 3), (210, .invokevirtual 248, 3), (213, .return_, 1)]
theorem D_X6_playPart : dOk cX6_playPart L_X6_playPart = true := by decide +kernel
set_option maxRecDepth 100000 in
theorem w_X6_playPart_0 {X : Cx} {d : Nat} {S : Mem} {Q : Res → Mem → Prop} (r0 : Nat) (r1 : Nat) (x2 : Int32) (x3 : Int32) (h : ((x2 = 20 → (isK S r0 6) ∧ ∃ e37 : Nat, e37 + 1 ≤ d ∧ C X e37 MX6_step [vR r0, vR r1] S (RI fun y40 S41 => ((y40 = 0 → V X d MX6_playPart 213 [(0, vR r0), (1, vR r1), (2, vI x2), (3, vI x3)] [] S41 Q) ∧ (¬ y40 = 0 → (isK S41 r1 10) ∧ ∃ e44 : Nat, e44 + 1 ≤ d ∧ C X e44 MX10_setPlace [vR r1, vI x3] S41 (RV fun  S47 => V X d MX6_playPart 213 [(0, vR r0), (1, vR r1), (2, vI x2), (3, vI x3)] [] S47 Q))))) ∧ (x2 = 21 → (isK S r0 6) ∧ (isK S r1 10) ∧ ∃ e51 : Nat, e51 + 1 ≤ d ∧ C X e51 MX10_pop [vR r1] S (RI fun y54 S55 => (isK S55 (gR S r0 0) 4) ∧ ∃ e56 : Nat, e56 + 1 ≤ d ∧ C X e56 MX4_add [vR (gR S r0 0), vI (gI S r1 0), vI y54] S55 (RV fun  S59 => V X d MX6_playPart 213 [(0, vR r0), (1, vR r1), (2, vI x2), (3, vI x3)] [] S59 Q))) ∧ (x2 = 22 → (isK S r1 10) ∧ ∃ e61 : Nat, e61 + 1 ≤ d ∧ C X e61 MX10_pop [vR r1] S (RI fun y64 S65 => (isK S65 r0 6) ∧ ∃ e67 : Nat, e67 + 1 ≤ d ∧ C X e67 MX6_find [vR r0, vI y64] S65 (RR fun p70 S71 => ∃ e73 : Nat, e73 + 1 ≤ d ∧ C X e73 MX6_stateOf [vR p70] S71 (RI fun y76 S77 => (isK S77 r1 10) ∧ ∃ e78 : Nat, e78 + 1 ≤ d ∧ C X e78 MX10_push [vR r1, vI y76] S77 (RV fun  S81 => V X d MX6_playPart 213 [(0, vR r0), (1, vR r1), (2, vI x2), (3, vI x3)] [] S81 Q))))) ∧ (x2 = 23 → (isK S r0 6) ∧ ∃ e83 : Nat, e83 + 1 ≤ d ∧ C X e83 MX6_makeBy [vR r0, vR r1, vI x3] S (RV fun  S86 => V X d MX6_playPart 213 [(0, vR r0), (1, vR r1), (2, vI x2), (3, vI x3)] [] S86 Q)) ∧ (x2 = 24 → (isK S r0 6) ∧ ∃ e88 : Nat, e88 + 1 ≤ d ∧ C X e88 MX6_callBy [vR r0, vR r1, vI x3] S (RV fun  S91 => V X d MX6_playPart 213 [(0, vR r0), (1, vR r1), (2, vI x2), (3, vI x3)] [] S91 Q)) ∧ (x2 = 25 → (isK S r1 10) ∧ ∃ e93 : Nat, e93 + 1 ≤ d ∧ C X e93 MX10_pop [vR r1] S (RI fun y96 S97 => (isK S97 r0 6) ∧ ∃ e99 : Nat, e99 + 1 ≤ d ∧ C X e99 MX6_yieldBy [vR r0, vR r1, vI y96] S97 (RV fun  S102 => V X d MX6_playPart 213 [(0, vR r0), (1, vR r1), (2, vI x2), (3, vI x3)] [] S102 Q))) ∧ (x2 = 26 → (isK S r1 10) ∧ ∃ e104 : Nat, e104 + 1 ≤ d ∧ C X e104 MX10_pop [vR r1] S (RI fun y107 S108 => (isK S108 r1 10) ∧ ∃ e110 : Nat, e110 + 1 ≤ d ∧ C X e110 MX10_pop [vR r1] S108 (RI fun y113 S114 => (isK S114 r0 6) ∧ ∃ e116 : Nat, e116 + 1 ≤ d ∧ C X e116 MX6_find [vR r0, vI y113] S114 (RR fun p119 S120 => (isK S120 r0 6) ∧ ∃ e122 : Nat, e122 + 1 ≤ d ∧ C X e122 MX6_resumeBy [vR r0, vR r1, vR p119, vI y107] S120 (RV fun  S125 => V X d MX6_playPart 213 [(0, vR r0), (1, vR r1), (2, vI x2), (3, vI x3)] [] S125 Q))))) ∧ (x2 = 27 → (isK S r0 6) ∧ ∃ e127 : Nat, e127 + 1 ≤ d ∧ C X e127 MX6_injectBy [vR r0, vR r1, vI x3] S (RV fun  S130 => V X d MX6_playPart 213 [(0, vR r0), (1, vR r1), (2, vI x2), (3, vI x3)] [] S130 Q)) ∧ (x2 = 28 → (isK S r0 6) ∧ ∃ e132 : Nat, e132 + 1 ≤ d ∧ C X e132 MX6_handBy [vR r0, vR r1] S (RV fun  S135 => V X d MX6_playPart 213 [(0, vR r0), (1, vR r1), (2, vI x2), (3, vI x3)] [] S135 Q)) ∧ (x2 = 30 → (isK S r1 10) ∧ ∃ e137 : Nat, e137 + 1 ≤ d ∧ C X e137 MX10_peek [vR r1] S (RI fun y140 S141 => (isK S141 r0 6) ∧ ∃ e143 : Nat, e143 + 1 ≤ d ∧ C X e143 MX6_find [vR r0, vI y140] S141 (RR fun p146 S147 => (isK S147 r0 6) ∧ ∃ e149 : Nat, e149 + 1 ≤ d ∧ C X e149 MX6_resumeBy [vR r0, vR r1, vR p146, vI 0] S147 (RV fun  S152 => V X d MX6_playPart 213 [(0, vR r0), (1, vR r1), (2, vI x2), (3, vI x3)] [] S152 Q)))) ∧ (¬ (x2 = 20 ∨ x2 = 21 ∨ x2 = 22 ∨ x2 = 23 ∨ x2 = 24 ∨ x2 = 25 ∨ x2 = 26 ∨ x2 = 27 ∨ x2 = 28 ∨ x2 = 30) → (isK S r1 10) ∧ ∃ e3 : Nat, e3 + 1 ≤ d ∧ C X e3 MX10_pop [vR r1] S (RI fun y6 S7 => (isK S7 r0 6) ∧ ∃ e9 : Nat, e9 + 1 ≤ d ∧ C X e9 MX6_find [vR r0, vI y6] S7 (RR fun p12 S13 => (isK S13 r0 6) ∧ ∃ e15 : Nat, e15 + 1 ≤ d ∧ C X e15 MX6_closeBy [vR r0, vR r1, vR p12] S13 (RV fun  S18 => V X d MX6_playPart 213 [(0, vR r0), (1, vR r1), (2, vI x2), (3, vI x3)] [] S18 Q)))))) : V X d MX6_playPart 0 [(0, vR r0), (1, vR r1), (2, vI x2), (3, vI x3)] [] S Q := by
  refine V_iload_n (pc2 := 1) (dk D_X6_playPart 0 rfl) rfl (V_lg 2 rfl) rfl ?_
  refine V_table (dk D_X6_playPart 1 rfl) [60, 76, 94, 112, 121, 130, 142, 183, 192, 200, 166] 200 (by decide) rfl (by decide) (fun q1 => ?_) (fun j2 hj q1 => ?_)
  · have h := h.2.2.2.2.2.2.2.2.2.2 (by rintro (hk | hk | hk | hk | hk | hk | hk | hk | hk | hk) <;> (rw [hk] at q1; revert q1; decide))
    refine V_aload_n (pc2 := 201) (dk D_X6_playPart 72 rfl) rfl (V_lg 0 rfl) rfl ?_
    refine V_aload_n (pc2 := 202) (dk D_X6_playPart 73 rfl) rfl (V_lg 1 rfl) rfl ?_
    refine V_aload_n (pc2 := 203) (dk D_X6_playPart 74 rfl) rfl (V_lg 0 rfl) rfl ?_
    refine V_aload_n (pc2 := 204) (dk D_X6_playPart 75 rfl) rfl (V_lg 1 rfl) rfl ?_
    obtain ⟨h25, h⟩ := h
    obtain ⟨e20, he21, hc22⟩ := h
    refine V_callV (as := []) (st := [_, _, _]) (M' := MX10_pop) (ci := 10) (pc2 := 207) (dk D_X6_playPart 76 rfl) ml_6_212 mv_X10_pop rfl rfl (by decide) rfl (Nat.le_of_ble_eq_true rfl) rfl he21 h25 hc22 (RI.k fun y23 S24 h => ?_)
    obtain ⟨h31, h⟩ := h
    obtain ⟨e26, he27, hc28⟩ := h
    refine V_callV (as := [_]) (st := [_, _]) (M' := MX6_find) (ci := 6) (pc2 := 210) (dk D_X6_playPart 77 rfl) ml_6_106 mv_X6_find rfl rfl (by decide) rfl (Nat.le_of_ble_eq_true rfl) rfl he27 h31 hc28 (RR.k fun p29 S30 h => ?_)
    obtain ⟨h36, h⟩ := h
    obtain ⟨e32, he33, hc34⟩ := h
    refine V_callV (as := [_, _]) (st := []) (M' := MX6_closeBy) (ci := 6) (pc2 := 213) (dk D_X6_playPart 78 rfl) ml_6_248 mv_X6_closeBy rfl rfl (by decide) rfl (Nat.le_of_ble_eq_true rfl) rfl he33 h36 hc34 (RV.k fun  S35 h => ?_)
    exact h
  · have hj2 : j2 = 0 ∨ j2 = 1 ∨ j2 = 2 ∨ j2 = 3 ∨ j2 = 4 ∨ j2 = 5 ∨ j2 = 6 ∨ j2 = 7 ∨ j2 = 8 ∨ j2 = 9 ∨ j2 = 10 := by simp at hj; omega
    clear hj
    rcases hj2 with rfl | rfl | rfl | rfl | rfl | rfl | rfl | rfl | rfl | rfl | rfl
    · have hx : x2 = 20 := Int32.toInt_inj.mp (by rw [q1]; decide)
      have h := h.1 hx
      refine V_aload_n (pc2 := 61) (dk D_X6_playPart 2 rfl) rfl (V_lg 0 rfl) rfl ?_
      refine V_aload_n (pc2 := 62) (dk D_X6_playPart 3 rfl) rfl (V_lg 1 rfl) rfl ?_
      obtain ⟨h42, h⟩ := h
      obtain ⟨e37, he38, hc39⟩ := h
      refine V_callV (as := [_]) (st := []) (M' := MX6_step) (ci := 6) (pc2 := 65) (dk D_X6_playPart 4 rfl) ml_6_205 mv_X6_step rfl rfl (by decide) rfl (Nat.le_of_ble_eq_true rfl) rfl he38 h42 hc39 (RI.k fun y40 S41 h => ?_)
      refine V_ifeq (tgt := 213) (pc2 := 68) (dk D_X6_playPart 5 rfl) (by decide) rfl (fun q43 => ?_) (fun q43 => ?_)
      · have h := h.1 q43
        exact h
      · have h := h.2 q43
        refine V_aload_n (pc2 := 69) (dk D_X6_playPart 6 rfl) rfl (V_lg 1 rfl) rfl ?_
        refine V_iload_n (pc2 := 70) (dk D_X6_playPart 7 rfl) rfl (V_lg 3 rfl) rfl ?_
        obtain ⟨h48, h⟩ := h
        obtain ⟨e44, he45, hc46⟩ := h
        refine V_callV (as := [_]) (st := []) (M' := MX10_setPlace) (ci := 10) (pc2 := 73) (dk D_X6_playPart 8 rfl) ml_6_209 mv_X10_setPlace rfl rfl (by decide) rfl (Nat.le_of_ble_eq_true rfl) rfl he45 h48 hc46 (RV.k fun  S47 h => ?_)
        refine V_goto (tgt := 213) (dk D_X6_playPart 9 rfl) (by decide) ?_
        exact h
    · have hx : x2 = 21 := Int32.toInt_inj.mp (by rw [q1]; decide)
      have h := h.2.1 hx
      refine V_aload_n (pc2 := 77) (dk D_X6_playPart 10 rfl) rfl (V_lg 0 rfl) rfl ?_
      obtain ⟨h49, h⟩ := h
      refine V_getR kc6 (pc2 := 80) 0 (dk D_X6_playPart 11 rfl) fl_6_12 (by decide) (fun _ => rfl) rfl h49 ?_
      refine V_aload_n (pc2 := 81) (dk D_X6_playPart 12 rfl) rfl (V_lg 1 rfl) rfl ?_
      obtain ⟨h50, h⟩ := h
      refine V_getI kc10 (pc2 := 84) 0 (dk D_X6_playPart 13 rfl) fl_6_198 (by decide) (fun _ => rfl) rfl h50 ?_
      refine V_aload_n (pc2 := 85) (dk D_X6_playPart 14 rfl) rfl (V_lg 1 rfl) rfl ?_
      obtain ⟨e51, he52, hc53⟩ := h
      refine V_callV (as := []) (st := [_, _]) (M' := MX10_pop) (ci := 10) (pc2 := 88) (dk D_X6_playPart 15 rfl) ml_6_212 mv_X10_pop rfl rfl (by decide) rfl (Nat.le_of_ble_eq_true rfl) rfl he52 h50 hc53 (RI.k fun y54 S55 h => ?_)
      obtain ⟨h60, h⟩ := h
      obtain ⟨e56, he57, hc58⟩ := h
      refine V_callV (as := [_, _]) (st := []) (M' := MX4_add) (ci := 4) (pc2 := 91) (dk D_X6_playPart 16 rfl) ml_6_215 mv_X4_add rfl rfl (by decide) rfl (Nat.le_of_ble_eq_true rfl) rfl he57 h60 hc58 (RV.k fun  S59 h => ?_)
      refine V_goto (tgt := 213) (dk D_X6_playPart 17 rfl) (by decide) ?_
      exact h
    · have hx : x2 = 22 := Int32.toInt_inj.mp (by rw [q1]; decide)
      have h := h.2.2.1 hx
      refine V_aload_n (pc2 := 95) (dk D_X6_playPart 18 rfl) rfl (V_lg 1 rfl) rfl ?_
      refine V_aload_n (pc2 := 96) (dk D_X6_playPart 19 rfl) rfl (V_lg 0 rfl) rfl ?_
      refine V_aload_n (pc2 := 97) (dk D_X6_playPart 20 rfl) rfl (V_lg 1 rfl) rfl ?_
      obtain ⟨h66, h⟩ := h
      obtain ⟨e61, he62, hc63⟩ := h
      refine V_callV (as := []) (st := [_, _]) (M' := MX10_pop) (ci := 10) (pc2 := 100) (dk D_X6_playPart 21 rfl) ml_6_212 mv_X10_pop rfl rfl (by decide) rfl (Nat.le_of_ble_eq_true rfl) rfl he62 h66 hc63 (RI.k fun y64 S65 h => ?_)
      obtain ⟨h72, h⟩ := h
      obtain ⟨e67, he68, hc69⟩ := h
      refine V_callV (as := [_]) (st := [_]) (M' := MX6_find) (ci := 6) (pc2 := 103) (dk D_X6_playPart 22 rfl) ml_6_106 mv_X6_find rfl rfl (by decide) rfl (Nat.le_of_ble_eq_true rfl) rfl he68 h72 hc69 (RR.k fun p70 S71 h => ?_)
      obtain ⟨e73, he74, hc75⟩ := h
      refine V_callS (as := [_]) (st := [_]) (M' := MX6_stateOf) (pc2 := 106) (dk D_X6_playPart 23 rfl) ml_6_219 mv_X6_stateOf rfl rfl (Nat.le_of_ble_eq_true rfl) rfl he74 hc75 (RI.k fun y76 S77 h => ?_)
      obtain ⟨h82, h⟩ := h
      obtain ⟨e78, he79, hc80⟩ := h
      refine V_callV (as := [_]) (st := []) (M' := MX10_push) (ci := 10) (pc2 := 109) (dk D_X6_playPart 24 rfl) ml_6_223 mv_X10_push rfl rfl (by decide) rfl (Nat.le_of_ble_eq_true rfl) rfl he79 h82 hc80 (RV.k fun  S81 h => ?_)
      refine V_goto (tgt := 213) (dk D_X6_playPart 25 rfl) (by decide) ?_
      exact h
    · have hx : x2 = 23 := Int32.toInt_inj.mp (by rw [q1]; decide)
      have h := h.2.2.2.1 hx
      refine V_aload_n (pc2 := 113) (dk D_X6_playPart 26 rfl) rfl (V_lg 0 rfl) rfl ?_
      refine V_aload_n (pc2 := 114) (dk D_X6_playPart 27 rfl) rfl (V_lg 1 rfl) rfl ?_
      refine V_iload_n (pc2 := 115) (dk D_X6_playPart 28 rfl) rfl (V_lg 3 rfl) rfl ?_
      obtain ⟨h87, h⟩ := h
      obtain ⟨e83, he84, hc85⟩ := h
      refine V_callV (as := [_, _]) (st := []) (M' := MX6_makeBy) (ci := 6) (pc2 := 118) (dk D_X6_playPart 29 rfl) ml_6_226 mv_X6_makeBy rfl rfl (by decide) rfl (Nat.le_of_ble_eq_true rfl) rfl he84 h87 hc85 (RV.k fun  S86 h => ?_)
      refine V_goto (tgt := 213) (dk D_X6_playPart 30 rfl) (by decide) ?_
      exact h
    · have hx : x2 = 24 := Int32.toInt_inj.mp (by rw [q1]; decide)
      have h := h.2.2.2.2.1 hx
      refine V_aload_n (pc2 := 122) (dk D_X6_playPart 31 rfl) rfl (V_lg 0 rfl) rfl ?_
      refine V_aload_n (pc2 := 123) (dk D_X6_playPart 32 rfl) rfl (V_lg 1 rfl) rfl ?_
      refine V_iload_n (pc2 := 124) (dk D_X6_playPart 33 rfl) rfl (V_lg 3 rfl) rfl ?_
      obtain ⟨h92, h⟩ := h
      obtain ⟨e88, he89, hc90⟩ := h
      refine V_callV (as := [_, _]) (st := []) (M' := MX6_callBy) (ci := 6) (pc2 := 127) (dk D_X6_playPart 34 rfl) ml_6_229 mv_X6_callBy rfl rfl (by decide) rfl (Nat.le_of_ble_eq_true rfl) rfl he89 h92 hc90 (RV.k fun  S91 h => ?_)
      refine V_goto (tgt := 213) (dk D_X6_playPart 35 rfl) (by decide) ?_
      exact h
    · have hx : x2 = 25 := Int32.toInt_inj.mp (by rw [q1]; decide)
      have h := h.2.2.2.2.2.1 hx
      refine V_aload_n (pc2 := 131) (dk D_X6_playPart 36 rfl) rfl (V_lg 0 rfl) rfl ?_
      refine V_aload_n (pc2 := 132) (dk D_X6_playPart 37 rfl) rfl (V_lg 1 rfl) rfl ?_
      refine V_aload_n (pc2 := 133) (dk D_X6_playPart 38 rfl) rfl (V_lg 1 rfl) rfl ?_
      obtain ⟨h98, h⟩ := h
      obtain ⟨e93, he94, hc95⟩ := h
      refine V_callV (as := []) (st := [_, _]) (M' := MX10_pop) (ci := 10) (pc2 := 136) (dk D_X6_playPart 39 rfl) ml_6_212 mv_X10_pop rfl rfl (by decide) rfl (Nat.le_of_ble_eq_true rfl) rfl he94 h98 hc95 (RI.k fun y96 S97 h => ?_)
      obtain ⟨h103, h⟩ := h
      obtain ⟨e99, he100, hc101⟩ := h
      refine V_callV (as := [_, _]) (st := []) (M' := MX6_yieldBy) (ci := 6) (pc2 := 139) (dk D_X6_playPart 40 rfl) ml_6_232 mv_X6_yieldBy rfl rfl (by decide) rfl (Nat.le_of_ble_eq_true rfl) rfl he100 h103 hc101 (RV.k fun  S102 h => ?_)
      refine V_goto (tgt := 213) (dk D_X6_playPart 41 rfl) (by decide) ?_
      exact h
    · have hx : x2 = 26 := Int32.toInt_inj.mp (by rw [q1]; decide)
      have h := h.2.2.2.2.2.2.1 hx
      refine V_aload_n (pc2 := 143) (dk D_X6_playPart 42 rfl) rfl (V_lg 1 rfl) rfl ?_
      obtain ⟨h109, h⟩ := h
      obtain ⟨e104, he105, hc106⟩ := h
      refine V_callV (as := []) (st := []) (M' := MX10_pop) (ci := 10) (pc2 := 146) (dk D_X6_playPart 43 rfl) ml_6_212 mv_X10_pop rfl rfl (by decide) rfl (Nat.le_of_ble_eq_true rfl) rfl he105 h109 hc106 (RI.k fun y107 S108 h => ?_)
      refine V_istore (pc2 := 148) (lv2 := [(0, _), (1, _), (2, _), (3, _), (4, _)]) (dk D_X6_playPart 44 rfl) (by decide) rfl rfl ?_
      refine V_aload_n (pc2 := 149) (dk D_X6_playPart 45 rfl) rfl (V_lg 0 rfl) rfl ?_
      refine V_aload_n (pc2 := 150) (dk D_X6_playPart 46 rfl) rfl (V_lg 1 rfl) rfl ?_
      refine V_aload_n (pc2 := 151) (dk D_X6_playPart 47 rfl) rfl (V_lg 0 rfl) rfl ?_
      refine V_aload_n (pc2 := 152) (dk D_X6_playPart 48 rfl) rfl (V_lg 1 rfl) rfl ?_
      obtain ⟨h115, h⟩ := h
      obtain ⟨e110, he111, hc112⟩ := h
      refine V_callV (as := []) (st := [_, _, _]) (M' := MX10_pop) (ci := 10) (pc2 := 155) (dk D_X6_playPart 49 rfl) ml_6_212 mv_X10_pop rfl rfl (by decide) rfl (Nat.le_of_ble_eq_true rfl) rfl he111 h115 hc112 (RI.k fun y113 S114 h => ?_)
      obtain ⟨h121, h⟩ := h
      obtain ⟨e116, he117, hc118⟩ := h
      refine V_callV (as := [_]) (st := [_, _]) (M' := MX6_find) (ci := 6) (pc2 := 158) (dk D_X6_playPart 50 rfl) ml_6_106 mv_X6_find rfl rfl (by decide) rfl (Nat.le_of_ble_eq_true rfl) rfl he117 h121 hc118 (RR.k fun p119 S120 h => ?_)
      refine V_iload (pc2 := 160) (dk D_X6_playPart 51 rfl) (V_lg 4 rfl) rfl ?_
      obtain ⟨h126, h⟩ := h
      obtain ⟨e122, he123, hc124⟩ := h
      refine V_callV (as := [_, _, _]) (st := []) (M' := MX6_resumeBy) (ci := 6) (pc2 := 163) (dk D_X6_playPart 52 rfl) ml_6_235 mv_X6_resumeBy rfl rfl (by decide) rfl (Nat.le_of_ble_eq_true rfl) rfl he123 h126 hc124 (RV.k fun  S125 h => ?_)
      refine V_goto (tgt := 213) (dk D_X6_playPart 53 rfl) (by decide) ?_
      refine V_pick [0, 1, 2, 3] (lv2 := [(0, _), (1, _), (2, _), (3, _)]) rfl ?_
      exact h
    · have hx : x2 = 27 := Int32.toInt_inj.mp (by rw [q1]; decide)
      have h := h.2.2.2.2.2.2.2.1 hx
      refine V_aload_n (pc2 := 184) (dk D_X6_playPart 63 rfl) rfl (V_lg 0 rfl) rfl ?_
      refine V_aload_n (pc2 := 185) (dk D_X6_playPart 64 rfl) rfl (V_lg 1 rfl) rfl ?_
      refine V_iload_n (pc2 := 186) (dk D_X6_playPart 65 rfl) rfl (V_lg 3 rfl) rfl ?_
      obtain ⟨h131, h⟩ := h
      obtain ⟨e127, he128, hc129⟩ := h
      refine V_callV (as := [_, _]) (st := []) (M' := MX6_injectBy) (ci := 6) (pc2 := 189) (dk D_X6_playPart 66 rfl) ml_6_242 mv_X6_injectBy rfl rfl (by decide) rfl (Nat.le_of_ble_eq_true rfl) rfl he128 h131 hc129 (RV.k fun  S130 h => ?_)
      refine V_goto (tgt := 213) (dk D_X6_playPart 67 rfl) (by decide) ?_
      exact h
    · have hx : x2 = 28 := Int32.toInt_inj.mp (by rw [q1]; decide)
      have h := h.2.2.2.2.2.2.2.2.1 hx
      refine V_aload_n (pc2 := 193) (dk D_X6_playPart 68 rfl) rfl (V_lg 0 rfl) rfl ?_
      refine V_aload_n (pc2 := 194) (dk D_X6_playPart 69 rfl) rfl (V_lg 1 rfl) rfl ?_
      obtain ⟨h136, h⟩ := h
      obtain ⟨e132, he133, hc134⟩ := h
      refine V_callV (as := [_]) (st := []) (M' := MX6_handBy) (ci := 6) (pc2 := 197) (dk D_X6_playPart 70 rfl) ml_6_245 mv_X6_handBy rfl rfl (by decide) rfl (Nat.le_of_ble_eq_true rfl) rfl he133 h136 hc134 (RV.k fun  S135 h => ?_)
      refine V_goto (tgt := 213) (dk D_X6_playPart 71 rfl) (by decide) ?_
      exact h
    · have h := h.2.2.2.2.2.2.2.2.2.2 (by rintro (hk | hk | hk | hk | hk | hk | hk | hk | hk | hk) <;> (rw [hk] at q1; revert q1; decide))
      refine V_aload_n (pc2 := 201) (dk D_X6_playPart 72 rfl) rfl (V_lg 0 rfl) rfl ?_
      refine V_aload_n (pc2 := 202) (dk D_X6_playPart 73 rfl) rfl (V_lg 1 rfl) rfl ?_
      refine V_aload_n (pc2 := 203) (dk D_X6_playPart 74 rfl) rfl (V_lg 0 rfl) rfl ?_
      refine V_aload_n (pc2 := 204) (dk D_X6_playPart 75 rfl) rfl (V_lg 1 rfl) rfl ?_
      obtain ⟨h8, h⟩ := h
      obtain ⟨e3, he4, hc5⟩ := h
      refine V_callV (as := []) (st := [_, _, _]) (M' := MX10_pop) (ci := 10) (pc2 := 207) (dk D_X6_playPart 76 rfl) ml_6_212 mv_X10_pop rfl rfl (by decide) rfl (Nat.le_of_ble_eq_true rfl) rfl he4 h8 hc5 (RI.k fun y6 S7 h => ?_)
      obtain ⟨h14, h⟩ := h
      obtain ⟨e9, he10, hc11⟩ := h
      refine V_callV (as := [_]) (st := [_, _]) (M' := MX6_find) (ci := 6) (pc2 := 210) (dk D_X6_playPart 77 rfl) ml_6_106 mv_X6_find rfl rfl (by decide) rfl (Nat.le_of_ble_eq_true rfl) rfl he10 h14 hc11 (RR.k fun p12 S13 h => ?_)
      obtain ⟨h19, h⟩ := h
      obtain ⟨e15, he16, hc17⟩ := h
      refine V_callV (as := [_, _]) (st := []) (M' := MX6_closeBy) (ci := 6) (pc2 := 213) (dk D_X6_playPart 78 rfl) ml_6_248 mv_X6_closeBy rfl rfl (by decide) rfl (Nat.le_of_ble_eq_true rfl) rfl he16 h19 hc17 (RV.k fun  S18 h => ?_)
      exact h
    · have hx : x2 = 30 := Int32.toInt_inj.mp (by rw [q1]; decide)
      have h := h.2.2.2.2.2.2.2.2.2.1 hx
      refine V_aload_n (pc2 := 167) (dk D_X6_playPart 54 rfl) rfl (V_lg 0 rfl) rfl ?_
      refine V_aload_n (pc2 := 168) (dk D_X6_playPart 55 rfl) rfl (V_lg 1 rfl) rfl ?_
      refine V_aload_n (pc2 := 169) (dk D_X6_playPart 56 rfl) rfl (V_lg 0 rfl) rfl ?_
      refine V_aload_n (pc2 := 170) (dk D_X6_playPart 57 rfl) rfl (V_lg 1 rfl) rfl ?_
      obtain ⟨h142, h⟩ := h
      obtain ⟨e137, he138, hc139⟩ := h
      refine V_callV (as := []) (st := [_, _, _]) (M' := MX10_peek) (ci := 10) (pc2 := 173) (dk D_X6_playPart 58 rfl) ml_6_239 mv_X10_peek rfl rfl (by decide) rfl (Nat.le_of_ble_eq_true rfl) rfl he138 h142 hc139 (RI.k fun y140 S141 h => ?_)
      obtain ⟨h148, h⟩ := h
      obtain ⟨e143, he144, hc145⟩ := h
      refine V_callV (as := [_]) (st := [_, _]) (M' := MX6_find) (ci := 6) (pc2 := 176) (dk D_X6_playPart 59 rfl) ml_6_106 mv_X6_find rfl rfl (by decide) rfl (Nat.le_of_ble_eq_true rfl) rfl he144 h148 hc145 (RR.k fun p146 S147 h => ?_)
      refine V_iconst (x := 0) (pc2 := 177) (dk D_X6_playPart 60 rfl) (by decide) rfl ?_
      obtain ⟨h153, h⟩ := h
      obtain ⟨e149, he150, hc151⟩ := h
      refine V_callV (as := [_, _, _]) (st := []) (M' := MX6_resumeBy) (ci := 6) (pc2 := 180) (dk D_X6_playPart 61 rfl) ml_6_235 mv_X6_resumeBy rfl rfl (by decide) rfl (Nat.le_of_ble_eq_true rfl) rfl he150 h153 hc151 (RV.k fun  S152 h => ?_)
      refine V_goto (tgt := 213) (dk D_X6_playPart 62 rfl) (by decide) ?_
      exact h
theorem w_X6_playPart_213 {X : Cx} {d : Nat} {S : Mem} {Q : Res → Mem → Prop} (r0 : Nat) (r1 : Nat) (x2 : Int32) (x3 : Int32) (h : Q (.inl none) S) : V X d MX6_playPart 213 [(0, vR r0), (1, vR r1), (2, vI x2), (3, vI x3)] [] S Q := by
  exact V_return (dk D_X6_playPart 79 rfl) rfl h
def L_X6_stateOf : List (Nat × Instr × Nat) := [(0, .aload_n 0, 1), (1, .ifnonnull 8, 3), (4, .bipush 9, 2), (6, .goto 7, 3), (9, .aload_n 0, 1), (10, .getfield 131, 3), (13, .ireturn, 1)]
theorem D_X6_stateOf : dOk cX6_stateOf L_X6_stateOf = true := by decide +kernel
theorem w_X6_stateOf_0 {X : Cx} {d : Nat} {S : Mem} {Q : Res → Mem → Prop} (r0 : Nat) (h : ((¬ r0 = 0 → (isK S r0 10) ∧ V X d MX6_stateOf 13 [(0, vR r0)] [vI (gI S r0 1)] S Q) ∧ (r0 = 0 → V X d MX6_stateOf 13 [(0, vR r0)] [vI 9] S Q))) : V X d MX6_stateOf 0 [(0, vR r0)] [] S Q := by
  refine V_aload_n (pc2 := 1) (dk D_X6_stateOf 0 rfl) rfl (V_lg 0 rfl) rfl ?_
  refine V_ifnonnull (tgt := 9) (pc2 := 4) (dk D_X6_stateOf 1 rfl) (by decide) rfl (fun q1 => ?_) (fun q1 => ?_)
  · have h := h.1 q1
    refine V_aload_n (pc2 := 10) (dk D_X6_stateOf 4 rfl) rfl (V_lg 0 rfl) rfl ?_
    obtain ⟨h2, h⟩ := h
    refine V_getI kc10 (pc2 := 13) 1 (dk D_X6_stateOf 5 rfl) fl_6_131 (by decide) (fun _ => rfl) rfl h2 ?_
    exact h
  · have h := h.2 q1
    refine V_bipush (x := 9) (pc2 := 6) (dk D_X6_stateOf 2 rfl) (by decide) rfl ?_
    refine V_goto (tgt := 13) (dk D_X6_stateOf 3 rfl) (by decide) ?_
    exact h
theorem w_X6_stateOf_13 {X : Cx} {d : Nat} {S : Mem} {Q : Res → Mem → Prop} (r0 : Nat) (t0 : Int32) (h : Q (.inl (some (vI t0))) S) : V X d MX6_stateOf 13 [(0, vR r0)] [vI t0] S Q := by
  exact V_ireturn (dk D_X6_stateOf 6 rfl) rfl h
def L_X6_step : List (Nat × Instr × Nat) := [(0, .aload_n 0, 1), (1, .getfield 71, 3), (4, .sipush 6000, 3), (7, .if_icmp .lt 10, 3), (10, .aload_n 0, 1), (11, .iconst 1, 1), (12, .putfield 86, 3), (15, .iconst 0, 1), (16, .ireturn, 1), (17, .aload_n 0, 1), (18, .dup, 1), (19, .getfield 71, 3), (22, .iconst 1, 1), (23, .iadd, 1), (24, .putfield 71, 3), (27, .aload_n 1, 1), (28, .dup, 1), (29, .getfield 252, 3), (32, .iconst 1, 1), (33, .iadd, 1), (34, .putfield 252, 3), (37, .iconst 1, 1), (38, .ireturn, 1)]
theorem D_X6_step : dOk cX6_step L_X6_step = true := by decide +kernel
theorem w_X6_step_0 {X : Cx} {d : Nat} {S : Mem} {Q : Res → Mem → Prop} (r0 : Nat) (r1 : Nat) (h : (isK S r0 6) ∧ (((gI S r0 12) < 6000 → ∀ S3 : Mem, S3 = uI S r0 12 ((gI S r0 12) + 1) → (isK S r1 10) ∧ ∀ S5 : Mem, S5 = uI S3 r1 6 ((gI S3 r1 6) + 1) → Q (.inl (some (vI 1))) S5) ∧ (¬ (gI S r0 12) < 6000 → ∀ S6 : Mem, S6 = uI S r0 17 1 → Q (.inl (some (vI 0))) S6))) : V X d MX6_step 0 [(0, vR r0), (1, vR r1)] [] S Q := by
  refine V_aload_n (pc2 := 1) (dk D_X6_step 0 rfl) rfl (V_lg 0 rfl) rfl ?_
  obtain ⟨h1, h⟩ := h
  refine V_getI kc6 (pc2 := 4) 12 (dk D_X6_step 1 rfl) fl_6_71 (by decide) (fun _ => rfl) rfl h1 ?_
  refine V_sipush (x := 6000) (pc2 := 7) (dk D_X6_step 2 rfl) (by decide) rfl ?_
  refine V_cmplt (tgt := 17) (pc2 := 10) (dk D_X6_step 3 rfl) (by decide) rfl (fun q2 => ?_) (fun q2 => ?_)
  · have h := h.1 q2
    refine V_aload_n (pc2 := 18) (dk D_X6_step 9 rfl) rfl (V_lg 0 rfl) rfl ?_
    refine V_dup (pc2 := 19) (dk D_X6_step 10 rfl) rfl rfl ?_
    refine V_getI kc6 (pc2 := 22) 12 (dk D_X6_step 11 rfl) fl_6_71 (by decide) (fun _ => rfl) rfl h1 ?_
    refine V_iconst (x := 1) (pc2 := 23) (dk D_X6_step 12 rfl) (by decide) rfl ?_
    refine V_iadd (pc2 := 24) (dk D_X6_step 13 rfl) rfl ?_
    refine V_putI kc6 (pc2 := 27) 12 (dk D_X6_step 14 rfl) fl_6_71 (by decide) (Or.inl rfl) rfl rfl h1 ?_
    have h := h _ rfl
    refine V_aload_n (pc2 := 28) (dk D_X6_step 15 rfl) rfl (V_lg 1 rfl) rfl ?_
    refine V_dup (pc2 := 29) (dk D_X6_step 16 rfl) rfl rfl ?_
    obtain ⟨h4, h⟩ := h
    refine V_getI kc10 (pc2 := 32) 6 (dk D_X6_step 17 rfl) fl_6_252 (by decide) (fun _ => rfl) rfl h4 ?_
    refine V_iconst (x := 1) (pc2 := 33) (dk D_X6_step 18 rfl) (by decide) rfl ?_
    refine V_iadd (pc2 := 34) (dk D_X6_step 19 rfl) rfl ?_
    refine V_putI kc10 (pc2 := 37) 6 (dk D_X6_step 20 rfl) fl_6_252 (by decide) (Or.inl rfl) rfl rfl h4 ?_
    have h := h _ rfl
    refine V_iconst (x := 1) (pc2 := 38) (dk D_X6_step 21 rfl) (by decide) rfl ?_
    exact V_zreturn (dk D_X6_step 22 rfl) rfl (Or.inr rfl) h
  · have h := h.2 q2
    refine V_aload_n (pc2 := 11) (dk D_X6_step 4 rfl) rfl (V_lg 0 rfl) rfl ?_
    refine V_iconst (x := 1) (pc2 := 12) (dk D_X6_step 5 rfl) (by decide) rfl ?_
    refine V_putZ kc6 (pc2 := 15) 17 (dk D_X6_step 6 rfl) fl_6_86 (by decide) (Or.inl rfl) rfl rfl h1 (Or.inr rfl) ?_
    have h := h _ rfl
    refine V_iconst (x := 0) (pc2 := 16) (dk D_X6_step 7 rfl) (by decide) rfl ?_
    exact V_zreturn (dk D_X6_step 8 rfl) rfl (Or.inl rfl) h
def L_X6_spend : List (Nat × Instr × Nat) := [(0, .aload_n 0, 1), (1, .invokevirtual 57, 3), (4, .aload_n 0, 1), (5, .getfield 18, 3), (8, .aload_n 1, 1), (9, .getfield 198, 3), (12, .iconst 0, 1), (13, .invokevirtual 215, 3), (16, .aload_n 0, 1), (17, .iconst 0, 1), (18, .putfield 74, 3), (21, .aload_n 0, 1), (22, .iconst 4, 1), (23, .putfield 80, 3), (26, .return_, 1)]
theorem D_X6_spend : dOk cX6_spend L_X6_spend = true := by decide +kernel
theorem w_X6_spend_0 {X : Cx} {d : Nat} {S : Mem} {Q : Res → Mem → Prop} (r0 : Nat) (r1 : Nat) (h : (isK S r0 6) ∧ ∃ e1 : Nat, e1 + 1 ≤ d ∧ C X e1 MX6_failAll [vR r0] S (RV fun  S4 => (isK S4 r0 6) ∧ (isK S4 r1 10) ∧ (isK S4 (gR S4 r0 1) 4) ∧ ∃ e8 : Nat, e8 + 1 ≤ d ∧ C X e8 MX4_add [vR (gR S4 r0 1), vI (gI S4 r1 0), vI 0] S4 (RV fun  S11 => (isK S11 r0 6) ∧ ∀ S14 : Mem, S14 = uI S11 r0 13 0 → ∀ S15 : Mem, S15 = uI S14 r0 15 4 → Q (.inl none) S15))) : V X d MX6_spend 0 [(0, vR r0), (1, vR r1)] [] S Q := by
  refine V_aload_n (pc2 := 1) (dk D_X6_spend 0 rfl) rfl (V_lg 0 rfl) rfl ?_
  obtain ⟨h5, h⟩ := h
  obtain ⟨e1, he2, hc3⟩ := h
  refine V_callV (as := []) (st := []) (M' := MX6_failAll) (ci := 6) (pc2 := 4) (dk D_X6_spend 1 rfl) ml_6_57 mv_X6_failAll rfl rfl (by decide) rfl (Nat.le_of_ble_eq_true rfl) rfl he2 h5 hc3 (RV.k fun  S4 h => ?_)
  refine V_aload_n (pc2 := 5) (dk D_X6_spend 2 rfl) rfl (V_lg 0 rfl) rfl ?_
  obtain ⟨h6, h⟩ := h
  refine V_getR kc6 (pc2 := 8) 1 (dk D_X6_spend 3 rfl) fl_6_18 (by decide) (fun _ => rfl) rfl h6 ?_
  refine V_aload_n (pc2 := 9) (dk D_X6_spend 4 rfl) rfl (V_lg 1 rfl) rfl ?_
  obtain ⟨h7, h⟩ := h
  refine V_getI kc10 (pc2 := 12) 0 (dk D_X6_spend 5 rfl) fl_6_198 (by decide) (fun _ => rfl) rfl h7 ?_
  refine V_iconst (x := 0) (pc2 := 13) (dk D_X6_spend 6 rfl) (by decide) rfl ?_
  obtain ⟨h12, h⟩ := h
  obtain ⟨e8, he9, hc10⟩ := h
  refine V_callV (as := [_, _]) (st := []) (M' := MX4_add) (ci := 4) (pc2 := 16) (dk D_X6_spend 7 rfl) ml_6_215 mv_X4_add rfl rfl (by decide) rfl (Nat.le_of_ble_eq_true rfl) rfl he9 h12 hc10 (RV.k fun  S11 h => ?_)
  refine V_aload_n (pc2 := 17) (dk D_X6_spend 8 rfl) rfl (V_lg 0 rfl) rfl ?_
  refine V_iconst (x := 0) (pc2 := 18) (dk D_X6_spend 9 rfl) (by decide) rfl ?_
  obtain ⟨h13, h⟩ := h
  refine V_putI kc6 (pc2 := 21) 13 (dk D_X6_spend 10 rfl) fl_6_74 (by decide) (Or.inl rfl) rfl rfl h13 ?_
  have h := h _ rfl
  refine V_aload_n (pc2 := 22) (dk D_X6_spend 11 rfl) rfl (V_lg 0 rfl) rfl ?_
  refine V_iconst (x := 4) (pc2 := 23) (dk D_X6_spend 12 rfl) (by decide) rfl ?_
  refine V_putI kc6 (pc2 := 26) 15 (dk D_X6_spend 13 rfl) fl_6_80 (by decide) (Or.inl rfl) rfl rfl h13 ?_
  have h := h _ rfl
  exact V_return (dk D_X6_spend 14 rfl) rfl h
def L_X6_makeBy : List (Nat × Instr × Nat) := [(0, .aload_n 1, 1), (1, .invokevirtual 212, 3), (4, .istore_n 3, 1), (5, .aload_n 0, 1), (6, .invokevirtual 90, 3), (9, .ifCond .eq 13, 3), (12, .aload_n 0, 1), (13, .aload_n 1, 1), (14, .bipush 13, 2), (16, .invokevirtual 195, 3), (19, .goto 17, 3), (22, .aload_n 1, 1), (23, .aload_n 0, 1), (24, .iload_n 2, 1), (25, .iload_n 3, 1), (26, .aload_n 1, 1), (27, .getfield 198, 3), (30, .invokevirtual 253, 3), (33, .invokevirtual 223, 3), (36, .return_, 1)]
theorem D_X6_makeBy : dOk cX6_makeBy L_X6_makeBy = true := by decide +kernel
theorem w_X6_makeBy_0 {X : Cx} {d : Nat} {S : Mem} {Q : Res → Mem → Prop} (r0 : Nat) (r1 : Nat) (x2 : Int32) (h : (isK S r1 10) ∧ ∃ e1 : Nat, e1 + 1 ≤ d ∧ C X e1 MX10_pop [vR r1] S (RI fun y4 S5 => (isK S5 r0 6) ∧ ∃ e7 : Nat, e7 + 1 ≤ d ∧ C X e7 MX6_isFull [vR r0] S5 (RI fun y10 S11 => ((y10 = 0 → (isK S11 r1 10) ∧ (isK S11 r0 6) ∧ ∃ e15 : Nat, e15 + 1 ≤ d ∧ C X e15 MX6_make [vR r0, vI x2, vI y4, vI (gI S11 r1 0)] S11 (RI fun y18 S19 => (isK S19 r1 10) ∧ ∃ e21 : Nat, e21 + 1 ≤ d ∧ C X e21 MX10_push [vR r1, vI y18] S19 (RV fun  S24 => V X d MX6_makeBy 36 [(0, vR r0), (1, vR r1), (2, vI x2), (3, vI y4)] [] S24 Q))) ∧ (¬ y10 = 0 → (isK S11 r0 6) ∧ ∃ e26 : Nat, e26 + 1 ≤ d ∧ C X e26 MX6_raise [vR r0, vR r1, vI 13] S11 (RV fun  S29 => V X d MX6_makeBy 36 [(0, vR r0), (1, vR r1), (2, vI x2), (3, vI y4)] [] S29 Q)))))) : V X d MX6_makeBy 0 [(0, vR r0), (1, vR r1), (2, vI x2)] [] S Q := by
  refine V_aload_n (pc2 := 1) (dk D_X6_makeBy 0 rfl) rfl (V_lg 1 rfl) rfl ?_
  obtain ⟨h6, h⟩ := h
  obtain ⟨e1, he2, hc3⟩ := h
  refine V_callV (as := []) (st := []) (M' := MX10_pop) (ci := 10) (pc2 := 4) (dk D_X6_makeBy 1 rfl) ml_6_212 mv_X10_pop rfl rfl (by decide) rfl (Nat.le_of_ble_eq_true rfl) rfl he2 h6 hc3 (RI.k fun y4 S5 h => ?_)
  refine V_istore_n (pc2 := 5) (lv2 := [(0, _), (1, _), (2, _), (3, _)]) (dk D_X6_makeBy 2 rfl) rfl (by decide) rfl rfl ?_
  refine V_aload_n (pc2 := 6) (dk D_X6_makeBy 3 rfl) rfl (V_lg 0 rfl) rfl ?_
  obtain ⟨h12, h⟩ := h
  obtain ⟨e7, he8, hc9⟩ := h
  refine V_callV (as := []) (st := []) (M' := MX6_isFull) (ci := 6) (pc2 := 9) (dk D_X6_makeBy 4 rfl) ml_6_90 mv_X6_isFull rfl rfl (by decide) rfl (Nat.le_of_ble_eq_true rfl) rfl he8 h12 hc9 (RI.k fun y10 S11 h => ?_)
  refine V_ifeq (tgt := 22) (pc2 := 12) (dk D_X6_makeBy 5 rfl) (by decide) rfl (fun q13 => ?_) (fun q13 => ?_)
  · have h := h.1 q13
    refine V_aload_n (pc2 := 23) (dk D_X6_makeBy 11 rfl) rfl (V_lg 1 rfl) rfl ?_
    refine V_aload_n (pc2 := 24) (dk D_X6_makeBy 12 rfl) rfl (V_lg 0 rfl) rfl ?_
    refine V_iload_n (pc2 := 25) (dk D_X6_makeBy 13 rfl) rfl (V_lg 2 rfl) rfl ?_
    refine V_iload_n (pc2 := 26) (dk D_X6_makeBy 14 rfl) rfl (V_lg 3 rfl) rfl ?_
    refine V_aload_n (pc2 := 27) (dk D_X6_makeBy 15 rfl) rfl (V_lg 1 rfl) rfl ?_
    obtain ⟨h14, h⟩ := h
    refine V_getI kc10 (pc2 := 30) 0 (dk D_X6_makeBy 16 rfl) fl_6_198 (by decide) (fun _ => rfl) rfl h14 ?_
    obtain ⟨h20, h⟩ := h
    obtain ⟨e15, he16, hc17⟩ := h
    refine V_callV (as := [_, _, _]) (st := [_]) (M' := MX6_make) (ci := 6) (pc2 := 33) (dk D_X6_makeBy 17 rfl) ml_6_253 mv_X6_make rfl rfl (by decide) rfl (Nat.le_of_ble_eq_true rfl) rfl he16 h20 hc17 (RI.k fun y18 S19 h => ?_)
    obtain ⟨h25, h⟩ := h
    obtain ⟨e21, he22, hc23⟩ := h
    refine V_callV (as := [_]) (st := []) (M' := MX10_push) (ci := 10) (pc2 := 36) (dk D_X6_makeBy 18 rfl) ml_6_223 mv_X10_push rfl rfl (by decide) rfl (Nat.le_of_ble_eq_true rfl) rfl he22 h25 hc23 (RV.k fun  S24 h => ?_)
    exact h
  · have h := h.2 q13
    refine V_aload_n (pc2 := 13) (dk D_X6_makeBy 6 rfl) rfl (V_lg 0 rfl) rfl ?_
    refine V_aload_n (pc2 := 14) (dk D_X6_makeBy 7 rfl) rfl (V_lg 1 rfl) rfl ?_
    refine V_bipush (x := 13) (pc2 := 16) (dk D_X6_makeBy 8 rfl) (by decide) rfl ?_
    obtain ⟨h30, h⟩ := h
    obtain ⟨e26, he27, hc28⟩ := h
    refine V_callV (as := [_, _]) (st := []) (M' := MX6_raise) (ci := 6) (pc2 := 19) (dk D_X6_makeBy 9 rfl) ml_6_195 mv_X6_raise rfl rfl (by decide) rfl (Nat.le_of_ble_eq_true rfl) rfl he27 h30 hc28 (RV.k fun  S29 h => ?_)
    refine V_goto (tgt := 36) (dk D_X6_makeBy 10 rfl) (by decide) ?_
    exact h
theorem w_X6_makeBy_36 {X : Cx} {d : Nat} {S : Mem} {Q : Res → Mem → Prop} (r0 : Nat) (r1 : Nat) (x2 : Int32) (x3 : Int32) (h : Q (.inl none) S) : V X d MX6_makeBy 36 [(0, vR r0), (1, vR r1), (2, vI x2), (3, vI x3)] [] S Q := by
  exact V_return (dk D_X6_makeBy 19 rfl) rfl h
def L_X6_callBy : List (Nat × Instr × Nat) := [(0, .aload_n 0, 1), (1, .getfield 43, 3), (4, .iload_n 2, 1), (5, .invokevirtual 256, 3), (8, .astore_n 3, 1), (9, .aload_n 3, 1), (10, .ifnull 11, 3), (13, .aload_n 0, 1), (14, .aload_n 1, 1), (15, .invokevirtual 205, 3), (18, .ifCond .ne 4, 3), (21, .return_, 1), (22, .aload_n 1, 1), (23, .invokevirtual 260, 3), (26, .ifCond .eq 11, 3), (29, .aload_n 1, 1), (30, .aload_n 3, 1), (31, .invokevirtual 263, 3), (34, .goto 10, 3), (37, .aload_n 0, 1), (38, .aload_n 1, 1), (39, .bipush 12, 2), (41, .invokevirtual 195, 3), (44, .return_, 1)]
theorem D_X6_callBy : dOk cX6_callBy L_X6_callBy = true := by decide +kernel
theorem w_X6_callBy_0 {X : Cx} {d : Nat} {S : Mem} {Q : Res → Mem → Prop} (r0 : Nat) (r1 : Nat) (x2 : Int32) (h : (isK S r0 6) ∧ (isK S (gR S r0 3) 7) ∧ ∃ e2 : Nat, e2 + 1 ≤ d ∧ C X e2 MX7_at [vR (gR S r0 3), vI x2] S (RR fun p5 S6 => ((p5 = 0 → V X d MX6_callBy 21 [(0, vR r0), (1, vR r1), (2, vI x2), (3, vR p5)] [] S6 Q) ∧ (¬ p5 = 0 → (isK S6 r0 6) ∧ ∃ e9 : Nat, e9 + 1 ≤ d ∧ C X e9 MX6_step [vR r0, vR r1] S6 (RI fun y12 S13 => ((¬ y12 = 0 → (isK S13 r1 10) ∧ ∃ e16 : Nat, e16 + 1 ≤ d ∧ C X e16 MX10_canCall [vR r1] S13 (RI fun y19 S20 => ((y19 = 0 → (isK S20 r0 6) ∧ ∃ e23 : Nat, e23 + 1 ≤ d ∧ C X e23 MX6_raise [vR r0, vR r1, vI 12] S20 (RV fun  S26 => V X d MX6_callBy 44 [(0, vR r0), (1, vR r1), (2, vI x2), (3, vR p5)] [] S26 Q)) ∧ (¬ y19 = 0 → (isK S20 r1 10) ∧ ∃ e28 : Nat, e28 + 1 ≤ d ∧ C X e28 MX10_enter [vR r1, vR p5] S20 (RV fun  S31 => V X d MX6_callBy 44 [(0, vR r0), (1, vR r1), (2, vI x2), (3, vR p5)] [] S31 Q))))) ∧ (y12 = 0 → V X d MX6_callBy 21 [(0, vR r0), (1, vR r1), (2, vI x2), (3, vR p5)] [] S13 Q))))))) : V X d MX6_callBy 0 [(0, vR r0), (1, vR r1), (2, vI x2)] [] S Q := by
  refine V_aload_n (pc2 := 1) (dk D_X6_callBy 0 rfl) rfl (V_lg 0 rfl) rfl ?_
  obtain ⟨h1, h⟩ := h
  refine V_getR kc6 (pc2 := 4) 3 (dk D_X6_callBy 1 rfl) fl_6_43 (by decide) (fun _ => rfl) rfl h1 ?_
  refine V_iload_n (pc2 := 5) (dk D_X6_callBy 2 rfl) rfl (V_lg 2 rfl) rfl ?_
  obtain ⟨h7, h⟩ := h
  obtain ⟨e2, he3, hc4⟩ := h
  refine V_callV (as := [_]) (st := []) (M' := MX7_at) (ci := 7) (pc2 := 8) (dk D_X6_callBy 3 rfl) ml_6_256 mv_X7_at rfl rfl (by decide) rfl (Nat.le_of_ble_eq_true rfl) rfl he3 h7 hc4 (RR.k fun p5 S6 h => ?_)
  refine V_astore_n (pc2 := 9) (lv2 := [(0, _), (1, _), (2, _), (3, _)]) (dk D_X6_callBy 4 rfl) rfl (by decide) rfl rfl ?_
  refine V_aload_n (pc2 := 10) (dk D_X6_callBy 5 rfl) rfl (V_lg 3 rfl) rfl ?_
  refine V_ifnull (tgt := 21) (pc2 := 13) (dk D_X6_callBy 6 rfl) (by decide) rfl (fun q8 => ?_) (fun q8 => ?_)
  · have h := h.1 q8
    exact h
  · have h := h.2 q8
    refine V_aload_n (pc2 := 14) (dk D_X6_callBy 7 rfl) rfl (V_lg 0 rfl) rfl ?_
    refine V_aload_n (pc2 := 15) (dk D_X6_callBy 8 rfl) rfl (V_lg 1 rfl) rfl ?_
    obtain ⟨h14, h⟩ := h
    obtain ⟨e9, he10, hc11⟩ := h
    refine V_callV (as := [_]) (st := []) (M' := MX6_step) (ci := 6) (pc2 := 18) (dk D_X6_callBy 9 rfl) ml_6_205 mv_X6_step rfl rfl (by decide) rfl (Nat.le_of_ble_eq_true rfl) rfl he10 h14 hc11 (RI.k fun y12 S13 h => ?_)
    refine V_ifne (tgt := 22) (pc2 := 21) (dk D_X6_callBy 10 rfl) (by decide) rfl (fun q15 => ?_) (fun q15 => ?_)
    · have h := h.1 q15
      refine V_aload_n (pc2 := 23) (dk D_X6_callBy 12 rfl) rfl (V_lg 1 rfl) rfl ?_
      obtain ⟨h21, h⟩ := h
      obtain ⟨e16, he17, hc18⟩ := h
      refine V_callV (as := []) (st := []) (M' := MX10_canCall) (ci := 10) (pc2 := 26) (dk D_X6_callBy 13 rfl) ml_6_260 mv_X10_canCall rfl rfl (by decide) rfl (Nat.le_of_ble_eq_true rfl) rfl he17 h21 hc18 (RI.k fun y19 S20 h => ?_)
      refine V_ifeq (tgt := 37) (pc2 := 29) (dk D_X6_callBy 14 rfl) (by decide) rfl (fun q22 => ?_) (fun q22 => ?_)
      · have h := h.1 q22
        refine V_aload_n (pc2 := 38) (dk D_X6_callBy 19 rfl) rfl (V_lg 0 rfl) rfl ?_
        refine V_aload_n (pc2 := 39) (dk D_X6_callBy 20 rfl) rfl (V_lg 1 rfl) rfl ?_
        refine V_bipush (x := 12) (pc2 := 41) (dk D_X6_callBy 21 rfl) (by decide) rfl ?_
        obtain ⟨h27, h⟩ := h
        obtain ⟨e23, he24, hc25⟩ := h
        refine V_callV (as := [_, _]) (st := []) (M' := MX6_raise) (ci := 6) (pc2 := 44) (dk D_X6_callBy 22 rfl) ml_6_195 mv_X6_raise rfl rfl (by decide) rfl (Nat.le_of_ble_eq_true rfl) rfl he24 h27 hc25 (RV.k fun  S26 h => ?_)
        exact h
      · have h := h.2 q22
        refine V_aload_n (pc2 := 30) (dk D_X6_callBy 15 rfl) rfl (V_lg 1 rfl) rfl ?_
        refine V_aload_n (pc2 := 31) (dk D_X6_callBy 16 rfl) rfl (V_lg 3 rfl) rfl ?_
        obtain ⟨h32, h⟩ := h
        obtain ⟨e28, he29, hc30⟩ := h
        refine V_callV (as := [_]) (st := []) (M' := MX10_enter) (ci := 10) (pc2 := 34) (dk D_X6_callBy 17 rfl) ml_6_263 mv_X10_enter rfl rfl (by decide) rfl (Nat.le_of_ble_eq_true rfl) rfl he29 h32 hc30 (RV.k fun  S31 h => ?_)
        refine V_goto (tgt := 44) (dk D_X6_callBy 18 rfl) (by decide) ?_
        exact h
    · have h := h.2 q15
      exact h
theorem w_X6_callBy_21 {X : Cx} {d : Nat} {S : Mem} {Q : Res → Mem → Prop} (r0 : Nat) (r1 : Nat) (x2 : Int32) (r3 : Nat) (h : Q (.inl none) S) : V X d MX6_callBy 21 [(0, vR r0), (1, vR r1), (2, vI x2), (3, vR r3)] [] S Q := by
  exact V_return (dk D_X6_callBy 11 rfl) rfl h
theorem w_X6_callBy_44 {X : Cx} {d : Nat} {S : Mem} {Q : Res → Mem → Prop} (r0 : Nat) (r1 : Nat) (x2 : Int32) (r3 : Nat) (h : Q (.inl none) S) : V X d MX6_callBy 44 [(0, vR r0), (1, vR r1), (2, vI x2), (3, vR r3)] [] S Q := by
  exact V_return (dk D_X6_callBy 23 rfl) rfl h
def L_X6_yieldBy : List (Nat × Instr × Nat) := [(0, .aload_n 1, 1), (1, .getfield 134, 3), (4, .ifCond .eq 13, 3), (7, .aload_n 0, 1), (8, .aload_n 1, 1), (9, .bipush 10, 2), (11, .invokevirtual 195, 3), (14, .goto 15, 3), (17, .aload_n 1, 1), (18, .iconst 1, 1), (19, .putfield 131, 3), (22, .aload_n 0, 1), (23, .aload_n 1, 1), (24, .iload_n 2, 1), (25, .iconst 0, 1), (26, .invokevirtual 267, 3), (29, .return_, 1)]
theorem D_X6_yieldBy : dOk cX6_yieldBy L_X6_yieldBy = true := by decide +kernel
theorem w_X6_yieldBy_0 {X : Cx} {d : Nat} {S : Mem} {Q : Res → Mem → Prop} (r0 : Nat) (r1 : Nat) (x2 : Int32) (h : (isK S r1 10) ∧ (((gI S r1 11) = 0 → ∀ S3 : Mem, S3 = uI S r1 1 1 → (isK S r0 6) ∧ ∃ e4 : Nat, e4 + 1 ≤ d ∧ C X e4 MX6_goBack [vR r0, vR r1, vI x2, vI 0] S3 (RV fun  S7 => V X d MX6_yieldBy 29 [(0, vR r0), (1, vR r1), (2, vI x2)] [] S7 Q)) ∧ (¬ (gI S r1 11) = 0 → (isK S r0 6) ∧ ∃ e9 : Nat, e9 + 1 ≤ d ∧ C X e9 MX6_raise [vR r0, vR r1, vI 10] S (RV fun  S12 => V X d MX6_yieldBy 29 [(0, vR r0), (1, vR r1), (2, vI x2)] [] S12 Q)))) : V X d MX6_yieldBy 0 [(0, vR r0), (1, vR r1), (2, vI x2)] [] S Q := by
  refine V_aload_n (pc2 := 1) (dk D_X6_yieldBy 0 rfl) rfl (V_lg 1 rfl) rfl ?_
  obtain ⟨h1, h⟩ := h
  refine V_getI kc10 (pc2 := 4) 11 (dk D_X6_yieldBy 1 rfl) fl_6_134 (by decide) (fun _ => rfl) rfl h1 ?_
  refine V_ifeq (tgt := 17) (pc2 := 7) (dk D_X6_yieldBy 2 rfl) (by decide) rfl (fun q2 => ?_) (fun q2 => ?_)
  · have h := h.1 q2
    refine V_aload_n (pc2 := 18) (dk D_X6_yieldBy 8 rfl) rfl (V_lg 1 rfl) rfl ?_
    refine V_iconst (x := 1) (pc2 := 19) (dk D_X6_yieldBy 9 rfl) (by decide) rfl ?_
    refine V_putI kc10 (pc2 := 22) 1 (dk D_X6_yieldBy 10 rfl) fl_6_131 (by decide) (Or.inl rfl) rfl rfl h1 ?_
    have h := h _ rfl
    refine V_aload_n (pc2 := 23) (dk D_X6_yieldBy 11 rfl) rfl (V_lg 0 rfl) rfl ?_
    refine V_aload_n (pc2 := 24) (dk D_X6_yieldBy 12 rfl) rfl (V_lg 1 rfl) rfl ?_
    refine V_iload_n (pc2 := 25) (dk D_X6_yieldBy 13 rfl) rfl (V_lg 2 rfl) rfl ?_
    refine V_iconst (x := 0) (pc2 := 26) (dk D_X6_yieldBy 14 rfl) (by decide) rfl ?_
    obtain ⟨h8, h⟩ := h
    obtain ⟨e4, he5, hc6⟩ := h
    refine V_callV (as := [_, _, _]) (st := []) (M' := MX6_goBack) (ci := 6) (pc2 := 29) (dk D_X6_yieldBy 15 rfl) ml_6_267 mv_X6_goBack rfl rfl (by decide) rfl (Nat.le_of_ble_eq_true rfl) rfl he5 h8 hc6 (RV.k fun  S7 h => ?_)
    exact h
  · have h := h.2 q2
    refine V_aload_n (pc2 := 8) (dk D_X6_yieldBy 3 rfl) rfl (V_lg 0 rfl) rfl ?_
    refine V_aload_n (pc2 := 9) (dk D_X6_yieldBy 4 rfl) rfl (V_lg 1 rfl) rfl ?_
    refine V_bipush (x := 10) (pc2 := 11) (dk D_X6_yieldBy 5 rfl) (by decide) rfl ?_
    obtain ⟨h13, h⟩ := h
    obtain ⟨e9, he10, hc11⟩ := h
    refine V_callV (as := [_, _]) (st := []) (M' := MX6_raise) (ci := 6) (pc2 := 14) (dk D_X6_yieldBy 6 rfl) ml_6_195 mv_X6_raise rfl rfl (by decide) rfl (Nat.le_of_ble_eq_true rfl) rfl he10 h13 hc11 (RV.k fun  S12 h => ?_)
    refine V_goto (tgt := 29) (dk D_X6_yieldBy 7 rfl) (by decide) ?_
    exact h
theorem w_X6_yieldBy_29 {X : Cx} {d : Nat} {S : Mem} {Q : Res → Mem → Prop} (r0 : Nat) (r1 : Nat) (x2 : Int32) (h : Q (.inl none) S) : V X d MX6_yieldBy 29 [(0, vR r0), (1, vR r1), (2, vI x2)] [] S Q := by
  exact V_return (dk D_X6_yieldBy 16 rfl) rfl h
def L_X6_resumeBy : List (Nat × Instr × Nat) := [(0, .aload_n 2, 1), (1, .ifnull 10, 3), (4, .aload_n 2, 1), (5, .invokevirtual 270, 3), (8, .ifCond .ne 10, 3), (11, .aload_n 0, 1), (12, .aload_n 1, 1), (13, .aload_n 2, 1), (14, .invokevirtual 273, 3), (17, .return_, 1), (18, .aload_n 1, 1), (19, .iconst 3, 1), (20, .putfield 131, 3), (23, .aload_n 2, 1), (24, .aload_n 1, 1), (25, .getfield 198, 3), (28, .putfield 116, 3), (31, .aload_n 0, 1), (32, .aload_n 1, 1), (33, .getfield 198, 3), (36, .aload_n 2, 1), (37, .iload_n 3, 1), (38, .invokevirtual 119, 3), (41, .return_, 1)]
theorem D_X6_resumeBy : dOk cX6_resumeBy L_X6_resumeBy = true := by decide +kernel
theorem w_X6_resumeBy_0 {X : Cx} {d : Nat} {S : Mem} {Q : Res → Mem → Prop} (r0 : Nat) (r1 : Nat) (r2 : Nat) (x3 : Int32) (h : ((r2 = 0 → V X d MX6_resumeBy 11 [(0, vR r0), (1, vR r1), (2, vR r2), (3, vI x3)] [] S Q) ∧ (¬ r2 = 0 → (isK S r2 10) ∧ ∃ e2 : Nat, e2 + 1 ≤ d ∧ C X e2 MX10_isReady [vR r2] S (RI fun y5 S6 => ((¬ y5 = 0 → (isK S6 r1 10) ∧ ∀ S10 : Mem, S10 = uI S6 r1 1 3 → (isK S6 r2 10) ∧ ∀ S12 : Mem, S12 = uI S10 r2 5 (gI S10 r1 0) → (isK S6 r0 6) ∧ ∃ e13 : Nat, e13 + 1 ≤ d ∧ C X e13 MX6_give [vR r0, vI (gI S12 r1 0), vR r2, vI x3] S12 (RV fun  S16 => Q (.inl none) S16)) ∧ (y5 = 0 → V X d MX6_resumeBy 11 [(0, vR r0), (1, vR r1), (2, vR r2), (3, vI x3)] [] S6 Q)))))) : V X d MX6_resumeBy 0 [(0, vR r0), (1, vR r1), (2, vR r2), (3, vI x3)] [] S Q := by
  refine V_aload_n (pc2 := 1) (dk D_X6_resumeBy 0 rfl) rfl (V_lg 2 rfl) rfl ?_
  refine V_ifnull (tgt := 11) (pc2 := 4) (dk D_X6_resumeBy 1 rfl) (by decide) rfl (fun q1 => ?_) (fun q1 => ?_)
  · have h := h.1 q1
    exact h
  · have h := h.2 q1
    refine V_aload_n (pc2 := 5) (dk D_X6_resumeBy 2 rfl) rfl (V_lg 2 rfl) rfl ?_
    obtain ⟨h7, h⟩ := h
    obtain ⟨e2, he3, hc4⟩ := h
    refine V_callV (as := []) (st := []) (M' := MX10_isReady) (ci := 10) (pc2 := 8) (dk D_X6_resumeBy 3 rfl) ml_6_270 mv_X10_isReady rfl rfl (by decide) rfl (Nat.le_of_ble_eq_true rfl) rfl he3 h7 hc4 (RI.k fun y5 S6 h => ?_)
    refine V_ifne (tgt := 18) (pc2 := 11) (dk D_X6_resumeBy 4 rfl) (by decide) rfl (fun q8 => ?_) (fun q8 => ?_)
    · have h := h.1 q8
      refine V_aload_n (pc2 := 19) (dk D_X6_resumeBy 10 rfl) rfl (V_lg 1 rfl) rfl ?_
      refine V_iconst (x := 3) (pc2 := 20) (dk D_X6_resumeBy 11 rfl) (by decide) rfl ?_
      obtain ⟨h9, h⟩ := h
      refine V_putI kc10 (pc2 := 23) 1 (dk D_X6_resumeBy 12 rfl) fl_6_131 (by decide) (Or.inl rfl) rfl rfl h9 ?_
      have h := h _ rfl
      refine V_aload_n (pc2 := 24) (dk D_X6_resumeBy 13 rfl) rfl (V_lg 2 rfl) rfl ?_
      refine V_aload_n (pc2 := 25) (dk D_X6_resumeBy 14 rfl) rfl (V_lg 1 rfl) rfl ?_
      refine V_getI kc10 (pc2 := 28) 0 (dk D_X6_resumeBy 15 rfl) fl_6_198 (by decide) (fun _ => rfl) rfl h9 ?_
      obtain ⟨h11, h⟩ := h
      refine V_putI kc10 (pc2 := 31) 5 (dk D_X6_resumeBy 16 rfl) fl_6_116 (by decide) (Or.inl rfl) rfl rfl h11 ?_
      have h := h _ rfl
      refine V_aload_n (pc2 := 32) (dk D_X6_resumeBy 17 rfl) rfl (V_lg 0 rfl) rfl ?_
      refine V_aload_n (pc2 := 33) (dk D_X6_resumeBy 18 rfl) rfl (V_lg 1 rfl) rfl ?_
      refine V_getI kc10 (pc2 := 36) 0 (dk D_X6_resumeBy 19 rfl) fl_6_198 (by decide) (fun _ => rfl) rfl h9 ?_
      refine V_aload_n (pc2 := 37) (dk D_X6_resumeBy 20 rfl) rfl (V_lg 2 rfl) rfl ?_
      refine V_iload_n (pc2 := 38) (dk D_X6_resumeBy 21 rfl) rfl (V_lg 3 rfl) rfl ?_
      obtain ⟨h17, h⟩ := h
      obtain ⟨e13, he14, hc15⟩ := h
      refine V_callV (as := [_, _, _]) (st := []) (M' := MX6_give) (ci := 6) (pc2 := 41) (dk D_X6_resumeBy 22 rfl) ml_6_119 mv_X6_give rfl rfl (by decide) rfl (Nat.le_of_ble_eq_true rfl) rfl he14 h17 hc15 (RV.k fun  S16 h => ?_)
      exact V_return (dk D_X6_resumeBy 23 rfl) rfl h
    · have h := h.2 q8
      exact h
theorem w_X6_resumeBy_11 {X : Cx} {d : Nat} {S : Mem} {Q : Res → Mem → Prop} (r0 : Nat) (r1 : Nat) (r2 : Nat) (x3 : Int32) (h : (isK S r0 6) ∧ ∃ e1 : Nat, e1 + 1 ≤ d ∧ C X e1 MX6_misuse [vR r0, vR r1, vR r2] S (RV fun  S4 => Q (.inl none) S4)) : V X d MX6_resumeBy 11 [(0, vR r0), (1, vR r1), (2, vR r2), (3, vI x3)] [] S Q := by
  refine V_aload_n (pc2 := 12) (dk D_X6_resumeBy 5 rfl) rfl (V_lg 0 rfl) rfl ?_
  refine V_aload_n (pc2 := 13) (dk D_X6_resumeBy 6 rfl) rfl (V_lg 1 rfl) rfl ?_
  refine V_aload_n (pc2 := 14) (dk D_X6_resumeBy 7 rfl) rfl (V_lg 2 rfl) rfl ?_
  obtain ⟨h5, h⟩ := h
  obtain ⟨e1, he2, hc3⟩ := h
  refine V_callV (as := [_, _]) (st := []) (M' := MX6_misuse) (ci := 6) (pc2 := 17) (dk D_X6_resumeBy 8 rfl) ml_6_273 mv_X6_misuse rfl rfl (by decide) rfl (Nat.le_of_ble_eq_true rfl) rfl he2 h5 hc3 (RV.k fun  S4 h => ?_)
  exact V_return (dk D_X6_resumeBy 9 rfl) rfl h
def L_X6_handBy : List (Nat × Instr × Nat) := [(0, .aload_n 1, 1), (1, .invokevirtual 212, 3), (4, .istore_n 2, 1), (5, .aload_n 0, 1), (6, .aload_n 1, 1), (7, .invokevirtual 212, 3), (10, .invokevirtual 106, 3), (13, .astore_n 3, 1), (14, .aload_n 1, 1), (15, .getfield 134, 3), (18, .ifCond .eq 13, 3), (21, .aload_n 0, 1), (22, .aload_n 1, 1), (23, .bipush 10, 2), (25, .invokevirtual 195, 3), (28, .goto 46, 3), (31, .aload_n 3, 1), (32, .ifnull 10, 3), (35, .aload_n 3, 1), (36, .invokevirtual 270, 3), (39, .ifCond .ne 12, 3), (42, .aload_n 0, 1), (43, .aload_n 1, 1), (44, .aload_n 3, 1), (45, .invokevirtual 273, 3), (48, .goto 26, 3), (51, .aload_n 1, 1), (52, .iconst 1, 1), (53, .putfield 131, 3), (56, .aload_n 3, 1), (57, .aload_n 1, 1), (58, .getfield 116, 3), (61, .putfield 116, 3), (64, .aload_n 0, 1), (65, .aload_n 1, 1), (66, .getfield 198, 3), (69, .aload_n 3, 1), (70, .iload_n 2, 1), (71, .invokevirtual 119, 3), (74, .return_, 1)]
theorem D_X6_handBy : dOk cX6_handBy L_X6_handBy = true := by decide +kernel
theorem w_X6_handBy_0 {X : Cx} {d : Nat} {S : Mem} {Q : Res → Mem → Prop} (r0 : Nat) (r1 : Nat) (h : (isK S r1 10) ∧ ∃ e1 : Nat, e1 + 1 ≤ d ∧ C X e1 MX10_pop [vR r1] S (RI fun y4 S5 => (isK S5 r1 10) ∧ ∃ e7 : Nat, e7 + 1 ≤ d ∧ C X e7 MX10_pop [vR r1] S5 (RI fun y10 S11 => (isK S11 r0 6) ∧ ∃ e13 : Nat, e13 + 1 ≤ d ∧ C X e13 MX6_find [vR r0, vI y10] S11 (RR fun p16 S17 => (isK S17 r1 10) ∧ (((gI S17 r1 11) = 0 → ((p16 = 0 → V X d MX6_handBy 42 [(0, vR r0), (1, vR r1), (2, vI y4), (3, vR p16)] [] S17 Q) ∧ (¬ p16 = 0 → (isK S17 p16 10) ∧ ∃ e22 : Nat, e22 + 1 ≤ d ∧ C X e22 MX10_isReady [vR p16] S17 (RI fun y25 S26 => ((¬ y25 = 0 → (isK S26 r1 10) ∧ ∀ S30 : Mem, S30 = uI S26 r1 1 1 → (isK S26 p16 10) ∧ ∀ S32 : Mem, S32 = uI S30 p16 5 (gI S30 r1 5) → (isK S26 r0 6) ∧ ∃ e33 : Nat, e33 + 1 ≤ d ∧ C X e33 MX6_give [vR r0, vI (gI S32 r1 0), vR p16, vI y4] S32 (RV fun  S36 => V X d MX6_handBy 74 [(0, vR r0), (1, vR r1), (2, vI y4), (3, vR p16)] [] S36 Q)) ∧ (y25 = 0 → V X d MX6_handBy 42 [(0, vR r0), (1, vR r1), (2, vI y4), (3, vR p16)] [] S26 Q)))))) ∧ (¬ (gI S17 r1 11) = 0 → (isK S17 r0 6) ∧ ∃ e38 : Nat, e38 + 1 ≤ d ∧ C X e38 MX6_raise [vR r0, vR r1, vI 10] S17 (RV fun  S41 => V X d MX6_handBy 74 [(0, vR r0), (1, vR r1), (2, vI y4), (3, vR p16)] [] S41 Q))))))) : V X d MX6_handBy 0 [(0, vR r0), (1, vR r1)] [] S Q := by
  refine V_aload_n (pc2 := 1) (dk D_X6_handBy 0 rfl) rfl (V_lg 1 rfl) rfl ?_
  obtain ⟨h6, h⟩ := h
  obtain ⟨e1, he2, hc3⟩ := h
  refine V_callV (as := []) (st := []) (M' := MX10_pop) (ci := 10) (pc2 := 4) (dk D_X6_handBy 1 rfl) ml_6_212 mv_X10_pop rfl rfl (by decide) rfl (Nat.le_of_ble_eq_true rfl) rfl he2 h6 hc3 (RI.k fun y4 S5 h => ?_)
  refine V_istore_n (pc2 := 5) (lv2 := [(0, _), (1, _), (2, _)]) (dk D_X6_handBy 2 rfl) rfl (by decide) rfl rfl ?_
  refine V_aload_n (pc2 := 6) (dk D_X6_handBy 3 rfl) rfl (V_lg 0 rfl) rfl ?_
  refine V_aload_n (pc2 := 7) (dk D_X6_handBy 4 rfl) rfl (V_lg 1 rfl) rfl ?_
  obtain ⟨h12, h⟩ := h
  obtain ⟨e7, he8, hc9⟩ := h
  refine V_callV (as := []) (st := [_]) (M' := MX10_pop) (ci := 10) (pc2 := 10) (dk D_X6_handBy 5 rfl) ml_6_212 mv_X10_pop rfl rfl (by decide) rfl (Nat.le_of_ble_eq_true rfl) rfl he8 h12 hc9 (RI.k fun y10 S11 h => ?_)
  obtain ⟨h18, h⟩ := h
  obtain ⟨e13, he14, hc15⟩ := h
  refine V_callV (as := [_]) (st := []) (M' := MX6_find) (ci := 6) (pc2 := 13) (dk D_X6_handBy 6 rfl) ml_6_106 mv_X6_find rfl rfl (by decide) rfl (Nat.le_of_ble_eq_true rfl) rfl he14 h18 hc15 (RR.k fun p16 S17 h => ?_)
  refine V_astore_n (pc2 := 14) (lv2 := [(0, _), (1, _), (2, _), (3, _)]) (dk D_X6_handBy 7 rfl) rfl (by decide) rfl rfl ?_
  refine V_aload_n (pc2 := 15) (dk D_X6_handBy 8 rfl) rfl (V_lg 1 rfl) rfl ?_
  obtain ⟨h19, h⟩ := h
  refine V_getI kc10 (pc2 := 18) 11 (dk D_X6_handBy 9 rfl) fl_6_134 (by decide) (fun _ => rfl) rfl h19 ?_
  refine V_ifeq (tgt := 31) (pc2 := 21) (dk D_X6_handBy 10 rfl) (by decide) rfl (fun q20 => ?_) (fun q20 => ?_)
  · have h := h.1 q20
    refine V_aload_n (pc2 := 32) (dk D_X6_handBy 16 rfl) rfl (V_lg 3 rfl) rfl ?_
    refine V_ifnull (tgt := 42) (pc2 := 35) (dk D_X6_handBy 17 rfl) (by decide) rfl (fun q21 => ?_) (fun q21 => ?_)
    · have h := h.1 q21
      exact h
    · have h := h.2 q21
      refine V_aload_n (pc2 := 36) (dk D_X6_handBy 18 rfl) rfl (V_lg 3 rfl) rfl ?_
      obtain ⟨h27, h⟩ := h
      obtain ⟨e22, he23, hc24⟩ := h
      refine V_callV (as := []) (st := []) (M' := MX10_isReady) (ci := 10) (pc2 := 39) (dk D_X6_handBy 19 rfl) ml_6_270 mv_X10_isReady rfl rfl (by decide) rfl (Nat.le_of_ble_eq_true rfl) rfl he23 h27 hc24 (RI.k fun y25 S26 h => ?_)
      refine V_ifne (tgt := 51) (pc2 := 42) (dk D_X6_handBy 20 rfl) (by decide) rfl (fun q28 => ?_) (fun q28 => ?_)
      · have h := h.1 q28
        refine V_aload_n (pc2 := 52) (dk D_X6_handBy 26 rfl) rfl (V_lg 1 rfl) rfl ?_
        refine V_iconst (x := 1) (pc2 := 53) (dk D_X6_handBy 27 rfl) (by decide) rfl ?_
        obtain ⟨h29, h⟩ := h
        refine V_putI kc10 (pc2 := 56) 1 (dk D_X6_handBy 28 rfl) fl_6_131 (by decide) (Or.inl rfl) rfl rfl h29 ?_
        have h := h _ rfl
        refine V_aload_n (pc2 := 57) (dk D_X6_handBy 29 rfl) rfl (V_lg 3 rfl) rfl ?_
        refine V_aload_n (pc2 := 58) (dk D_X6_handBy 30 rfl) rfl (V_lg 1 rfl) rfl ?_
        refine V_getI kc10 (pc2 := 61) 5 (dk D_X6_handBy 31 rfl) fl_6_116 (by decide) (fun _ => rfl) rfl h29 ?_
        obtain ⟨h31, h⟩ := h
        refine V_putI kc10 (pc2 := 64) 5 (dk D_X6_handBy 32 rfl) fl_6_116 (by decide) (Or.inl rfl) rfl rfl h31 ?_
        have h := h _ rfl
        refine V_aload_n (pc2 := 65) (dk D_X6_handBy 33 rfl) rfl (V_lg 0 rfl) rfl ?_
        refine V_aload_n (pc2 := 66) (dk D_X6_handBy 34 rfl) rfl (V_lg 1 rfl) rfl ?_
        refine V_getI kc10 (pc2 := 69) 0 (dk D_X6_handBy 35 rfl) fl_6_198 (by decide) (fun _ => rfl) rfl h29 ?_
        refine V_aload_n (pc2 := 70) (dk D_X6_handBy 36 rfl) rfl (V_lg 3 rfl) rfl ?_
        refine V_iload_n (pc2 := 71) (dk D_X6_handBy 37 rfl) rfl (V_lg 2 rfl) rfl ?_
        obtain ⟨h37, h⟩ := h
        obtain ⟨e33, he34, hc35⟩ := h
        refine V_callV (as := [_, _, _]) (st := []) (M' := MX6_give) (ci := 6) (pc2 := 74) (dk D_X6_handBy 38 rfl) ml_6_119 mv_X6_give rfl rfl (by decide) rfl (Nat.le_of_ble_eq_true rfl) rfl he34 h37 hc35 (RV.k fun  S36 h => ?_)
        exact h
      · have h := h.2 q28
        exact h
  · have h := h.2 q20
    refine V_aload_n (pc2 := 22) (dk D_X6_handBy 11 rfl) rfl (V_lg 0 rfl) rfl ?_
    refine V_aload_n (pc2 := 23) (dk D_X6_handBy 12 rfl) rfl (V_lg 1 rfl) rfl ?_
    refine V_bipush (x := 10) (pc2 := 25) (dk D_X6_handBy 13 rfl) (by decide) rfl ?_
    obtain ⟨h42, h⟩ := h
    obtain ⟨e38, he39, hc40⟩ := h
    refine V_callV (as := [_, _]) (st := []) (M' := MX6_raise) (ci := 6) (pc2 := 28) (dk D_X6_handBy 14 rfl) ml_6_195 mv_X6_raise rfl rfl (by decide) rfl (Nat.le_of_ble_eq_true rfl) rfl he39 h42 hc40 (RV.k fun  S41 h => ?_)
    refine V_goto (tgt := 74) (dk D_X6_handBy 15 rfl) (by decide) ?_
    exact h
theorem w_X6_handBy_42 {X : Cx} {d : Nat} {S : Mem} {Q : Res → Mem → Prop} (r0 : Nat) (r1 : Nat) (x2 : Int32) (r3 : Nat) (h : (isK S r0 6) ∧ ∃ e1 : Nat, e1 + 1 ≤ d ∧ C X e1 MX6_misuse [vR r0, vR r1, vR r3] S (RV fun  S4 => V X d MX6_handBy 74 [(0, vR r0), (1, vR r1), (2, vI x2), (3, vR r3)] [] S4 Q)) : V X d MX6_handBy 42 [(0, vR r0), (1, vR r1), (2, vI x2), (3, vR r3)] [] S Q := by
  refine V_aload_n (pc2 := 43) (dk D_X6_handBy 21 rfl) rfl (V_lg 0 rfl) rfl ?_
  refine V_aload_n (pc2 := 44) (dk D_X6_handBy 22 rfl) rfl (V_lg 1 rfl) rfl ?_
  refine V_aload_n (pc2 := 45) (dk D_X6_handBy 23 rfl) rfl (V_lg 3 rfl) rfl ?_
  obtain ⟨h5, h⟩ := h
  obtain ⟨e1, he2, hc3⟩ := h
  refine V_callV (as := [_, _]) (st := []) (M' := MX6_misuse) (ci := 6) (pc2 := 48) (dk D_X6_handBy 24 rfl) ml_6_273 mv_X6_misuse rfl rfl (by decide) rfl (Nat.le_of_ble_eq_true rfl) rfl he2 h5 hc3 (RV.k fun  S4 h => ?_)
  refine V_goto (tgt := 74) (dk D_X6_handBy 25 rfl) (by decide) ?_
  exact h
theorem w_X6_handBy_74 {X : Cx} {d : Nat} {S : Mem} {Q : Res → Mem → Prop} (r0 : Nat) (r1 : Nat) (x2 : Int32) (r3 : Nat) (h : Q (.inl none) S) : V X d MX6_handBy 74 [(0, vR r0), (1, vR r1), (2, vI x2), (3, vR r3)] [] S Q := by
  exact V_return (dk D_X6_handBy 39 rfl) rfl h
def L_X6_injectBy : List (Nat × Instr × Nat) := [(0, .aload_n 1, 1), (1, .invokevirtual 212, 3), (4, .istore_n 3, 1), (5, .aload_n 0, 1), (6, .aload_n 1, 1), (7, .invokevirtual 212, 3), (10, .invokevirtual 106, 3), (13, .astore 4, 2), (15, .aload 4, 2), (17, .ifnull 11, 3), (20, .aload 4, 2), (22, .invokevirtual 270, 3), (25, .ifCond .ne 11, 3), (28, .aload_n 0, 1), (29, .aload_n 1, 1), (30, .aload 4, 2), (32, .invokevirtual 273, 3), (35, .return_, 1), (36, .aload 4, 2), (38, .getfield 131, 3), (41, .iconst 1, 1), (42, .if_icmp .ne 8, 3), (45, .aload_n 1, 1), (46, .iconst 3, 1), (47, .putfield 131, 3), (50, .aload_n 0, 1), (51, .aload 4, 2), (53, .aload_n 1, 1), (54, .getfield 198, 3), (57, .aload_n 0, 1), (58, .getfield 24, 3), (61, .iload_n 2, 1), (62, .iload_n 3, 1), (63, .aload_n 1, 1), (64, .getfield 198, 3), (67, .aload_n 1, 1), (68, .invokevirtual 201, 3), (71, .iconst 0, 1), (72, .invokevirtual 123, 3), (75, .invokevirtual 127, 3), (78, .return_, 1)]
theorem D_X6_injectBy : dOk cX6_injectBy L_X6_injectBy = true := by decide +kernel
theorem w_X6_injectBy_0 {X : Cx} {d : Nat} {S : Mem} {Q : Res → Mem → Prop} (r0 : Nat) (r1 : Nat) (x2 : Int32) (h : (isK S r1 10) ∧ ∃ e1 : Nat, e1 + 1 ≤ d ∧ C X e1 MX10_pop [vR r1] S (RI fun y4 S5 => (isK S5 r1 10) ∧ ∃ e7 : Nat, e7 + 1 ≤ d ∧ C X e7 MX10_pop [vR r1] S5 (RI fun y10 S11 => (isK S11 r0 6) ∧ ∃ e13 : Nat, e13 + 1 ≤ d ∧ C X e13 MX6_find [vR r0, vI y10] S11 (RR fun p16 S17 => ((p16 = 0 → V X d MX6_injectBy 28 [(0, vR r0), (1, vR r1), (2, vI x2), (3, vI y4), (4, vR p16)] [] S17 Q) ∧ (¬ p16 = 0 → (isK S17 p16 10) ∧ ∃ e20 : Nat, e20 + 1 ≤ d ∧ C X e20 MX10_isReady [vR p16] S17 (RI fun y23 S24 => ((¬ y23 = 0 → (isK S24 p16 10) ∧ ((¬ (gI S24 p16 1) = 1 → V X d MX6_injectBy 50 [(0, vR r0), (1, vR r1), (2, vI x2), (3, vI y4), (4, vR p16)] [] S24 Q) ∧ ((gI S24 p16 1) = 1 → (isK S24 r1 10) ∧ ∀ S30 : Mem, S30 = uI S24 r1 1 3 → V X d MX6_injectBy 50 [(0, vR r0), (1, vR r1), (2, vI x2), (3, vI y4), (4, vR p16)] [] S30 Q))) ∧ (y23 = 0 → V X d MX6_injectBy 28 [(0, vR r0), (1, vR r1), (2, vI x2), (3, vI y4), (4, vR p16)] [] S24 Q))))))))) : V X d MX6_injectBy 0 [(0, vR r0), (1, vR r1), (2, vI x2)] [] S Q := by
  refine V_aload_n (pc2 := 1) (dk D_X6_injectBy 0 rfl) rfl (V_lg 1 rfl) rfl ?_
  obtain ⟨h6, h⟩ := h
  obtain ⟨e1, he2, hc3⟩ := h
  refine V_callV (as := []) (st := []) (M' := MX10_pop) (ci := 10) (pc2 := 4) (dk D_X6_injectBy 1 rfl) ml_6_212 mv_X10_pop rfl rfl (by decide) rfl (Nat.le_of_ble_eq_true rfl) rfl he2 h6 hc3 (RI.k fun y4 S5 h => ?_)
  refine V_istore_n (pc2 := 5) (lv2 := [(0, _), (1, _), (2, _), (3, _)]) (dk D_X6_injectBy 2 rfl) rfl (by decide) rfl rfl ?_
  refine V_aload_n (pc2 := 6) (dk D_X6_injectBy 3 rfl) rfl (V_lg 0 rfl) rfl ?_
  refine V_aload_n (pc2 := 7) (dk D_X6_injectBy 4 rfl) rfl (V_lg 1 rfl) rfl ?_
  obtain ⟨h12, h⟩ := h
  obtain ⟨e7, he8, hc9⟩ := h
  refine V_callV (as := []) (st := [_]) (M' := MX10_pop) (ci := 10) (pc2 := 10) (dk D_X6_injectBy 5 rfl) ml_6_212 mv_X10_pop rfl rfl (by decide) rfl (Nat.le_of_ble_eq_true rfl) rfl he8 h12 hc9 (RI.k fun y10 S11 h => ?_)
  obtain ⟨h18, h⟩ := h
  obtain ⟨e13, he14, hc15⟩ := h
  refine V_callV (as := [_]) (st := []) (M' := MX6_find) (ci := 6) (pc2 := 13) (dk D_X6_injectBy 6 rfl) ml_6_106 mv_X6_find rfl rfl (by decide) rfl (Nat.le_of_ble_eq_true rfl) rfl he14 h18 hc15 (RR.k fun p16 S17 h => ?_)
  refine V_astore (pc2 := 15) (lv2 := [(0, _), (1, _), (2, _), (3, _), (4, _)]) (dk D_X6_injectBy 7 rfl) (by decide) rfl rfl ?_
  refine V_aload (pc2 := 17) (dk D_X6_injectBy 8 rfl) (V_lg 4 rfl) rfl ?_
  refine V_ifnull (tgt := 28) (pc2 := 20) (dk D_X6_injectBy 9 rfl) (by decide) rfl (fun q19 => ?_) (fun q19 => ?_)
  · have h := h.1 q19
    exact h
  · have h := h.2 q19
    refine V_aload (pc2 := 22) (dk D_X6_injectBy 10 rfl) (V_lg 4 rfl) rfl ?_
    obtain ⟨h25, h⟩ := h
    obtain ⟨e20, he21, hc22⟩ := h
    refine V_callV (as := []) (st := []) (M' := MX10_isReady) (ci := 10) (pc2 := 25) (dk D_X6_injectBy 11 rfl) ml_6_270 mv_X10_isReady rfl rfl (by decide) rfl (Nat.le_of_ble_eq_true rfl) rfl he21 h25 hc22 (RI.k fun y23 S24 h => ?_)
    refine V_ifne (tgt := 36) (pc2 := 28) (dk D_X6_injectBy 12 rfl) (by decide) rfl (fun q26 => ?_) (fun q26 => ?_)
    · have h := h.1 q26
      refine V_aload (pc2 := 38) (dk D_X6_injectBy 18 rfl) (V_lg 4 rfl) rfl ?_
      obtain ⟨h27, h⟩ := h
      refine V_getI kc10 (pc2 := 41) 1 (dk D_X6_injectBy 19 rfl) fl_6_131 (by decide) (fun _ => rfl) rfl h27 ?_
      refine V_iconst (x := 1) (pc2 := 42) (dk D_X6_injectBy 20 rfl) (by decide) rfl ?_
      refine V_cmpne (tgt := 50) (pc2 := 45) (dk D_X6_injectBy 21 rfl) (by decide) rfl (fun q28 => ?_) (fun q28 => ?_)
      · have h := h.1 q28
        exact h
      · have h := h.2 q28
        refine V_aload_n (pc2 := 46) (dk D_X6_injectBy 22 rfl) rfl (V_lg 1 rfl) rfl ?_
        refine V_iconst (x := 3) (pc2 := 47) (dk D_X6_injectBy 23 rfl) (by decide) rfl ?_
        obtain ⟨h29, h⟩ := h
        refine V_putI kc10 (pc2 := 50) 1 (dk D_X6_injectBy 24 rfl) fl_6_131 (by decide) (Or.inl rfl) rfl rfl h29 ?_
        have h := h _ rfl
        exact h
    · have h := h.2 q26
      exact h
theorem w_X6_injectBy_28 {X : Cx} {d : Nat} {S : Mem} {Q : Res → Mem → Prop} (r0 : Nat) (r1 : Nat) (x2 : Int32) (x3 : Int32) (r4 : Nat) (h : (isK S r0 6) ∧ ∃ e1 : Nat, e1 + 1 ≤ d ∧ C X e1 MX6_misuse [vR r0, vR r1, vR r4] S (RV fun  S4 => Q (.inl none) S4)) : V X d MX6_injectBy 28 [(0, vR r0), (1, vR r1), (2, vI x2), (3, vI x3), (4, vR r4)] [] S Q := by
  refine V_aload_n (pc2 := 29) (dk D_X6_injectBy 13 rfl) rfl (V_lg 0 rfl) rfl ?_
  refine V_aload_n (pc2 := 30) (dk D_X6_injectBy 14 rfl) rfl (V_lg 1 rfl) rfl ?_
  refine V_aload (pc2 := 32) (dk D_X6_injectBy 15 rfl) (V_lg 4 rfl) rfl ?_
  obtain ⟨h5, h⟩ := h
  obtain ⟨e1, he2, hc3⟩ := h
  refine V_callV (as := [_, _]) (st := []) (M' := MX6_misuse) (ci := 6) (pc2 := 35) (dk D_X6_injectBy 16 rfl) ml_6_273 mv_X6_misuse rfl rfl (by decide) rfl (Nat.le_of_ble_eq_true rfl) rfl he2 h5 hc3 (RV.k fun  S4 h => ?_)
  exact V_return (dk D_X6_injectBy 17 rfl) rfl h
theorem w_X6_injectBy_50 {X : Cx} {d : Nat} {S : Mem} {Q : Res → Mem → Prop} (r0 : Nat) (r1 : Nat) (x2 : Int32) (x3 : Int32) (r4 : Nat) (h : (isK S r1 10) ∧ (isK S r0 6) ∧ ∃ e3 : Nat, e3 + 1 ≤ d ∧ C X e3 MX10_place [vR r1] S (RI fun y6 S7 => (isK S7 (gR S r0 2) 2) ∧ ∃ e8 : Nat, e8 + 1 ≤ d ∧ C X e8 MX2_make [vR (gR S r0 2), vI x2, vI x3, vI (gI S r1 0), vI y6, vI 0] S7 (RI fun y11 S12 => (isK S12 r0 6) ∧ ∃ e14 : Nat, e14 + 1 ≤ d ∧ C X e14 MX6_throwInto [vR r0, vR r4, vI (gI S r1 0), vI y11] S12 (RV fun  S17 => Q (.inl none) S17)))) : V X d MX6_injectBy 50 [(0, vR r0), (1, vR r1), (2, vI x2), (3, vI x3), (4, vR r4)] [] S Q := by
  refine V_aload_n (pc2 := 51) (dk D_X6_injectBy 25 rfl) rfl (V_lg 0 rfl) rfl ?_
  refine V_aload (pc2 := 53) (dk D_X6_injectBy 26 rfl) (V_lg 4 rfl) rfl ?_
  refine V_aload_n (pc2 := 54) (dk D_X6_injectBy 27 rfl) rfl (V_lg 1 rfl) rfl ?_
  obtain ⟨h1, h⟩ := h
  refine V_getI kc10 (pc2 := 57) 0 (dk D_X6_injectBy 28 rfl) fl_6_198 (by decide) (fun _ => rfl) rfl h1 ?_
  refine V_aload_n (pc2 := 58) (dk D_X6_injectBy 29 rfl) rfl (V_lg 0 rfl) rfl ?_
  obtain ⟨h2, h⟩ := h
  refine V_getR kc6 (pc2 := 61) 2 (dk D_X6_injectBy 30 rfl) fl_6_24 (by decide) (fun _ => rfl) rfl h2 ?_
  refine V_iload_n (pc2 := 62) (dk D_X6_injectBy 31 rfl) rfl (V_lg 2 rfl) rfl ?_
  refine V_iload_n (pc2 := 63) (dk D_X6_injectBy 32 rfl) rfl (V_lg 3 rfl) rfl ?_
  refine V_aload_n (pc2 := 64) (dk D_X6_injectBy 33 rfl) rfl (V_lg 1 rfl) rfl ?_
  refine V_getI kc10 (pc2 := 67) 0 (dk D_X6_injectBy 34 rfl) fl_6_198 (by decide) (fun _ => rfl) rfl h1 ?_
  refine V_aload_n (pc2 := 68) (dk D_X6_injectBy 35 rfl) rfl (V_lg 1 rfl) rfl ?_
  obtain ⟨e3, he4, hc5⟩ := h
  refine V_callV (as := []) (st := [_, _, _, _, _, _, _]) (M' := MX10_place) (ci := 10) (pc2 := 71) (dk D_X6_injectBy 36 rfl) ml_6_201 mv_X10_place rfl rfl (by decide) rfl (Nat.le_of_ble_eq_true rfl) rfl he4 h1 hc5 (RI.k fun y6 S7 h => ?_)
  refine V_iconst (x := 0) (pc2 := 72) (dk D_X6_injectBy 37 rfl) (by decide) rfl ?_
  obtain ⟨h13, h⟩ := h
  obtain ⟨e8, he9, hc10⟩ := h
  refine V_callV (as := [_, _, _, _, _]) (st := [_, _, _]) (M' := MX2_make) (ci := 2) (pc2 := 75) (dk D_X6_injectBy 38 rfl) ml_6_123 mv_X2_make rfl rfl (by decide) rfl (Nat.le_of_ble_eq_true rfl) rfl he9 h13 hc10 (RI.k fun y11 S12 h => ?_)
  obtain ⟨h18, h⟩ := h
  obtain ⟨e14, he15, hc16⟩ := h
  refine V_callV (as := [_, _, _]) (st := []) (M' := MX6_throwInto) (ci := 6) (pc2 := 78) (dk D_X6_injectBy 39 rfl) ml_6_127 mv_X6_throwInto rfl rfl (by decide) rfl (Nat.le_of_ble_eq_true rfl) rfl he15 h18 hc16 (RV.k fun  S17 h => ?_)
  exact V_return (dk D_X6_injectBy 40 rfl) rfl h
def L_X6_closeBy : List (Nat × Instr × Nat) := [(0, .aload_n 2, 1), (1, .ifnull 19, 3), (4, .aload_n 2, 1), (5, .getfield 131, 3), (8, .iconst 2, 1), (9, .if_icmp .eq 11, 3), (12, .aload_n 2, 1), (13, .getfield 131, 3), (16, .iconst 3, 1), (17, .if_icmp .ne 12, 3), (20, .aload_n 0, 1), (21, .aload_n 1, 1), (22, .aload_n 2, 1), (23, .invokevirtual 273, 3), (26, .goto 66, 3), (29, .aload_n 2, 1), (30, .getfield 131, 3), (33, .ifCond .ne 13, 3), (36, .aload_n 0, 1), (37, .aload_n 2, 1), (38, .bipush 6, 2), (40, .invokevirtual 113, 3), (43, .goto 49, 3), (46, .aload_n 2, 1), (47, .getfield 131, 3), (50, .iconst 1, 1), (51, .if_icmp .ne 41, 3), (54, .aload_n 1, 1), (55, .iconst 3, 1), (56, .putfield 131, 3), (59, .aload_n 2, 1), (60, .iconst 1, 1), (61, .putfield 134, 3), (64, .aload_n 0, 1), (65, .aload_n 2, 1), (66, .aload_n 1, 1), (67, .getfield 198, 3), (70, .aload_n 0, 1), (71, .getfield 24, 3), (74, .bipush 14, 2), (76, .iconst 0, 1), (77, .aload_n 1, 1), (78, .getfield 198, 3), (81, .aload_n 1, 1), (82, .invokevirtual 201, 3), (85, .iconst 0, 1), (86, .invokevirtual 123, 3), (89, .invokevirtual 127, 3), (92, .return_, 1)]
theorem D_X6_closeBy : dOk cX6_closeBy L_X6_closeBy = true := by decide +kernel
theorem w_X6_closeBy_0 {X : Cx} {d : Nat} {S : Mem} {Q : Res → Mem → Prop} (r0 : Nat) (r1 : Nat) (r2 : Nat) (h : ((r2 = 0 → V X d MX6_closeBy 20 [(0, vR r0), (1, vR r1), (2, vR r2)] [] S Q) ∧ (¬ r2 = 0 → (isK S r2 10) ∧ (((gI S r2 1) = 2 → V X d MX6_closeBy 20 [(0, vR r0), (1, vR r1), (2, vR r2)] [] S Q) ∧ (¬ (gI S r2 1) = 2 → ((¬ (gI S r2 1) = 3 → ((¬ (gI S r2 1) = 0 → ((¬ (gI S r2 1) = 1 → V X d MX6_closeBy 92 [(0, vR r0), (1, vR r1), (2, vR r2)] [] S Q) ∧ ((gI S r2 1) = 1 → (isK S r1 10) ∧ ∀ S8 : Mem, S8 = uI S r1 1 3 → ∀ S9 : Mem, S9 = uI S8 r2 11 1 → (isK S r0 6) ∧ ∃ e11 : Nat, e11 + 1 ≤ d ∧ C X e11 MX10_place [vR r1] S9 (RI fun y14 S15 => (isK S15 (gR S r0 2) 2) ∧ ∃ e16 : Nat, e16 + 1 ≤ d ∧ C X e16 MX2_make [vR (gR S r0 2), vI 14, vI 0, vI (gI S9 r1 0), vI y14, vI 0] S15 (RI fun y19 S20 => (isK S20 r0 6) ∧ ∃ e22 : Nat, e22 + 1 ≤ d ∧ C X e22 MX6_throwInto [vR r0, vR r2, vI (gI S9 r1 0), vI y19] S20 (RV fun  S25 => V X d MX6_closeBy 92 [(0, vR r0), (1, vR r1), (2, vR r2)] [] S25 Q)))))) ∧ ((gI S r2 1) = 0 → (isK S r0 6) ∧ ∃ e27 : Nat, e27 + 1 ≤ d ∧ C X e27 MX6_end [vR r0, vR r2, vI 6] S (RV fun  S30 => V X d MX6_closeBy 92 [(0, vR r0), (1, vR r1), (2, vR r2)] [] S30 Q)))) ∧ ((gI S r2 1) = 3 → V X d MX6_closeBy 20 [(0, vR r0), (1, vR r1), (2, vR r2)] [] S Q))))))) : V X d MX6_closeBy 0 [(0, vR r0), (1, vR r1), (2, vR r2)] [] S Q := by
  refine V_aload_n (pc2 := 1) (dk D_X6_closeBy 0 rfl) rfl (V_lg 2 rfl) rfl ?_
  refine V_ifnull (tgt := 20) (pc2 := 4) (dk D_X6_closeBy 1 rfl) (by decide) rfl (fun q1 => ?_) (fun q1 => ?_)
  · have h := h.1 q1
    exact h
  · have h := h.2 q1
    refine V_aload_n (pc2 := 5) (dk D_X6_closeBy 2 rfl) rfl (V_lg 2 rfl) rfl ?_
    obtain ⟨h2, h⟩ := h
    refine V_getI kc10 (pc2 := 8) 1 (dk D_X6_closeBy 3 rfl) fl_6_131 (by decide) (fun _ => rfl) rfl h2 ?_
    refine V_iconst (x := 2) (pc2 := 9) (dk D_X6_closeBy 4 rfl) (by decide) rfl ?_
    refine V_cmpeq (tgt := 20) (pc2 := 12) (dk D_X6_closeBy 5 rfl) (by decide) rfl (fun q3 => ?_) (fun q3 => ?_)
    · have h := h.1 q3
      exact h
    · have h := h.2 q3
      refine V_aload_n (pc2 := 13) (dk D_X6_closeBy 6 rfl) rfl (V_lg 2 rfl) rfl ?_
      refine V_getI kc10 (pc2 := 16) 1 (dk D_X6_closeBy 7 rfl) fl_6_131 (by decide) (fun _ => rfl) rfl h2 ?_
      refine V_iconst (x := 3) (pc2 := 17) (dk D_X6_closeBy 8 rfl) (by decide) rfl ?_
      refine V_cmpne (tgt := 29) (pc2 := 20) (dk D_X6_closeBy 9 rfl) (by decide) rfl (fun q4 => ?_) (fun q4 => ?_)
      · have h := h.1 q4
        refine V_aload_n (pc2 := 30) (dk D_X6_closeBy 15 rfl) rfl (V_lg 2 rfl) rfl ?_
        refine V_getI kc10 (pc2 := 33) 1 (dk D_X6_closeBy 16 rfl) fl_6_131 (by decide) (fun _ => rfl) rfl h2 ?_
        refine V_ifne (tgt := 46) (pc2 := 36) (dk D_X6_closeBy 17 rfl) (by decide) rfl (fun q5 => ?_) (fun q5 => ?_)
        · have h := h.1 q5
          refine V_aload_n (pc2 := 47) (dk D_X6_closeBy 23 rfl) rfl (V_lg 2 rfl) rfl ?_
          refine V_getI kc10 (pc2 := 50) 1 (dk D_X6_closeBy 24 rfl) fl_6_131 (by decide) (fun _ => rfl) rfl h2 ?_
          refine V_iconst (x := 1) (pc2 := 51) (dk D_X6_closeBy 25 rfl) (by decide) rfl ?_
          refine V_cmpne (tgt := 92) (pc2 := 54) (dk D_X6_closeBy 26 rfl) (by decide) rfl (fun q6 => ?_) (fun q6 => ?_)
          · have h := h.1 q6
            exact h
          · have h := h.2 q6
            refine V_aload_n (pc2 := 55) (dk D_X6_closeBy 27 rfl) rfl (V_lg 1 rfl) rfl ?_
            refine V_iconst (x := 3) (pc2 := 56) (dk D_X6_closeBy 28 rfl) (by decide) rfl ?_
            obtain ⟨h7, h⟩ := h
            refine V_putI kc10 (pc2 := 59) 1 (dk D_X6_closeBy 29 rfl) fl_6_131 (by decide) (Or.inl rfl) rfl rfl h7 ?_
            have h := h _ rfl
            refine V_aload_n (pc2 := 60) (dk D_X6_closeBy 30 rfl) rfl (V_lg 2 rfl) rfl ?_
            refine V_iconst (x := 1) (pc2 := 61) (dk D_X6_closeBy 31 rfl) (by decide) rfl ?_
            refine V_putZ kc10 (pc2 := 64) 11 (dk D_X6_closeBy 32 rfl) fl_6_134 (by decide) (Or.inl rfl) rfl rfl h2 (Or.inr rfl) ?_
            have h := h _ rfl
            refine V_aload_n (pc2 := 65) (dk D_X6_closeBy 33 rfl) rfl (V_lg 0 rfl) rfl ?_
            refine V_aload_n (pc2 := 66) (dk D_X6_closeBy 34 rfl) rfl (V_lg 2 rfl) rfl ?_
            refine V_aload_n (pc2 := 67) (dk D_X6_closeBy 35 rfl) rfl (V_lg 1 rfl) rfl ?_
            refine V_getI kc10 (pc2 := 70) 0 (dk D_X6_closeBy 36 rfl) fl_6_198 (by decide) (fun _ => rfl) rfl h7 ?_
            refine V_aload_n (pc2 := 71) (dk D_X6_closeBy 37 rfl) rfl (V_lg 0 rfl) rfl ?_
            obtain ⟨h10, h⟩ := h
            refine V_getR kc6 (pc2 := 74) 2 (dk D_X6_closeBy 38 rfl) fl_6_24 (by decide) (fun _ => rfl) rfl h10 ?_
            refine V_bipush (x := 14) (pc2 := 76) (dk D_X6_closeBy 39 rfl) (by decide) rfl ?_
            refine V_iconst (x := 0) (pc2 := 77) (dk D_X6_closeBy 40 rfl) (by decide) rfl ?_
            refine V_aload_n (pc2 := 78) (dk D_X6_closeBy 41 rfl) rfl (V_lg 1 rfl) rfl ?_
            refine V_getI kc10 (pc2 := 81) 0 (dk D_X6_closeBy 42 rfl) fl_6_198 (by decide) (fun _ => rfl) rfl h7 ?_
            refine V_aload_n (pc2 := 82) (dk D_X6_closeBy 43 rfl) rfl (V_lg 1 rfl) rfl ?_
            obtain ⟨e11, he12, hc13⟩ := h
            refine V_callV (as := []) (st := [_, _, _, _, _, _, _]) (M' := MX10_place) (ci := 10) (pc2 := 85) (dk D_X6_closeBy 44 rfl) ml_6_201 mv_X10_place rfl rfl (by decide) rfl (Nat.le_of_ble_eq_true rfl) rfl he12 h7 hc13 (RI.k fun y14 S15 h => ?_)
            refine V_iconst (x := 0) (pc2 := 86) (dk D_X6_closeBy 45 rfl) (by decide) rfl ?_
            obtain ⟨h21, h⟩ := h
            obtain ⟨e16, he17, hc18⟩ := h
            refine V_callV (as := [_, _, _, _, _]) (st := [_, _, _]) (M' := MX2_make) (ci := 2) (pc2 := 89) (dk D_X6_closeBy 46 rfl) ml_6_123 mv_X2_make rfl rfl (by decide) rfl (Nat.le_of_ble_eq_true rfl) rfl he17 h21 hc18 (RI.k fun y19 S20 h => ?_)
            obtain ⟨h26, h⟩ := h
            obtain ⟨e22, he23, hc24⟩ := h
            refine V_callV (as := [_, _, _]) (st := []) (M' := MX6_throwInto) (ci := 6) (pc2 := 92) (dk D_X6_closeBy 47 rfl) ml_6_127 mv_X6_throwInto rfl rfl (by decide) rfl (Nat.le_of_ble_eq_true rfl) rfl he23 h26 hc24 (RV.k fun  S25 h => ?_)
            exact h
        · have h := h.2 q5
          refine V_aload_n (pc2 := 37) (dk D_X6_closeBy 18 rfl) rfl (V_lg 0 rfl) rfl ?_
          refine V_aload_n (pc2 := 38) (dk D_X6_closeBy 19 rfl) rfl (V_lg 2 rfl) rfl ?_
          refine V_bipush (x := 6) (pc2 := 40) (dk D_X6_closeBy 20 rfl) (by decide) rfl ?_
          obtain ⟨h31, h⟩ := h
          obtain ⟨e27, he28, hc29⟩ := h
          refine V_callV (as := [_, _]) (st := []) (M' := MX6_end) (ci := 6) (pc2 := 43) (dk D_X6_closeBy 21 rfl) ml_6_113 mv_X6_end rfl rfl (by decide) rfl (Nat.le_of_ble_eq_true rfl) rfl he28 h31 hc29 (RV.k fun  S30 h => ?_)
          refine V_goto (tgt := 92) (dk D_X6_closeBy 22 rfl) (by decide) ?_
          exact h
      · have h := h.2 q4
        exact h
theorem w_X6_closeBy_20 {X : Cx} {d : Nat} {S : Mem} {Q : Res → Mem → Prop} (r0 : Nat) (r1 : Nat) (r2 : Nat) (h : (isK S r0 6) ∧ ∃ e1 : Nat, e1 + 1 ≤ d ∧ C X e1 MX6_misuse [vR r0, vR r1, vR r2] S (RV fun  S4 => V X d MX6_closeBy 92 [(0, vR r0), (1, vR r1), (2, vR r2)] [] S4 Q)) : V X d MX6_closeBy 20 [(0, vR r0), (1, vR r1), (2, vR r2)] [] S Q := by
  refine V_aload_n (pc2 := 21) (dk D_X6_closeBy 10 rfl) rfl (V_lg 0 rfl) rfl ?_
  refine V_aload_n (pc2 := 22) (dk D_X6_closeBy 11 rfl) rfl (V_lg 1 rfl) rfl ?_
  refine V_aload_n (pc2 := 23) (dk D_X6_closeBy 12 rfl) rfl (V_lg 2 rfl) rfl ?_
  obtain ⟨h5, h⟩ := h
  obtain ⟨e1, he2, hc3⟩ := h
  refine V_callV (as := [_, _]) (st := []) (M' := MX6_misuse) (ci := 6) (pc2 := 26) (dk D_X6_closeBy 13 rfl) ml_6_273 mv_X6_misuse rfl rfl (by decide) rfl (Nat.le_of_ble_eq_true rfl) rfl he2 h5 hc3 (RV.k fun  S4 h => ?_)
  refine V_goto (tgt := 92) (dk D_X6_closeBy 14 rfl) (by decide) ?_
  exact h
theorem w_X6_closeBy_92 {X : Cx} {d : Nat} {S : Mem} {Q : Res → Mem → Prop} (r0 : Nat) (r1 : Nat) (r2 : Nat) (h : Q (.inl none) S) : V X d MX6_closeBy 92 [(0, vR r0), (1, vR r1), (2, vR r2)] [] S Q := by
  exact V_return (dk D_X6_closeBy 48 rfl) rfl h
def L_X6_misuse : List (Nat × Instr × Nat) := [(0, .aload_n 0, 1), (1, .aload_n 1, 1), (2, .bipush 10, 2), (4, .invokevirtual 195, 3), (7, .aload_n 2, 1), (8, .ifnull 17, 3), (11, .aload_n 2, 1), (12, .invokevirtual 270, 3), (15, .ifCond .ne 10, 3), (18, .aload_n 2, 1), (19, .invokevirtual 110, 3), (22, .ifCond .eq 4, 3), (25, .return_, 1), (26, .aload_n 0, 1), (27, .iconst 0, 1), (28, .putfield 61, 3), (31, .aload_n 1, 1), (32, .astore_n 3, 1), (33, .iconst 0, 1), (34, .istore 4, 2), (36, .iload 4, 2), (38, .bipush 12, 2), (40, .if_icmp .ge 50, 3), (43, .aload_n 3, 1), (44, .ifnull 46, 3), (47, .aload_n 0, 1), (48, .getfield 40, 3), (51, .iload 4, 2), (53, .aload_n 3, 1), (54, .getfield 198, 3), (57, .iastore, 1), (58, .aload_n 0, 1), (59, .iload 4, 2), (61, .iconst 1, 1), (62, .iadd, 1), (63, .putfield 61, 3), (66, .aload_n 3, 1), (67, .aload_n 2, 1), (68, .if_acmp .ne 7, 3), (71, .aconst_null, 1), (72, .goto 11, 3), (75, .aload_n 0, 1), (76, .aload_n 3, 1), (77, .getfield 116, 3), (80, .invokevirtual 106, 3), (83, .astore_n 3, 1), (84, .iinc 4 1, 3), (87, .goto (-51), 3), (90, .return_, 1)]
theorem D_X6_misuse : dOk cX6_misuse L_X6_misuse = true := by decide +kernel
theorem w_X6_misuse_0 {X : Cx} {d : Nat} {S : Mem} {Q : Res → Mem → Prop} (r0 : Nat) (r1 : Nat) (r2 : Nat) (h : (isK S r0 6) ∧ ∃ e1 : Nat, e1 + 1 ≤ d ∧ C X e1 MX6_raise [vR r0, vR r1, vI 10] S (RV fun  S4 => ((r2 = 0 → V X d MX6_misuse 25 [(0, vR r0), (1, vR r1), (2, vR r2)] [] S4 Q) ∧ (¬ r2 = 0 → (isK S4 r2 10) ∧ ∃ e7 : Nat, e7 + 1 ≤ d ∧ C X e7 MX10_isReady [vR r2] S4 (RI fun y10 S11 => ((¬ y10 = 0 → V X d MX6_misuse 25 [(0, vR r0), (1, vR r1), (2, vR r2)] [] S11 Q) ∧ (y10 = 0 → (isK S11 r2 10) ∧ ∃ e14 : Nat, e14 + 1 ≤ d ∧ C X e14 MX10_isOver [vR r2] S11 (RI fun y17 S18 => ((y17 = 0 → (isK S18 r0 6) ∧ ∀ S22 : Mem, S22 = uI S18 r0 9 0 → V X d MX6_misuse 36 [(0, vR r0), (1, vR r1), (2, vR r2), (3, vR r1), (4, vI 0)] [] S22 Q) ∧ (¬ y17 = 0 → V X d MX6_misuse 25 [(0, vR r0), (1, vR r1), (2, vR r2)] [] S18 Q)))))))))) : V X d MX6_misuse 0 [(0, vR r0), (1, vR r1), (2, vR r2)] [] S Q := by
  refine V_aload_n (pc2 := 1) (dk D_X6_misuse 0 rfl) rfl (V_lg 0 rfl) rfl ?_
  refine V_aload_n (pc2 := 2) (dk D_X6_misuse 1 rfl) rfl (V_lg 1 rfl) rfl ?_
  refine V_bipush (x := 10) (pc2 := 4) (dk D_X6_misuse 2 rfl) (by decide) rfl ?_
  obtain ⟨h5, h⟩ := h
  obtain ⟨e1, he2, hc3⟩ := h
  refine V_callV (as := [_, _]) (st := []) (M' := MX6_raise) (ci := 6) (pc2 := 7) (dk D_X6_misuse 3 rfl) ml_6_195 mv_X6_raise rfl rfl (by decide) rfl (Nat.le_of_ble_eq_true rfl) rfl he2 h5 hc3 (RV.k fun  S4 h => ?_)
  refine V_aload_n (pc2 := 8) (dk D_X6_misuse 4 rfl) rfl (V_lg 2 rfl) rfl ?_
  refine V_ifnull (tgt := 25) (pc2 := 11) (dk D_X6_misuse 5 rfl) (by decide) rfl (fun q6 => ?_) (fun q6 => ?_)
  · have h := h.1 q6
    exact h
  · have h := h.2 q6
    refine V_aload_n (pc2 := 12) (dk D_X6_misuse 6 rfl) rfl (V_lg 2 rfl) rfl ?_
    obtain ⟨h12, h⟩ := h
    obtain ⟨e7, he8, hc9⟩ := h
    refine V_callV (as := []) (st := []) (M' := MX10_isReady) (ci := 10) (pc2 := 15) (dk D_X6_misuse 7 rfl) ml_6_270 mv_X10_isReady rfl rfl (by decide) rfl (Nat.le_of_ble_eq_true rfl) rfl he8 h12 hc9 (RI.k fun y10 S11 h => ?_)
    refine V_ifne (tgt := 25) (pc2 := 18) (dk D_X6_misuse 8 rfl) (by decide) rfl (fun q13 => ?_) (fun q13 => ?_)
    · have h := h.1 q13
      exact h
    · have h := h.2 q13
      refine V_aload_n (pc2 := 19) (dk D_X6_misuse 9 rfl) rfl (V_lg 2 rfl) rfl ?_
      obtain ⟨h19, h⟩ := h
      obtain ⟨e14, he15, hc16⟩ := h
      refine V_callV (as := []) (st := []) (M' := MX10_isOver) (ci := 10) (pc2 := 22) (dk D_X6_misuse 10 rfl) ml_6_110 mv_X10_isOver rfl rfl (by decide) rfl (Nat.le_of_ble_eq_true rfl) rfl he15 h19 hc16 (RI.k fun y17 S18 h => ?_)
      refine V_ifeq (tgt := 26) (pc2 := 25) (dk D_X6_misuse 11 rfl) (by decide) rfl (fun q20 => ?_) (fun q20 => ?_)
      · have h := h.1 q20
        refine V_aload_n (pc2 := 27) (dk D_X6_misuse 13 rfl) rfl (V_lg 0 rfl) rfl ?_
        refine V_iconst (x := 0) (pc2 := 28) (dk D_X6_misuse 14 rfl) (by decide) rfl ?_
        obtain ⟨h21, h⟩ := h
        refine V_putI kc6 (pc2 := 31) 9 (dk D_X6_misuse 15 rfl) fl_6_61 (by decide) (Or.inl rfl) rfl rfl h21 ?_
        have h := h _ rfl
        refine V_aload_n (pc2 := 32) (dk D_X6_misuse 16 rfl) rfl (V_lg 1 rfl) rfl ?_
        refine V_astore_n (pc2 := 33) (lv2 := [(0, _), (1, _), (2, _), (3, _)]) (dk D_X6_misuse 17 rfl) rfl (by decide) rfl rfl ?_
        refine V_iconst (x := 0) (pc2 := 34) (dk D_X6_misuse 18 rfl) (by decide) rfl ?_
        refine V_istore (pc2 := 36) (lv2 := [(0, _), (1, _), (2, _), (3, _), (4, _)]) (dk D_X6_misuse 19 rfl) (by decide) rfl rfl ?_
        exact h
      · have h := h.2 q20
        exact h
theorem w_X6_misuse_25 {X : Cx} {d : Nat} {S : Mem} {Q : Res → Mem → Prop} (r0 : Nat) (r1 : Nat) (r2 : Nat) (h : Q (.inl none) S) : V X d MX6_misuse 25 [(0, vR r0), (1, vR r1), (2, vR r2)] [] S Q := by
  exact V_return (dk D_X6_misuse 12 rfl) rfl h
theorem w_X6_misuse_36 {X : Cx} {d : Nat} {S : Mem} {Q : Res → Mem → Prop} (r0 : Nat) (r1 : Nat) (r2 : Nat) (r3 : Nat) (x4 : Int32) (h : ((12 ≤ x4 → V X d MX6_misuse 90 [(0, vR r0), (1, vR r1), (2, vR r2), (3, vR r3), (4, vI x4)] [] S Q) ∧ (¬ 12 ≤ x4 → ((r3 = 0 → V X d MX6_misuse 90 [(0, vR r0), (1, vR r1), (2, vR r2), (3, vR r3), (4, vI x4)] [] S Q) ∧ (¬ r3 = 0 → (isK S r0 6) ∧ (isK S r3 10) ∧ (isK S (gR S r0 7) 21) ∧ (vp_in x4 (gN S (gR S r0 7))) ∧ ∀ S7 : Mem, S7 = uI S (gR S r0 7) ((x4 : Int32).toNatClampNeg) (gI S r3 0) → ∀ S8 : Mem, S8 = uI S7 r0 9 (x4 + 1) → (64 ≤ r3 ∨ r3 = 0) ∧ (64 ≤ r2 ∨ r2 = 0) ∧ ((¬ r3 = r2 → ∃ e12 : Nat, e12 + 1 ≤ d ∧ C X e12 MX6_find [vR r0, vI (gI S8 r3 5)] S8 (RR fun p15 S16 => V X d MX6_misuse 83 [(0, vR r0), (1, vR r1), (2, vR r2), (3, vR r3), (4, vI x4)] [vR p15] S16 Q)) ∧ (r3 = r2 → V X d MX6_misuse 83 [(0, vR r0), (1, vR r1), (2, vR r2), (3, vR r3), (4, vI x4)] [vR 0] S8 Q))))))) : V X d MX6_misuse 36 [(0, vR r0), (1, vR r1), (2, vR r2), (3, vR r3), (4, vI x4)] [] S Q := by
  refine V_iload (pc2 := 38) (dk D_X6_misuse 20 rfl) (V_lg 4 rfl) rfl ?_
  refine V_bipush (x := 12) (pc2 := 40) (dk D_X6_misuse 21 rfl) (by decide) rfl ?_
  refine V_cmpge (tgt := 90) (pc2 := 43) (dk D_X6_misuse 22 rfl) (by decide) rfl (fun q1 => ?_) (fun q1 => ?_)
  · have h := h.1 q1
    exact h
  · have h := h.2 q1
    refine V_aload_n (pc2 := 44) (dk D_X6_misuse 23 rfl) rfl (V_lg 3 rfl) rfl ?_
    refine V_ifnull (tgt := 90) (pc2 := 47) (dk D_X6_misuse 24 rfl) (by decide) rfl (fun q2 => ?_) (fun q2 => ?_)
    · have h := h.1 q2
      exact h
    · have h := h.2 q2
      refine V_aload_n (pc2 := 48) (dk D_X6_misuse 25 rfl) rfl (V_lg 0 rfl) rfl ?_
      obtain ⟨h3, h⟩ := h
      refine V_getR kc6 (pc2 := 51) 7 (dk D_X6_misuse 26 rfl) fl_6_40 (by decide) (fun _ => rfl) rfl h3 ?_
      refine V_iload (pc2 := 53) (dk D_X6_misuse 27 rfl) (V_lg 4 rfl) rfl ?_
      refine V_aload_n (pc2 := 54) (dk D_X6_misuse 28 rfl) rfl (V_lg 3 rfl) rfl ?_
      obtain ⟨h4, h⟩ := h
      refine V_getI kc10 (pc2 := 57) 0 (dk D_X6_misuse 29 rfl) fl_6_198 (by decide) (fun _ => rfl) rfl h4 ?_
      obtain ⟨h5, h⟩ := h
      obtain ⟨h6, h⟩ := h
      refine V_iast (pc2 := 58) (dk D_X6_misuse 30 rfl) rfl h5 h6 ?_
      have h := h _ rfl
      refine V_aload_n (pc2 := 59) (dk D_X6_misuse 31 rfl) rfl (V_lg 0 rfl) rfl ?_
      refine V_iload (pc2 := 61) (dk D_X6_misuse 32 rfl) (V_lg 4 rfl) rfl ?_
      refine V_iconst (x := 1) (pc2 := 62) (dk D_X6_misuse 33 rfl) (by decide) rfl ?_
      refine V_iadd (pc2 := 63) (dk D_X6_misuse 34 rfl) rfl ?_
      refine V_putI kc6 (pc2 := 66) 9 (dk D_X6_misuse 35 rfl) fl_6_61 (by decide) (Or.inl rfl) rfl rfl h3 ?_
      have h := h _ rfl
      refine V_aload_n (pc2 := 67) (dk D_X6_misuse 36 rfl) rfl (V_lg 3 rfl) rfl ?_
      refine V_aload_n (pc2 := 68) (dk D_X6_misuse 37 rfl) rfl (V_lg 2 rfl) rfl ?_
      obtain ⟨h9, h⟩ := h
      obtain ⟨h10, h⟩ := h
      refine V_acmpne (tgt := 75) (pc2 := 71) (dk D_X6_misuse 38 rfl) (by decide) rfl h9 h10 (fun q11 => ?_) (fun q11 => ?_)
      · have h := h.1 q11
        refine V_aload_n (pc2 := 76) (dk D_X6_misuse 41 rfl) rfl (V_lg 0 rfl) rfl ?_
        refine V_aload_n (pc2 := 77) (dk D_X6_misuse 42 rfl) rfl (V_lg 3 rfl) rfl ?_
        refine V_getI kc10 (pc2 := 80) 5 (dk D_X6_misuse 43 rfl) fl_6_116 (by decide) (fun _ => rfl) rfl h4 ?_
        obtain ⟨e12, he13, hc14⟩ := h
        refine V_callV (as := [_]) (st := []) (M' := MX6_find) (ci := 6) (pc2 := 83) (dk D_X6_misuse 44 rfl) ml_6_106 mv_X6_find rfl rfl (by decide) rfl (Nat.le_of_ble_eq_true rfl) rfl he13 h3 hc14 (RR.k fun p15 S16 h => ?_)
        exact h
      · have h := h.2 q11
        refine V_null (pc2 := 72) (dk D_X6_misuse 39 rfl) rfl ?_
        refine V_goto (tgt := 83) (dk D_X6_misuse 40 rfl) (by decide) ?_
        exact h
theorem w_X6_misuse_83 {X : Cx} {d : Nat} {S : Mem} {Q : Res → Mem → Prop} (r0 : Nat) (r1 : Nat) (r2 : Nat) (r3 : Nat) (x4 : Int32) (t0 : Nat) (h : V X d MX6_misuse 36 [(0, vR r0), (1, vR r1), (2, vR r2), (3, vR t0), (4, vI (x4 + 1))] [] S Q) : V X d MX6_misuse 83 [(0, vR r0), (1, vR r1), (2, vR r2), (3, vR r3), (4, vI x4)] [vR t0] S Q := by
  refine V_astore_n (pc2 := 84) (lv2 := [(0, _), (1, _), (2, _), (3, _), (4, _)]) (dk D_X6_misuse 45 rfl) rfl (by decide) rfl rfl ?_
  refine V_iinc (y := _ + 1) (pc2 := 87) (lv2 := [(0, _), (1, _), (2, _), (3, _), (4, _)]) (dk D_X6_misuse 46 rfl) (V_lg 4 rfl) rfl (by decide) rfl rfl ?_
  refine V_goto (tgt := 36) (dk D_X6_misuse 47 rfl) (by decide) ?_
  exact h
theorem w_X6_misuse_90 {X : Cx} {d : Nat} {S : Mem} {Q : Res → Mem → Prop} (r0 : Nat) (r1 : Nat) (r2 : Nat) (r3 : Nat) (x4 : Int32) (h : Q (.inl none) S) : V X d MX6_misuse 90 [(0, vR r0), (1, vR r1), (2, vR r2), (3, vR r3), (4, vI x4)] [] S Q := by
  exact V_return (dk D_X6_misuse 48 rfl) rfl h
def L_X6_give : List (Nat × Instr × Nat) := [(0, .aload_n 0, 1), (1, .getfield 18, 3), (4, .iload_n 1, 1), (5, .aload_n 2, 1), (6, .getfield 198, 3), (9, .invokevirtual 215, 3), (12, .aload_n 0, 1), (13, .aload_n 2, 1), (14, .getfield 198, 3), (17, .putfield 74, 3), (20, .aload_n 0, 1), (21, .getfield 43, 3), (24, .aload_n 2, 1), (25, .getfield 276, 3), (28, .invokevirtual 256, 3), (31, .astore 4, 2), (33, .aload_n 2, 1), (34, .getfield 131, 3), (37, .iconst 1, 1), (38, .if_icmp .ne 11, 3), (41, .aload_n 2, 1), (42, .iload_n 3, 1), (43, .invokevirtual 223, 3), (46, .goto 22, 3), (49, .aload 4, 2), (51, .ifnull 17, 3), (54, .aload_n 2, 1), (55, .aload_n 0, 1), (56, .invokevirtual 279, 3), (59, .invokevirtual 283, 3), (62, .aload_n 2, 1), (63, .aload 4, 2), (65, .invokevirtual 263, 3), (68, .aload_n 2, 1), (69, .iconst 2, 1), (70, .putfield 131, 3), (73, .return_, 1)]
theorem D_X6_give : dOk cX6_give L_X6_give = true := by decide +kernel
theorem w_X6_give_0 {X : Cx} {d : Nat} {S : Mem} {Q : Res → Mem → Prop} (r0 : Nat) (x1 : Int32) (r2 : Nat) (x3 : Int32) (h : (isK S r0 6) ∧ (isK S r2 10) ∧ (isK S (gR S r0 1) 4) ∧ ∃ e3 : Nat, e3 + 1 ≤ d ∧ C X e3 MX4_add [vR (gR S r0 1), vI x1, vI (gI S r2 0)] S (RV fun  S6 => (isK S6 r2 10) ∧ (isK S6 r0 6) ∧ ∀ S10 : Mem, S10 = uI S6 r0 13 (gI S6 r2 0) → (isK S6 (gR S6 r0 3) 7) ∧ ∃ e11 : Nat, e11 + 1 ≤ d ∧ C X e11 MX7_at [vR (gR S6 r0 3), vI (gI S10 r2 2)] S10 (RR fun p14 S15 => (isK S15 r2 10) ∧ ((¬ (gI S15 r2 1) = 1 → ((p14 = 0 → V X d MX6_give 68 [(0, vR r0), (1, vI x1), (2, vR r2), (3, vI x3), (4, vR p14)] [] S15 Q) ∧ (¬ p14 = 0 → (isK S15 r0 6) ∧ ∃ e20 : Nat, e20 + 1 ≤ d ∧ C X e20 MX6_spareRow [vR r0] S15 (RR fun p23 S24 => (isK S24 r2 10) ∧ ∃ e26 : Nat, e26 + 1 ≤ d ∧ C X e26 MX10_begin [vR r2, vR p23] S24 (RV fun  S29 => (isK S29 r2 10) ∧ ∃ e31 : Nat, e31 + 1 ≤ d ∧ C X e31 MX10_enter [vR r2, vR p14] S29 (RV fun  S34 => V X d MX6_give 68 [(0, vR r0), (1, vI x1), (2, vR r2), (3, vI x3), (4, vR p14)] [] S34 Q)))))) ∧ ((gI S15 r2 1) = 1 → ∃ e36 : Nat, e36 + 1 ≤ d ∧ C X e36 MX10_push [vR r2, vI x3] S15 (RV fun  S39 => V X d MX6_give 68 [(0, vR r0), (1, vI x1), (2, vR r2), (3, vI x3), (4, vR p14)] [] S39 Q)))))) : V X d MX6_give 0 [(0, vR r0), (1, vI x1), (2, vR r2), (3, vI x3)] [] S Q := by
  refine V_aload_n (pc2 := 1) (dk D_X6_give 0 rfl) rfl (V_lg 0 rfl) rfl ?_
  obtain ⟨h1, h⟩ := h
  refine V_getR kc6 (pc2 := 4) 1 (dk D_X6_give 1 rfl) fl_6_18 (by decide) (fun _ => rfl) rfl h1 ?_
  refine V_iload_n (pc2 := 5) (dk D_X6_give 2 rfl) rfl (V_lg 1 rfl) rfl ?_
  refine V_aload_n (pc2 := 6) (dk D_X6_give 3 rfl) rfl (V_lg 2 rfl) rfl ?_
  obtain ⟨h2, h⟩ := h
  refine V_getI kc10 (pc2 := 9) 0 (dk D_X6_give 4 rfl) fl_6_198 (by decide) (fun _ => rfl) rfl h2 ?_
  obtain ⟨h7, h⟩ := h
  obtain ⟨e3, he4, hc5⟩ := h
  refine V_callV (as := [_, _]) (st := []) (M' := MX4_add) (ci := 4) (pc2 := 12) (dk D_X6_give 5 rfl) ml_6_215 mv_X4_add rfl rfl (by decide) rfl (Nat.le_of_ble_eq_true rfl) rfl he4 h7 hc5 (RV.k fun  S6 h => ?_)
  refine V_aload_n (pc2 := 13) (dk D_X6_give 6 rfl) rfl (V_lg 0 rfl) rfl ?_
  refine V_aload_n (pc2 := 14) (dk D_X6_give 7 rfl) rfl (V_lg 2 rfl) rfl ?_
  obtain ⟨h8, h⟩ := h
  refine V_getI kc10 (pc2 := 17) 0 (dk D_X6_give 8 rfl) fl_6_198 (by decide) (fun _ => rfl) rfl h8 ?_
  obtain ⟨h9, h⟩ := h
  refine V_putI kc6 (pc2 := 20) 13 (dk D_X6_give 9 rfl) fl_6_74 (by decide) (Or.inl rfl) rfl rfl h9 ?_
  have h := h _ rfl
  refine V_aload_n (pc2 := 21) (dk D_X6_give 10 rfl) rfl (V_lg 0 rfl) rfl ?_
  refine V_getR kc6 (pc2 := 24) 3 (dk D_X6_give 11 rfl) fl_6_43 (by decide) (fun _ => rfl) rfl h9 ?_
  refine V_aload_n (pc2 := 25) (dk D_X6_give 12 rfl) rfl (V_lg 2 rfl) rfl ?_
  refine V_getI kc10 (pc2 := 28) 2 (dk D_X6_give 13 rfl) fl_6_276 (by decide) (fun _ => rfl) rfl h8 ?_
  obtain ⟨h16, h⟩ := h
  obtain ⟨e11, he12, hc13⟩ := h
  refine V_callV (as := [_]) (st := []) (M' := MX7_at) (ci := 7) (pc2 := 31) (dk D_X6_give 14 rfl) ml_6_256 mv_X7_at rfl rfl (by decide) rfl (Nat.le_of_ble_eq_true rfl) rfl he12 h16 hc13 (RR.k fun p14 S15 h => ?_)
  refine V_astore (pc2 := 33) (lv2 := [(0, _), (1, _), (2, _), (3, _), (4, _)]) (dk D_X6_give 15 rfl) (by decide) rfl rfl ?_
  refine V_aload_n (pc2 := 34) (dk D_X6_give 16 rfl) rfl (V_lg 2 rfl) rfl ?_
  obtain ⟨h17, h⟩ := h
  refine V_getI kc10 (pc2 := 37) 1 (dk D_X6_give 17 rfl) fl_6_131 (by decide) (fun _ => rfl) rfl h17 ?_
  refine V_iconst (x := 1) (pc2 := 38) (dk D_X6_give 18 rfl) (by decide) rfl ?_
  refine V_cmpne (tgt := 49) (pc2 := 41) (dk D_X6_give 19 rfl) (by decide) rfl (fun q18 => ?_) (fun q18 => ?_)
  · have h := h.1 q18
    refine V_aload (pc2 := 51) (dk D_X6_give 24 rfl) (V_lg 4 rfl) rfl ?_
    refine V_ifnull (tgt := 68) (pc2 := 54) (dk D_X6_give 25 rfl) (by decide) rfl (fun q19 => ?_) (fun q19 => ?_)
    · have h := h.1 q19
      exact h
    · have h := h.2 q19
      refine V_aload_n (pc2 := 55) (dk D_X6_give 26 rfl) rfl (V_lg 2 rfl) rfl ?_
      refine V_aload_n (pc2 := 56) (dk D_X6_give 27 rfl) rfl (V_lg 0 rfl) rfl ?_
      obtain ⟨h25, h⟩ := h
      obtain ⟨e20, he21, hc22⟩ := h
      refine V_callV (as := []) (st := [_]) (M' := MX6_spareRow) (ci := 6) (pc2 := 59) (dk D_X6_give 28 rfl) ml_6_279 mv_X6_spareRow rfl rfl (by decide) rfl (Nat.le_of_ble_eq_true rfl) rfl he21 h25 hc22 (RR.k fun p23 S24 h => ?_)
      obtain ⟨h30, h⟩ := h
      obtain ⟨e26, he27, hc28⟩ := h
      refine V_callV (as := [_]) (st := []) (M' := MX10_begin) (ci := 10) (pc2 := 62) (dk D_X6_give 29 rfl) ml_6_283 mv_X10_begin rfl rfl (by decide) rfl (Nat.le_of_ble_eq_true rfl) rfl he27 h30 hc28 (RV.k fun  S29 h => ?_)
      refine V_aload_n (pc2 := 63) (dk D_X6_give 30 rfl) rfl (V_lg 2 rfl) rfl ?_
      refine V_aload (pc2 := 65) (dk D_X6_give 31 rfl) (V_lg 4 rfl) rfl ?_
      obtain ⟨h35, h⟩ := h
      obtain ⟨e31, he32, hc33⟩ := h
      refine V_callV (as := [_]) (st := []) (M' := MX10_enter) (ci := 10) (pc2 := 68) (dk D_X6_give 32 rfl) ml_6_263 mv_X10_enter rfl rfl (by decide) rfl (Nat.le_of_ble_eq_true rfl) rfl he32 h35 hc33 (RV.k fun  S34 h => ?_)
      exact h
  · have h := h.2 q18
    refine V_aload_n (pc2 := 42) (dk D_X6_give 20 rfl) rfl (V_lg 2 rfl) rfl ?_
    refine V_iload_n (pc2 := 43) (dk D_X6_give 21 rfl) rfl (V_lg 3 rfl) rfl ?_
    obtain ⟨e36, he37, hc38⟩ := h
    refine V_callV (as := [_]) (st := []) (M' := MX10_push) (ci := 10) (pc2 := 46) (dk D_X6_give 22 rfl) ml_6_223 mv_X10_push rfl rfl (by decide) rfl (Nat.le_of_ble_eq_true rfl) rfl he37 h17 hc38 (RV.k fun  S39 h => ?_)
    refine V_goto (tgt := 68) (dk D_X6_give 23 rfl) (by decide) ?_
    exact h
theorem w_X6_give_68 {X : Cx} {d : Nat} {S : Mem} {Q : Res → Mem → Prop} (r0 : Nat) (x1 : Int32) (r2 : Nat) (x3 : Int32) (r4 : Nat) (h : (isK S r2 10) ∧ ∀ S2 : Mem, S2 = uI S r2 1 2 → Q (.inl none) S2) : V X d MX6_give 68 [(0, vR r0), (1, vI x1), (2, vR r2), (3, vI x3), (4, vR r4)] [] S Q := by
  refine V_aload_n (pc2 := 69) (dk D_X6_give 33 rfl) rfl (V_lg 2 rfl) rfl ?_
  refine V_iconst (x := 2) (pc2 := 70) (dk D_X6_give 34 rfl) (by decide) rfl ?_
  obtain ⟨h1, h⟩ := h
  refine V_putI kc10 (pc2 := 73) 1 (dk D_X6_give 35 rfl) fl_6_131 (by decide) (Or.inl rfl) rfl rfl h1 ?_
  have h := h _ rfl
  exact V_return (dk D_X6_give 36 rfl) rfl h
def L_X6_spareRow : List (Nat × Instr × Nat) := [(0, .aload_n 0, 1), (1, .getfield 103, 3), (4, .ifCond .le 12, 3), (7, .aload_n 0, 1), (8, .getfield 103, 3), (11, .bipush 12, 2), (13, .if_icmp .le 5, 3), (16, .aconst_null, 1), (17, .areturn, 1), (18, .aload_n 0, 1), (19, .dup, 1), (20, .getfield 103, 3), (23, .iconst 1, 1), (24, .isub, 1), (25, .putfield 103, 3), (28, .aload_n 0, 1), (29, .getfield 36, 3), (32, .aload_n 0, 1), (33, .getfield 103, 3), (36, .aaload, 1), (37, .areturn, 1)]
theorem D_X6_spareRow : dOk cX6_spareRow L_X6_spareRow = true := by decide +kernel
theorem w_X6_spareRow_0 {X : Cx} {d : Nat} {S : Mem} {Q : Res → Mem → Prop} (r0 : Nat) (h : (isK S r0 6) ∧ (((gI S r0 8) ≤ 0 → V X d MX6_spareRow 16 [(0, vR r0)] [] S Q) ∧ (¬ (gI S r0 8) ≤ 0 → (((gI S r0 8) ≤ 12 → ∀ S4 : Mem, S4 = uI S r0 8 ((gI S r0 8) - 1) → (isK S (gR S r0 6) 26) ∧ (vp_in (gI S4 r0 8) (gN S (gR S r0 6))) ∧ Q (.inl (some (vR (gR S (gR S r0 6) ((gI S4 r0 8) : Int32).toNatClampNeg)))) S4) ∧ (¬ (gI S r0 8) ≤ 12 → V X d MX6_spareRow 16 [(0, vR r0)] [] S Q))))) : V X d MX6_spareRow 0 [(0, vR r0)] [] S Q := by
  refine V_aload_n (pc2 := 1) (dk D_X6_spareRow 0 rfl) rfl (V_lg 0 rfl) rfl ?_
  obtain ⟨h1, h⟩ := h
  refine V_getI kc6 (pc2 := 4) 8 (dk D_X6_spareRow 1 rfl) fl_6_103 (by decide) (fun _ => rfl) rfl h1 ?_
  refine V_ifle (tgt := 16) (pc2 := 7) (dk D_X6_spareRow 2 rfl) (by decide) rfl (fun q2 => ?_) (fun q2 => ?_)
  · have h := h.1 q2
    exact h
  · have h := h.2 q2
    refine V_aload_n (pc2 := 8) (dk D_X6_spareRow 3 rfl) rfl (V_lg 0 rfl) rfl ?_
    refine V_getI kc6 (pc2 := 11) 8 (dk D_X6_spareRow 4 rfl) fl_6_103 (by decide) (fun _ => rfl) rfl h1 ?_
    refine V_bipush (x := 12) (pc2 := 13) (dk D_X6_spareRow 5 rfl) (by decide) rfl ?_
    refine V_cmple (tgt := 18) (pc2 := 16) (dk D_X6_spareRow 6 rfl) (by decide) rfl (fun q3 => ?_) (fun q3 => ?_)
    · have h := h.1 q3
      refine V_aload_n (pc2 := 19) (dk D_X6_spareRow 9 rfl) rfl (V_lg 0 rfl) rfl ?_
      refine V_dup (pc2 := 20) (dk D_X6_spareRow 10 rfl) rfl rfl ?_
      refine V_getI kc6 (pc2 := 23) 8 (dk D_X6_spareRow 11 rfl) fl_6_103 (by decide) (fun _ => rfl) rfl h1 ?_
      refine V_iconst (x := 1) (pc2 := 24) (dk D_X6_spareRow 12 rfl) (by decide) rfl ?_
      refine V_isub (pc2 := 25) (dk D_X6_spareRow 13 rfl) rfl ?_
      refine V_putI kc6 (pc2 := 28) 8 (dk D_X6_spareRow 14 rfl) fl_6_103 (by decide) (Or.inl rfl) rfl rfl h1 ?_
      have h := h _ rfl
      refine V_aload_n (pc2 := 29) (dk D_X6_spareRow 15 rfl) rfl (V_lg 0 rfl) rfl ?_
      refine V_getR kc6 (pc2 := 32) 6 (dk D_X6_spareRow 16 rfl) fl_6_36 (by decide) (fun _ => rfl) rfl h1 ?_
      refine V_aload_n (pc2 := 33) (dk D_X6_spareRow 17 rfl) rfl (V_lg 0 rfl) rfl ?_
      refine V_getI kc6 (pc2 := 36) 8 (dk D_X6_spareRow 18 rfl) fl_6_103 (by decide) (fun _ => rfl) rfl h1 ?_
      obtain ⟨h5, h⟩ := h
      obtain ⟨h6, h⟩ := h
      refine V_aald (k := 26) (pc2 := 37) (dk D_X6_spareRow 19 rfl) rfl (by decide) (by decide) h5 h6 ?_
      exact V_areturn (dk D_X6_spareRow 20 rfl) rfl (Or.inr ⟨_, rfl⟩) h
    · have h := h.2 q3
      exact h
theorem w_X6_spareRow_16 {X : Cx} {d : Nat} {S : Mem} {Q : Res → Mem → Prop} (r0 : Nat) (h : Q (.inl (some (vR 0))) S) : V X d MX6_spareRow 16 [(0, vR r0)] [] S Q := by
  refine V_null (pc2 := 17) (dk D_X6_spareRow 7 rfl) rfl ?_
  exact V_areturn (dk D_X6_spareRow 8 rfl) rfl (Or.inr ⟨_, rfl⟩) h
def L_X6_throwInto : List (Nat × Instr × Nat) := [(0, .aload_n 0, 1), (1, .iload_n 3, 1), (2, .putfield 77, 3), (5, .aload_n 1, 1), (6, .getfield 131, 3), (9, .ifCond .ne 18, 3), (12, .aload_n 0, 1), (13, .aload_n 1, 1), (14, .iconst 5, 1), (15, .invokevirtual 113, 3), (18, .iload_n 2, 1), (19, .ifCond .ne 7, 3), (22, .aload_n 0, 1), (23, .invokevirtual 287, 3), (26, .return_, 1), (27, .aload_n 0, 1), (28, .getfield 18, 3), (31, .iload_n 2, 1), (32, .aload_n 1, 1), (33, .getfield 198, 3), (36, .invokevirtual 215, 3), (39, .aload_n 0, 1), (40, .aload_n 1, 1), (41, .getfield 198, 3), (44, .putfield 74, 3), (47, .aload_n 1, 1), (48, .iload_n 2, 1), (49, .putfield 116, 3), (52, .aload_n 1, 1), (53, .iconst 2, 1), (54, .putfield 131, 3), (57, .return_, 1)]
theorem D_X6_throwInto : dOk cX6_throwInto L_X6_throwInto = true := by decide +kernel
theorem w_X6_throwInto_0 {X : Cx} {d : Nat} {S : Mem} {Q : Res → Mem → Prop} (r0 : Nat) (r1 : Nat) (x2 : Int32) (x3 : Int32) (h : (isK S r0 6) ∧ ∀ S2 : Mem, S2 = uI S r0 14 x3 → (isK S r1 10) ∧ ((¬ (gI S2 r1 1) = 0 → (isK S (gR S r0 1) 4) ∧ ∃ e5 : Nat, e5 + 1 ≤ d ∧ C X e5 MX4_add [vR (gR S r0 1), vI x2, vI (gI S2 r1 0)] S2 (RV fun  S8 => (isK S8 r1 10) ∧ (isK S8 r0 6) ∧ ∀ S12 : Mem, S12 = uI S8 r0 13 (gI S8 r1 0) → ∀ S13 : Mem, S13 = uI S12 r1 5 x2 → ∀ S14 : Mem, S14 = uI S13 r1 1 2 → Q (.inl none) S14)) ∧ ((gI S2 r1 1) = 0 → ∃ e15 : Nat, e15 + 1 ≤ d ∧ C X e15 MX6_end [vR r0, vR r1, vI 5] S2 (RV fun  S18 => ((¬ x2 = 0 → V X d MX6_throwInto 26 [(0, vR r0), (1, vR r1), (2, vI x2), (3, vI x3)] [] S18 Q) ∧ (x2 = 0 → (isK S18 r0 6) ∧ ∃ e20 : Nat, e20 + 1 ≤ d ∧ C X e20 MX6_comeOut [vR r0] S18 (RV fun  S23 => V X d MX6_throwInto 26 [(0, vR r0), (1, vR r1), (2, vI x2), (3, vI x3)] [] S23 Q))))))) : V X d MX6_throwInto 0 [(0, vR r0), (1, vR r1), (2, vI x2), (3, vI x3)] [] S Q := by
  refine V_aload_n (pc2 := 1) (dk D_X6_throwInto 0 rfl) rfl (V_lg 0 rfl) rfl ?_
  refine V_iload_n (pc2 := 2) (dk D_X6_throwInto 1 rfl) rfl (V_lg 3 rfl) rfl ?_
  obtain ⟨h1, h⟩ := h
  refine V_putI kc6 (pc2 := 5) 14 (dk D_X6_throwInto 2 rfl) fl_6_77 (by decide) (Or.inl rfl) rfl rfl h1 ?_
  have h := h _ rfl
  refine V_aload_n (pc2 := 6) (dk D_X6_throwInto 3 rfl) rfl (V_lg 1 rfl) rfl ?_
  obtain ⟨h3, h⟩ := h
  refine V_getI kc10 (pc2 := 9) 1 (dk D_X6_throwInto 4 rfl) fl_6_131 (by decide) (fun _ => rfl) rfl h3 ?_
  refine V_ifne (tgt := 27) (pc2 := 12) (dk D_X6_throwInto 5 rfl) (by decide) rfl (fun q4 => ?_) (fun q4 => ?_)
  · have h := h.1 q4
    refine V_aload_n (pc2 := 28) (dk D_X6_throwInto 15 rfl) rfl (V_lg 0 rfl) rfl ?_
    refine V_getR kc6 (pc2 := 31) 1 (dk D_X6_throwInto 16 rfl) fl_6_18 (by decide) (fun _ => rfl) rfl h1 ?_
    refine V_iload_n (pc2 := 32) (dk D_X6_throwInto 17 rfl) rfl (V_lg 2 rfl) rfl ?_
    refine V_aload_n (pc2 := 33) (dk D_X6_throwInto 18 rfl) rfl (V_lg 1 rfl) rfl ?_
    refine V_getI kc10 (pc2 := 36) 0 (dk D_X6_throwInto 19 rfl) fl_6_198 (by decide) (fun _ => rfl) rfl h3 ?_
    obtain ⟨h9, h⟩ := h
    obtain ⟨e5, he6, hc7⟩ := h
    refine V_callV (as := [_, _]) (st := []) (M' := MX4_add) (ci := 4) (pc2 := 39) (dk D_X6_throwInto 20 rfl) ml_6_215 mv_X4_add rfl rfl (by decide) rfl (Nat.le_of_ble_eq_true rfl) rfl he6 h9 hc7 (RV.k fun  S8 h => ?_)
    refine V_aload_n (pc2 := 40) (dk D_X6_throwInto 21 rfl) rfl (V_lg 0 rfl) rfl ?_
    refine V_aload_n (pc2 := 41) (dk D_X6_throwInto 22 rfl) rfl (V_lg 1 rfl) rfl ?_
    obtain ⟨h10, h⟩ := h
    refine V_getI kc10 (pc2 := 44) 0 (dk D_X6_throwInto 23 rfl) fl_6_198 (by decide) (fun _ => rfl) rfl h10 ?_
    obtain ⟨h11, h⟩ := h
    refine V_putI kc6 (pc2 := 47) 13 (dk D_X6_throwInto 24 rfl) fl_6_74 (by decide) (Or.inl rfl) rfl rfl h11 ?_
    have h := h _ rfl
    refine V_aload_n (pc2 := 48) (dk D_X6_throwInto 25 rfl) rfl (V_lg 1 rfl) rfl ?_
    refine V_iload_n (pc2 := 49) (dk D_X6_throwInto 26 rfl) rfl (V_lg 2 rfl) rfl ?_
    refine V_putI kc10 (pc2 := 52) 5 (dk D_X6_throwInto 27 rfl) fl_6_116 (by decide) (Or.inl rfl) rfl rfl h10 ?_
    have h := h _ rfl
    refine V_aload_n (pc2 := 53) (dk D_X6_throwInto 28 rfl) rfl (V_lg 1 rfl) rfl ?_
    refine V_iconst (x := 2) (pc2 := 54) (dk D_X6_throwInto 29 rfl) (by decide) rfl ?_
    refine V_putI kc10 (pc2 := 57) 1 (dk D_X6_throwInto 30 rfl) fl_6_131 (by decide) (Or.inl rfl) rfl rfl h10 ?_
    have h := h _ rfl
    exact V_return (dk D_X6_throwInto 31 rfl) rfl h
  · have h := h.2 q4
    refine V_aload_n (pc2 := 13) (dk D_X6_throwInto 6 rfl) rfl (V_lg 0 rfl) rfl ?_
    refine V_aload_n (pc2 := 14) (dk D_X6_throwInto 7 rfl) rfl (V_lg 1 rfl) rfl ?_
    refine V_iconst (x := 5) (pc2 := 15) (dk D_X6_throwInto 8 rfl) (by decide) rfl ?_
    obtain ⟨e15, he16, hc17⟩ := h
    refine V_callV (as := [_, _]) (st := []) (M' := MX6_end) (ci := 6) (pc2 := 18) (dk D_X6_throwInto 9 rfl) ml_6_113 mv_X6_end rfl rfl (by decide) rfl (Nat.le_of_ble_eq_true rfl) rfl he16 h1 hc17 (RV.k fun  S18 h => ?_)
    refine V_iload_n (pc2 := 19) (dk D_X6_throwInto 10 rfl) rfl (V_lg 2 rfl) rfl ?_
    refine V_ifne (tgt := 26) (pc2 := 22) (dk D_X6_throwInto 11 rfl) (by decide) rfl (fun q19 => ?_) (fun q19 => ?_)
    · have h := h.1 q19
      exact h
    · have h := h.2 q19
      refine V_aload_n (pc2 := 23) (dk D_X6_throwInto 12 rfl) rfl (V_lg 0 rfl) rfl ?_
      obtain ⟨h24, h⟩ := h
      obtain ⟨e20, he21, hc22⟩ := h
      refine V_callV (as := []) (st := []) (M' := MX6_comeOut) (ci := 6) (pc2 := 26) (dk D_X6_throwInto 13 rfl) ml_6_287 mv_X6_comeOut rfl rfl (by decide) rfl (Nat.le_of_ble_eq_true rfl) rfl he21 h24 hc22 (RV.k fun  S23 h => ?_)
      exact h
theorem w_X6_throwInto_26 {X : Cx} {d : Nat} {S : Mem} {Q : Res → Mem → Prop} (r0 : Nat) (r1 : Nat) (x2 : Int32) (x3 : Int32) (h : Q (.inl none) S) : V X d MX6_throwInto 26 [(0, vR r0), (1, vR r1), (2, vI x2), (3, vI x3)] [] S Q := by
  exact V_return (dk D_X6_throwInto 14 rfl) rfl h
def L_X6_goBack : List (Nat × Instr × Nat) := [(0, .aload_n 0, 1), (1, .getfield 18, 3), (4, .aload_n 1, 1), (5, .getfield 198, 3), (8, .aload_n 1, 1), (9, .getfield 116, 3), (12, .invokevirtual 215, 3), (15, .aload_n 0, 1), (16, .aload_n 1, 1), (17, .getfield 116, 3), (20, .putfield 74, 3), (23, .aload_n 0, 1), (24, .aload_n 0, 1), (25, .getfield 74, 3), (28, .invokevirtual 106, 3), (31, .astore 4, 2), (33, .aload 4, 2), (35, .ifnonnull 33, 3), (38, .aload_n 0, 1), (39, .iconst 0, 1), (40, .putfield 74, 3), (43, .aload_n 0, 1), (44, .iload_n 3, 1), (45, .putfield 80, 3), (48, .aload_n 0, 1), (49, .aload_n 1, 1), (50, .getfield 134, 3), (53, .ifCond .eq 10, 3), (56, .aload_n 0, 1), (57, .getfield 83, 3), (60, .goto 4, 3), (63, .iload_n 2, 1), (64, .putfield 83, 3), (67, .return_, 1), (68, .aload 4, 2), (70, .iconst 2, 1), (71, .putfield 131, 3), (74, .aload_n 0, 1), (75, .getfield 53, 3), (78, .aload 4, 2), (80, .getfield 175, 3), (83, .iconst 1, 1), (84, .isub, 1), (85, .invokevirtual 178, 3), (88, .istore 5, 2), (90, .iload 5, 2), (92, .bipush 30, 2), (94, .if_icmp .ne 36, 3), (97, .iload_n 3, 1), (98, .iconst 1, 1), (99, .if_icmp .ne 31, 3), (102, .aload 4, 2), (104, .invokevirtual 212, 3), (107, .pop, 1), (108, .aload 4, 2), (110, .aload_n 0, 1), (111, .getfield 53, 3), (114, .aload 4, 2), (116, .getfield 175, 3), (119, .iconst 1, 1), (120, .isub, 1), (121, .invokevirtual 183, 3), (124, .putfield 175, 3), (127, .goto 16, 3), (130, .iload 5, 2), (132, .bipush 29, 2), (134, .if_icmp .eq 9, 3), (137, .aload 4, 2), (139, .iload_n 2, 1), (140, .invokevirtual 223, 3), (143, .return_, 1)]
theorem D_X6_goBack : dOk cX6_goBack L_X6_goBack = true := by decide +kernel
theorem w_X6_goBack_0 {X : Cx} {d : Nat} {S : Mem} {Q : Res → Mem → Prop} (r0 : Nat) (r1 : Nat) (x2 : Int32) (x3 : Int32) (h : (isK S r0 6) ∧ (isK S r1 10) ∧ (isK S (gR S r0 1) 4) ∧ ∃ e3 : Nat, e3 + 1 ≤ d ∧ C X e3 MX4_add [vR (gR S r0 1), vI (gI S r1 0), vI (gI S r1 5)] S (RV fun  S6 => (isK S6 r1 10) ∧ (isK S6 r0 6) ∧ ∀ S10 : Mem, S10 = uI S6 r0 13 (gI S6 r1 5) → ∃ e11 : Nat, e11 + 1 ≤ d ∧ C X e11 MX6_find [vR r0, vI (gI S10 r0 13)] S10 (RR fun p14 S15 => ((¬ p14 = 0 → (isK S15 p14 10) ∧ ∀ S18 : Mem, S18 = uI S15 p14 1 2 → (isK S15 r0 6) ∧ (isK S15 (gR S15 r0 4) 1) ∧ ∃ e20 : Nat, e20 + 1 ≤ d ∧ C X e20 MX1_act [vR (gR S15 r0 4), vI ((gI S18 p14 9) - 1)] S18 (RI fun y23 S24 => ((¬ y23 = 30 → V X d MX6_goBack 130 [(0, vR r0), (1, vR r1), (2, vI x2), (3, vI x3), (4, vR p14), (5, vI y23)] [] S24 Q) ∧ (y23 = 30 → ((¬ x3 = 1 → V X d MX6_goBack 130 [(0, vR r0), (1, vR r1), (2, vI x2), (3, vI x3), (4, vR p14), (5, vI y23)] [] S24 Q) ∧ (x3 = 1 → (isK S24 p14 10) ∧ ∃ e28 : Nat, e28 + 1 ≤ d ∧ C X e28 MX10_pop [vR p14] S24 (RI fun y31 S32 => (isK S32 r0 6) ∧ (isK S32 p14 10) ∧ (isK S32 (gR S32 r0 4) 1) ∧ ∃ e36 : Nat, e36 + 1 ≤ d ∧ C X e36 MX1_argument [vR (gR S32 r0 4), vI ((gI S32 p14 9) - 1)] S32 (RI fun y39 S40 => (isK S40 p14 10) ∧ ∀ S43 : Mem, S43 = uI S40 p14 9 y39 → V X d MX6_goBack 143 [(0, vR r0), (1, vR r1), (2, vI x2), (3, vI x3), (4, vR p14), (5, vI y23)] [] S43 Q)))))))) ∧ (p14 = 0 → (isK S15 r0 6) ∧ ∀ S45 : Mem, S45 = uI S15 r0 13 0 → ∀ S46 : Mem, S46 = uI S45 r0 15 x3 → (isK S15 r1 10) ∧ (((gI S46 r1 11) = 0 → V X d MX6_goBack 64 [(0, vR r0), (1, vR r1), (2, vI x2), (3, vI x3), (4, vR p14)] [vI x2, vR r0] S46 Q) ∧ (¬ (gI S46 r1 11) = 0 → V X d MX6_goBack 64 [(0, vR r0), (1, vR r1), (2, vI x2), (3, vI x3), (4, vR p14)] [vI (gI S46 r0 16), vR r0] S46 Q))))))) : V X d MX6_goBack 0 [(0, vR r0), (1, vR r1), (2, vI x2), (3, vI x3)] [] S Q := by
  refine V_aload_n (pc2 := 1) (dk D_X6_goBack 0 rfl) rfl (V_lg 0 rfl) rfl ?_
  obtain ⟨h1, h⟩ := h
  refine V_getR kc6 (pc2 := 4) 1 (dk D_X6_goBack 1 rfl) fl_6_18 (by decide) (fun _ => rfl) rfl h1 ?_
  refine V_aload_n (pc2 := 5) (dk D_X6_goBack 2 rfl) rfl (V_lg 1 rfl) rfl ?_
  obtain ⟨h2, h⟩ := h
  refine V_getI kc10 (pc2 := 8) 0 (dk D_X6_goBack 3 rfl) fl_6_198 (by decide) (fun _ => rfl) rfl h2 ?_
  refine V_aload_n (pc2 := 9) (dk D_X6_goBack 4 rfl) rfl (V_lg 1 rfl) rfl ?_
  refine V_getI kc10 (pc2 := 12) 5 (dk D_X6_goBack 5 rfl) fl_6_116 (by decide) (fun _ => rfl) rfl h2 ?_
  obtain ⟨h7, h⟩ := h
  obtain ⟨e3, he4, hc5⟩ := h
  refine V_callV (as := [_, _]) (st := []) (M' := MX4_add) (ci := 4) (pc2 := 15) (dk D_X6_goBack 6 rfl) ml_6_215 mv_X4_add rfl rfl (by decide) rfl (Nat.le_of_ble_eq_true rfl) rfl he4 h7 hc5 (RV.k fun  S6 h => ?_)
  refine V_aload_n (pc2 := 16) (dk D_X6_goBack 7 rfl) rfl (V_lg 0 rfl) rfl ?_
  refine V_aload_n (pc2 := 17) (dk D_X6_goBack 8 rfl) rfl (V_lg 1 rfl) rfl ?_
  obtain ⟨h8, h⟩ := h
  refine V_getI kc10 (pc2 := 20) 5 (dk D_X6_goBack 9 rfl) fl_6_116 (by decide) (fun _ => rfl) rfl h8 ?_
  obtain ⟨h9, h⟩ := h
  refine V_putI kc6 (pc2 := 23) 13 (dk D_X6_goBack 10 rfl) fl_6_74 (by decide) (Or.inl rfl) rfl rfl h9 ?_
  have h := h _ rfl
  refine V_aload_n (pc2 := 24) (dk D_X6_goBack 11 rfl) rfl (V_lg 0 rfl) rfl ?_
  refine V_aload_n (pc2 := 25) (dk D_X6_goBack 12 rfl) rfl (V_lg 0 rfl) rfl ?_
  refine V_getI kc6 (pc2 := 28) 13 (dk D_X6_goBack 13 rfl) fl_6_74 (by decide) (fun _ => rfl) rfl h9 ?_
  obtain ⟨e11, he12, hc13⟩ := h
  refine V_callV (as := [_]) (st := []) (M' := MX6_find) (ci := 6) (pc2 := 31) (dk D_X6_goBack 14 rfl) ml_6_106 mv_X6_find rfl rfl (by decide) rfl (Nat.le_of_ble_eq_true rfl) rfl he12 h9 hc13 (RR.k fun p14 S15 h => ?_)
  refine V_astore (pc2 := 33) (lv2 := [(0, _), (1, _), (2, _), (3, _), (4, _)]) (dk D_X6_goBack 15 rfl) (by decide) rfl rfl ?_
  refine V_aload (pc2 := 35) (dk D_X6_goBack 16 rfl) (V_lg 4 rfl) rfl ?_
  refine V_ifnonnull (tgt := 68) (pc2 := 38) (dk D_X6_goBack 17 rfl) (by decide) rfl (fun q16 => ?_) (fun q16 => ?_)
  · have h := h.1 q16
    refine V_aload (pc2 := 70) (dk D_X6_goBack 34 rfl) (V_lg 4 rfl) rfl ?_
    refine V_iconst (x := 2) (pc2 := 71) (dk D_X6_goBack 35 rfl) (by decide) rfl ?_
    obtain ⟨h17, h⟩ := h
    refine V_putI kc10 (pc2 := 74) 1 (dk D_X6_goBack 36 rfl) fl_6_131 (by decide) (Or.inl rfl) rfl rfl h17 ?_
    have h := h _ rfl
    refine V_aload_n (pc2 := 75) (dk D_X6_goBack 37 rfl) rfl (V_lg 0 rfl) rfl ?_
    obtain ⟨h19, h⟩ := h
    refine V_getR kc6 (pc2 := 78) 4 (dk D_X6_goBack 38 rfl) fl_6_53 (by decide) (fun _ => rfl) rfl h19 ?_
    refine V_aload (pc2 := 80) (dk D_X6_goBack 39 rfl) (V_lg 4 rfl) rfl ?_
    refine V_getI kc10 (pc2 := 83) 9 (dk D_X6_goBack 40 rfl) fl_6_175 (by decide) (fun _ => rfl) rfl h17 ?_
    refine V_iconst (x := 1) (pc2 := 84) (dk D_X6_goBack 41 rfl) (by decide) rfl ?_
    refine V_isub (pc2 := 85) (dk D_X6_goBack 42 rfl) rfl ?_
    obtain ⟨h25, h⟩ := h
    obtain ⟨e20, he21, hc22⟩ := h
    refine V_callV (as := [_]) (st := []) (M' := MX1_act) (ci := 1) (pc2 := 88) (dk D_X6_goBack 43 rfl) ml_6_178 mv_X1_act rfl rfl (by decide) rfl (Nat.le_of_ble_eq_true rfl) rfl he21 h25 hc22 (RI.k fun y23 S24 h => ?_)
    refine V_istore (pc2 := 90) (lv2 := [(0, _), (1, _), (2, _), (3, _), (4, _), (5, _)]) (dk D_X6_goBack 44 rfl) (by decide) rfl rfl ?_
    refine V_iload (pc2 := 92) (dk D_X6_goBack 45 rfl) (V_lg 5 rfl) rfl ?_
    refine V_bipush (x := 30) (pc2 := 94) (dk D_X6_goBack 46 rfl) (by decide) rfl ?_
    refine V_cmpne (tgt := 130) (pc2 := 97) (dk D_X6_goBack 47 rfl) (by decide) rfl (fun q26 => ?_) (fun q26 => ?_)
    · have h := h.1 q26
      exact h
    · have h := h.2 q26
      refine V_iload_n (pc2 := 98) (dk D_X6_goBack 48 rfl) rfl (V_lg 3 rfl) rfl ?_
      refine V_iconst (x := 1) (pc2 := 99) (dk D_X6_goBack 49 rfl) (by decide) rfl ?_
      refine V_cmpne (tgt := 130) (pc2 := 102) (dk D_X6_goBack 50 rfl) (by decide) rfl (fun q27 => ?_) (fun q27 => ?_)
      · have h := h.1 q27
        exact h
      · have h := h.2 q27
        refine V_aload (pc2 := 104) (dk D_X6_goBack 51 rfl) (V_lg 4 rfl) rfl ?_
        obtain ⟨h33, h⟩ := h
        obtain ⟨e28, he29, hc30⟩ := h
        refine V_callV (as := []) (st := []) (M' := MX10_pop) (ci := 10) (pc2 := 107) (dk D_X6_goBack 52 rfl) ml_6_212 mv_X10_pop rfl rfl (by decide) rfl (Nat.le_of_ble_eq_true rfl) rfl he29 h33 hc30 (RI.k fun y31 S32 h => ?_)
        refine V_pop (pc2 := 108) (dk D_X6_goBack 53 rfl) rfl rfl ?_
        refine V_aload (pc2 := 110) (dk D_X6_goBack 54 rfl) (V_lg 4 rfl) rfl ?_
        refine V_aload_n (pc2 := 111) (dk D_X6_goBack 55 rfl) rfl (V_lg 0 rfl) rfl ?_
        obtain ⟨h34, h⟩ := h
        refine V_getR kc6 (pc2 := 114) 4 (dk D_X6_goBack 56 rfl) fl_6_53 (by decide) (fun _ => rfl) rfl h34 ?_
        refine V_aload (pc2 := 116) (dk D_X6_goBack 57 rfl) (V_lg 4 rfl) rfl ?_
        obtain ⟨h35, h⟩ := h
        refine V_getI kc10 (pc2 := 119) 9 (dk D_X6_goBack 58 rfl) fl_6_175 (by decide) (fun _ => rfl) rfl h35 ?_
        refine V_iconst (x := 1) (pc2 := 120) (dk D_X6_goBack 59 rfl) (by decide) rfl ?_
        refine V_isub (pc2 := 121) (dk D_X6_goBack 60 rfl) rfl ?_
        obtain ⟨h41, h⟩ := h
        obtain ⟨e36, he37, hc38⟩ := h
        refine V_callV (as := [_]) (st := [_]) (M' := MX1_argument) (ci := 1) (pc2 := 124) (dk D_X6_goBack 61 rfl) ml_6_183 mv_X1_argument rfl rfl (by decide) rfl (Nat.le_of_ble_eq_true rfl) rfl he37 h41 hc38 (RI.k fun y39 S40 h => ?_)
        obtain ⟨h42, h⟩ := h
        refine V_putI kc10 (pc2 := 127) 9 (dk D_X6_goBack 62 rfl) fl_6_175 (by decide) (Or.inl rfl) rfl rfl h42 ?_
        have h := h _ rfl
        refine V_goto (tgt := 143) (dk D_X6_goBack 63 rfl) (by decide) ?_
        exact h
  · have h := h.2 q16
    refine V_aload_n (pc2 := 39) (dk D_X6_goBack 18 rfl) rfl (V_lg 0 rfl) rfl ?_
    refine V_iconst (x := 0) (pc2 := 40) (dk D_X6_goBack 19 rfl) (by decide) rfl ?_
    obtain ⟨h44, h⟩ := h
    refine V_putI kc6 (pc2 := 43) 13 (dk D_X6_goBack 20 rfl) fl_6_74 (by decide) (Or.inl rfl) rfl rfl h44 ?_
    have h := h _ rfl
    refine V_aload_n (pc2 := 44) (dk D_X6_goBack 21 rfl) rfl (V_lg 0 rfl) rfl ?_
    refine V_iload_n (pc2 := 45) (dk D_X6_goBack 22 rfl) rfl (V_lg 3 rfl) rfl ?_
    refine V_putI kc6 (pc2 := 48) 15 (dk D_X6_goBack 23 rfl) fl_6_80 (by decide) (Or.inl rfl) rfl rfl h44 ?_
    have h := h _ rfl
    refine V_aload_n (pc2 := 49) (dk D_X6_goBack 24 rfl) rfl (V_lg 0 rfl) rfl ?_
    refine V_aload_n (pc2 := 50) (dk D_X6_goBack 25 rfl) rfl (V_lg 1 rfl) rfl ?_
    obtain ⟨h47, h⟩ := h
    refine V_getI kc10 (pc2 := 53) 11 (dk D_X6_goBack 26 rfl) fl_6_134 (by decide) (fun _ => rfl) rfl h47 ?_
    refine V_ifeq (tgt := 63) (pc2 := 56) (dk D_X6_goBack 27 rfl) (by decide) rfl (fun q48 => ?_) (fun q48 => ?_)
    · have h := h.1 q48
      refine V_iload_n (pc2 := 64) (dk D_X6_goBack 31 rfl) rfl (V_lg 2 rfl) rfl ?_
      exact h
    · have h := h.2 q48
      refine V_aload_n (pc2 := 57) (dk D_X6_goBack 28 rfl) rfl (V_lg 0 rfl) rfl ?_
      refine V_getI kc6 (pc2 := 60) 16 (dk D_X6_goBack 29 rfl) fl_6_83 (by decide) (fun _ => rfl) rfl h44 ?_
      refine V_goto (tgt := 64) (dk D_X6_goBack 30 rfl) (by decide) ?_
      exact h
theorem w_X6_goBack_64 {X : Cx} {d : Nat} {S : Mem} {Q : Res → Mem → Prop} (r0 : Nat) (r1 : Nat) (x2 : Int32) (x3 : Int32) (r4 : Nat) (t0 : Nat) (t1 : Int32) (h : (isK S t0 6) ∧ ∀ S2 : Mem, S2 = uI S t0 16 t1 → Q (.inl none) S2) : V X d MX6_goBack 64 [(0, vR r0), (1, vR r1), (2, vI x2), (3, vI x3), (4, vR r4)] [vI t1, vR t0] S Q := by
  obtain ⟨h1, h⟩ := h
  refine V_putI kc6 (pc2 := 67) 16 (dk D_X6_goBack 32 rfl) fl_6_83 (by decide) (Or.inl rfl) rfl rfl h1 ?_
  have h := h _ rfl
  exact V_return (dk D_X6_goBack 33 rfl) rfl h
theorem w_X6_goBack_130 {X : Cx} {d : Nat} {S : Mem} {Q : Res → Mem → Prop} (r0 : Nat) (r1 : Nat) (x2 : Int32) (x3 : Int32) (r4 : Nat) (x5 : Int32) (h : ((x5 = 29 → V X d MX6_goBack 143 [(0, vR r0), (1, vR r1), (2, vI x2), (3, vI x3), (4, vR r4), (5, vI x5)] [] S Q) ∧ (¬ x5 = 29 → (isK S r4 10) ∧ ∃ e2 : Nat, e2 + 1 ≤ d ∧ C X e2 MX10_push [vR r4, vI x2] S (RV fun  S5 => V X d MX6_goBack 143 [(0, vR r0), (1, vR r1), (2, vI x2), (3, vI x3), (4, vR r4), (5, vI x5)] [] S5 Q)))) : V X d MX6_goBack 130 [(0, vR r0), (1, vR r1), (2, vI x2), (3, vI x3), (4, vR r4), (5, vI x5)] [] S Q := by
  refine V_iload (pc2 := 132) (dk D_X6_goBack 64 rfl) (V_lg 5 rfl) rfl ?_
  refine V_bipush (x := 29) (pc2 := 134) (dk D_X6_goBack 65 rfl) (by decide) rfl ?_
  refine V_cmpeq (tgt := 143) (pc2 := 137) (dk D_X6_goBack 66 rfl) (by decide) rfl (fun q1 => ?_) (fun q1 => ?_)
  · have h := h.1 q1
    exact h
  · have h := h.2 q1
    refine V_aload (pc2 := 139) (dk D_X6_goBack 67 rfl) (V_lg 4 rfl) rfl ?_
    refine V_iload_n (pc2 := 140) (dk D_X6_goBack 68 rfl) rfl (V_lg 2 rfl) rfl ?_
    obtain ⟨h6, h⟩ := h
    obtain ⟨e2, he3, hc4⟩ := h
    refine V_callV (as := [_]) (st := []) (M' := MX10_push) (ci := 10) (pc2 := 143) (dk D_X6_goBack 69 rfl) ml_6_223 mv_X10_push rfl rfl (by decide) rfl (Nat.le_of_ble_eq_true rfl) rfl he3 h6 hc4 (RV.k fun  S5 h => ?_)
    exact h
theorem w_X6_goBack_143 {X : Cx} {d : Nat} {S : Mem} {Q : Res → Mem → Prop} (r0 : Nat) (r1 : Nat) (x2 : Int32) (x3 : Int32) (r4 : Nat) (x5 : Int32) (h : Q (.inl none) S) : V X d MX6_goBack 143 [(0, vR r0), (1, vR r1), (2, vI x2), (3, vI x3), (4, vR r4), (5, vI x5)] [] S Q := by
  exact V_return (dk D_X6_goBack 70 rfl) rfl h
def L_X6_passGuards : List (Nat × Instr × Nat) := [(0, .iload_n 2, 1), (1, .tableswitch 101 40 46 #[43, 101, 101, 51, 74, 81, 89], 43), (44, .aload_n 1, 1), (45, .iload_n 3, 1), (46, .invokevirtual 290, 3), (49, .goto 81, 3), (52, .aload_n 1, 1), (53, .dup, 1), (54, .getfield 293, 3), (57, .iconst 1, 1), (58, .iadd, 1), (59, .putfield 293, 3), (62, .aload_n 1, 1), (63, .iconst 2, 1), (64, .iconst 0, 1), (65, .aload_n 1, 1), (66, .getfield 175, 3), (69, .invokevirtual 296, 3), (72, .goto 58, 3), (75, .aload_n 1, 1), (76, .invokevirtual 300, 3), (79, .goto 51, 3), (82, .aload_n 0, 1), (83, .aload_n 1, 1), (84, .invokevirtual 303, 3), (87, .goto 43, 3), (90, .aload_n 0, 1), (91, .aload_n 1, 1), (92, .aload_n 1, 1), (93, .invokevirtual 212, 3), (96, .invokevirtual 306, 3), (99, .goto 31, 3), (102, .aload_n 0, 1), (103, .aload_n 0, 1), (104, .getfield 24, 3), (107, .iload_n 3, 1), (108, .aload_n 1, 1), (109, .invokevirtual 212, 3), (112, .aload_n 1, 1), (113, .getfield 198, 3), (116, .aload_n 1, 1), (117, .invokevirtual 201, 3), (120, .aload_n 1, 1), (121, .invokevirtual 309, 3), (124, .invokevirtual 123, 3), (127, .putfield 77, 3), (130, .return_, 1)]
theorem D_X6_passGuards : dOk cX6_passGuards L_X6_passGuards = true := by decide +kernel
theorem w_X6_passGuards_0 {X : Cx} {d : Nat} {S : Mem} {Q : Res → Mem → Prop} (r0 : Nat) (r1 : Nat) (x2 : Int32) (x3 : Int32) (h : ((x2 = 40 → (isK S r1 10) ∧ ∃ e57 : Nat, e57 + 1 ≤ d ∧ C X e57 MX10_openGuard [vR r1, vI x3] S (RV fun  S60 => V X d MX6_passGuards 130 [(0, vR r0), (1, vR r1), (2, vI x2), (3, vI x3)] [] S60 Q)) ∧ (x2 = 43 → (isK S r1 10) ∧ ∀ S63 : Mem, S63 = uI S r1 7 ((gI S r1 7) + 1) → ∃ e64 : Nat, e64 + 1 ≤ d ∧ C X e64 MX10_turnGuard [vR r1, vI 2, vI 0, vI (gI S63 r1 9)] S63 (RV fun  S67 => V X d MX6_passGuards 130 [(0, vR r0), (1, vR r1), (2, vI x2), (3, vI x3)] [] S67 Q)) ∧ (x2 = 44 → (isK S r1 10) ∧ ∃ e68 : Nat, e68 + 1 ≤ d ∧ C X e68 MX10_closeGuard [vR r1] S (RV fun  S71 => V X d MX6_passGuards 130 [(0, vR r0), (1, vR r1), (2, vI x2), (3, vI x3)] [] S71 Q)) ∧ (x2 = 45 → (isK S r0 6) ∧ ∃ e73 : Nat, e73 + 1 ≤ d ∧ C X e73 MX6_endFinally [vR r0, vR r1] S (RV fun  S76 => V X d MX6_passGuards 130 [(0, vR r0), (1, vR r1), (2, vI x2), (3, vI x3)] [] S76 Q)) ∧ (x2 = 46 → (isK S r1 10) ∧ ∃ e78 : Nat, e78 + 1 ≤ d ∧ C X e78 MX10_pop [vR r1] S (RI fun y81 S82 => (isK S82 r0 6) ∧ ∃ e84 : Nat, e84 + 1 ≤ d ∧ C X e84 MX6_giveBack [vR r0, vR r1, vI y81] S82 (RV fun  S87 => V X d MX6_passGuards 130 [(0, vR r0), (1, vR r1), (2, vI x2), (3, vI x3)] [] S87 Q))) ∧ (¬ (x2 = 40 ∨ x2 = 43 ∨ x2 = 44 ∨ x2 = 45 ∨ x2 = 46) → (isK S r0 6) ∧ (isK S r1 10) ∧ ∃ e4 : Nat, e4 + 1 ≤ d ∧ C X e4 MX10_pop [vR r1] S (RI fun y7 S8 => (isK S8 r1 10) ∧ ∃ e11 : Nat, e11 + 1 ≤ d ∧ C X e11 MX10_place [vR r1] S8 (RI fun y14 S15 => (isK S15 r1 10) ∧ ∃ e16 : Nat, e16 + 1 ≤ d ∧ C X e16 MX10_caught [vR r1] S15 (RI fun y19 S20 => (isK S20 (gR S r0 2) 2) ∧ ∃ e22 : Nat, e22 + 1 ≤ d ∧ C X e22 MX2_make [vR (gR S r0 2), vI x3, vI y7, vI (gI S8 r1 0), vI y14, vI y19] S20 (RI fun y25 S26 => (isK S26 r0 6) ∧ ∀ S29 : Mem, S29 = uI S26 r0 14 y25 → V X d MX6_passGuards 130 [(0, vR r0), (1, vR r1), (2, vI x2), (3, vI x3)] [] S29 Q))))))) : V X d MX6_passGuards 0 [(0, vR r0), (1, vR r1), (2, vI x2), (3, vI x3)] [] S Q := by
  refine V_iload_n (pc2 := 1) (dk D_X6_passGuards 0 rfl) rfl (V_lg 2 rfl) rfl ?_
  refine V_table (dk D_X6_passGuards 1 rfl) [44, 102, 102, 52, 75, 82, 90] 102 (by decide) rfl (by decide) (fun q1 => ?_) (fun j2 hj q1 => ?_)
  · have h := h.2.2.2.2.2 (by rintro (hk | hk | hk | hk | hk) <;> (rw [hk] at q1; revert q1; decide))
    refine V_aload_n (pc2 := 103) (dk D_X6_passGuards 32 rfl) rfl (V_lg 0 rfl) rfl ?_
    refine V_aload_n (pc2 := 104) (dk D_X6_passGuards 33 rfl) rfl (V_lg 0 rfl) rfl ?_
    obtain ⟨h30, h⟩ := h
    refine V_getR kc6 (pc2 := 107) 2 (dk D_X6_passGuards 34 rfl) fl_6_24 (by decide) (fun _ => rfl) rfl h30 ?_
    refine V_iload_n (pc2 := 108) (dk D_X6_passGuards 35 rfl) rfl (V_lg 3 rfl) rfl ?_
    refine V_aload_n (pc2 := 109) (dk D_X6_passGuards 36 rfl) rfl (V_lg 1 rfl) rfl ?_
    obtain ⟨h36, h⟩ := h
    obtain ⟨e31, he32, hc33⟩ := h
    refine V_callV (as := []) (st := [_, _, _]) (M' := MX10_pop) (ci := 10) (pc2 := 112) (dk D_X6_passGuards 37 rfl) ml_6_212 mv_X10_pop rfl rfl (by decide) rfl (Nat.le_of_ble_eq_true rfl) rfl he32 h36 hc33 (RI.k fun y34 S35 h => ?_)
    refine V_aload_n (pc2 := 113) (dk D_X6_passGuards 38 rfl) rfl (V_lg 1 rfl) rfl ?_
    obtain ⟨h37, h⟩ := h
    refine V_getI kc10 (pc2 := 116) 0 (dk D_X6_passGuards 39 rfl) fl_6_198 (by decide) (fun _ => rfl) rfl h37 ?_
    refine V_aload_n (pc2 := 117) (dk D_X6_passGuards 40 rfl) rfl (V_lg 1 rfl) rfl ?_
    obtain ⟨e38, he39, hc40⟩ := h
    refine V_callV (as := []) (st := [_, _, _, _, _]) (M' := MX10_place) (ci := 10) (pc2 := 120) (dk D_X6_passGuards 41 rfl) ml_6_201 mv_X10_place rfl rfl (by decide) rfl (Nat.le_of_ble_eq_true rfl) rfl he39 h37 hc40 (RI.k fun y41 S42 h => ?_)
    refine V_aload_n (pc2 := 121) (dk D_X6_passGuards 42 rfl) rfl (V_lg 1 rfl) rfl ?_
    obtain ⟨h48, h⟩ := h
    obtain ⟨e43, he44, hc45⟩ := h
    refine V_callV (as := []) (st := [_, _, _, _, _, _]) (M' := MX10_caught) (ci := 10) (pc2 := 124) (dk D_X6_passGuards 43 rfl) ml_6_309 mv_X10_caught rfl rfl (by decide) rfl (Nat.le_of_ble_eq_true rfl) rfl he44 h48 hc45 (RI.k fun y46 S47 h => ?_)
    obtain ⟨h54, h⟩ := h
    obtain ⟨e49, he50, hc51⟩ := h
    refine V_callV (as := [_, _, _, _, _]) (st := [_]) (M' := MX2_make) (ci := 2) (pc2 := 127) (dk D_X6_passGuards 44 rfl) ml_6_123 mv_X2_make rfl rfl (by decide) rfl (Nat.le_of_ble_eq_true rfl) rfl he50 h54 hc51 (RI.k fun y52 S53 h => ?_)
    obtain ⟨h55, h⟩ := h
    refine V_putI kc6 (pc2 := 130) 14 (dk D_X6_passGuards 45 rfl) fl_6_77 (by decide) (Or.inl rfl) rfl rfl h55 ?_
    have h := h _ rfl
    exact h
  · have hj2 : j2 = 0 ∨ j2 = 1 ∨ j2 = 2 ∨ j2 = 3 ∨ j2 = 4 ∨ j2 = 5 ∨ j2 = 6 := by simp at hj; omega
    clear hj
    rcases hj2 with rfl | rfl | rfl | rfl | rfl | rfl | rfl
    · have hx : x2 = 40 := Int32.toInt_inj.mp (by rw [q1]; decide)
      have h := h.1 hx
      refine V_aload_n (pc2 := 45) (dk D_X6_passGuards 2 rfl) rfl (V_lg 1 rfl) rfl ?_
      refine V_iload_n (pc2 := 46) (dk D_X6_passGuards 3 rfl) rfl (V_lg 3 rfl) rfl ?_
      obtain ⟨h61, h⟩ := h
      obtain ⟨e57, he58, hc59⟩ := h
      refine V_callV (as := [_]) (st := []) (M' := MX10_openGuard) (ci := 10) (pc2 := 49) (dk D_X6_passGuards 4 rfl) ml_6_290 mv_X10_openGuard rfl rfl (by decide) rfl (Nat.le_of_ble_eq_true rfl) rfl he58 h61 hc59 (RV.k fun  S60 h => ?_)
      refine V_goto (tgt := 130) (dk D_X6_passGuards 5 rfl) (by decide) ?_
      exact h
    · have h := h.2.2.2.2.2 (by rintro (hk | hk | hk | hk | hk) <;> (rw [hk] at q1; revert q1; decide))
      refine V_aload_n (pc2 := 103) (dk D_X6_passGuards 32 rfl) rfl (V_lg 0 rfl) rfl ?_
      refine V_aload_n (pc2 := 104) (dk D_X6_passGuards 33 rfl) rfl (V_lg 0 rfl) rfl ?_
      obtain ⟨h3, h⟩ := h
      refine V_getR kc6 (pc2 := 107) 2 (dk D_X6_passGuards 34 rfl) fl_6_24 (by decide) (fun _ => rfl) rfl h3 ?_
      refine V_iload_n (pc2 := 108) (dk D_X6_passGuards 35 rfl) rfl (V_lg 3 rfl) rfl ?_
      refine V_aload_n (pc2 := 109) (dk D_X6_passGuards 36 rfl) rfl (V_lg 1 rfl) rfl ?_
      obtain ⟨h9, h⟩ := h
      obtain ⟨e4, he5, hc6⟩ := h
      refine V_callV (as := []) (st := [_, _, _]) (M' := MX10_pop) (ci := 10) (pc2 := 112) (dk D_X6_passGuards 37 rfl) ml_6_212 mv_X10_pop rfl rfl (by decide) rfl (Nat.le_of_ble_eq_true rfl) rfl he5 h9 hc6 (RI.k fun y7 S8 h => ?_)
      refine V_aload_n (pc2 := 113) (dk D_X6_passGuards 38 rfl) rfl (V_lg 1 rfl) rfl ?_
      obtain ⟨h10, h⟩ := h
      refine V_getI kc10 (pc2 := 116) 0 (dk D_X6_passGuards 39 rfl) fl_6_198 (by decide) (fun _ => rfl) rfl h10 ?_
      refine V_aload_n (pc2 := 117) (dk D_X6_passGuards 40 rfl) rfl (V_lg 1 rfl) rfl ?_
      obtain ⟨e11, he12, hc13⟩ := h
      refine V_callV (as := []) (st := [_, _, _, _, _]) (M' := MX10_place) (ci := 10) (pc2 := 120) (dk D_X6_passGuards 41 rfl) ml_6_201 mv_X10_place rfl rfl (by decide) rfl (Nat.le_of_ble_eq_true rfl) rfl he12 h10 hc13 (RI.k fun y14 S15 h => ?_)
      refine V_aload_n (pc2 := 121) (dk D_X6_passGuards 42 rfl) rfl (V_lg 1 rfl) rfl ?_
      obtain ⟨h21, h⟩ := h
      obtain ⟨e16, he17, hc18⟩ := h
      refine V_callV (as := []) (st := [_, _, _, _, _, _]) (M' := MX10_caught) (ci := 10) (pc2 := 124) (dk D_X6_passGuards 43 rfl) ml_6_309 mv_X10_caught rfl rfl (by decide) rfl (Nat.le_of_ble_eq_true rfl) rfl he17 h21 hc18 (RI.k fun y19 S20 h => ?_)
      obtain ⟨h27, h⟩ := h
      obtain ⟨e22, he23, hc24⟩ := h
      refine V_callV (as := [_, _, _, _, _]) (st := [_]) (M' := MX2_make) (ci := 2) (pc2 := 127) (dk D_X6_passGuards 44 rfl) ml_6_123 mv_X2_make rfl rfl (by decide) rfl (Nat.le_of_ble_eq_true rfl) rfl he23 h27 hc24 (RI.k fun y25 S26 h => ?_)
      obtain ⟨h28, h⟩ := h
      refine V_putI kc6 (pc2 := 130) 14 (dk D_X6_passGuards 45 rfl) fl_6_77 (by decide) (Or.inl rfl) rfl rfl h28 ?_
      have h := h _ rfl
      exact h
    · have h := h.2.2.2.2.2 (by rintro (hk | hk | hk | hk | hk) <;> (rw [hk] at q1; revert q1; decide))
      refine V_aload_n (pc2 := 103) (dk D_X6_passGuards 32 rfl) rfl (V_lg 0 rfl) rfl ?_
      refine V_aload_n (pc2 := 104) (dk D_X6_passGuards 33 rfl) rfl (V_lg 0 rfl) rfl ?_
      obtain ⟨h3, h⟩ := h
      refine V_getR kc6 (pc2 := 107) 2 (dk D_X6_passGuards 34 rfl) fl_6_24 (by decide) (fun _ => rfl) rfl h3 ?_
      refine V_iload_n (pc2 := 108) (dk D_X6_passGuards 35 rfl) rfl (V_lg 3 rfl) rfl ?_
      refine V_aload_n (pc2 := 109) (dk D_X6_passGuards 36 rfl) rfl (V_lg 1 rfl) rfl ?_
      obtain ⟨h9, h⟩ := h
      obtain ⟨e4, he5, hc6⟩ := h
      refine V_callV (as := []) (st := [_, _, _]) (M' := MX10_pop) (ci := 10) (pc2 := 112) (dk D_X6_passGuards 37 rfl) ml_6_212 mv_X10_pop rfl rfl (by decide) rfl (Nat.le_of_ble_eq_true rfl) rfl he5 h9 hc6 (RI.k fun y7 S8 h => ?_)
      refine V_aload_n (pc2 := 113) (dk D_X6_passGuards 38 rfl) rfl (V_lg 1 rfl) rfl ?_
      obtain ⟨h10, h⟩ := h
      refine V_getI kc10 (pc2 := 116) 0 (dk D_X6_passGuards 39 rfl) fl_6_198 (by decide) (fun _ => rfl) rfl h10 ?_
      refine V_aload_n (pc2 := 117) (dk D_X6_passGuards 40 rfl) rfl (V_lg 1 rfl) rfl ?_
      obtain ⟨e11, he12, hc13⟩ := h
      refine V_callV (as := []) (st := [_, _, _, _, _]) (M' := MX10_place) (ci := 10) (pc2 := 120) (dk D_X6_passGuards 41 rfl) ml_6_201 mv_X10_place rfl rfl (by decide) rfl (Nat.le_of_ble_eq_true rfl) rfl he12 h10 hc13 (RI.k fun y14 S15 h => ?_)
      refine V_aload_n (pc2 := 121) (dk D_X6_passGuards 42 rfl) rfl (V_lg 1 rfl) rfl ?_
      obtain ⟨h21, h⟩ := h
      obtain ⟨e16, he17, hc18⟩ := h
      refine V_callV (as := []) (st := [_, _, _, _, _, _]) (M' := MX10_caught) (ci := 10) (pc2 := 124) (dk D_X6_passGuards 43 rfl) ml_6_309 mv_X10_caught rfl rfl (by decide) rfl (Nat.le_of_ble_eq_true rfl) rfl he17 h21 hc18 (RI.k fun y19 S20 h => ?_)
      obtain ⟨h27, h⟩ := h
      obtain ⟨e22, he23, hc24⟩ := h
      refine V_callV (as := [_, _, _, _, _]) (st := [_]) (M' := MX2_make) (ci := 2) (pc2 := 127) (dk D_X6_passGuards 44 rfl) ml_6_123 mv_X2_make rfl rfl (by decide) rfl (Nat.le_of_ble_eq_true rfl) rfl he23 h27 hc24 (RI.k fun y25 S26 h => ?_)
      obtain ⟨h28, h⟩ := h
      refine V_putI kc6 (pc2 := 130) 14 (dk D_X6_passGuards 45 rfl) fl_6_77 (by decide) (Or.inl rfl) rfl rfl h28 ?_
      have h := h _ rfl
      exact h
    · have hx : x2 = 43 := Int32.toInt_inj.mp (by rw [q1]; decide)
      have h := h.2.1 hx
      refine V_aload_n (pc2 := 53) (dk D_X6_passGuards 6 rfl) rfl (V_lg 1 rfl) rfl ?_
      refine V_dup (pc2 := 54) (dk D_X6_passGuards 7 rfl) rfl rfl ?_
      obtain ⟨h62, h⟩ := h
      refine V_getI kc10 (pc2 := 57) 7 (dk D_X6_passGuards 8 rfl) fl_6_293 (by decide) (fun _ => rfl) rfl h62 ?_
      refine V_iconst (x := 1) (pc2 := 58) (dk D_X6_passGuards 9 rfl) (by decide) rfl ?_
      refine V_iadd (pc2 := 59) (dk D_X6_passGuards 10 rfl) rfl ?_
      refine V_putI kc10 (pc2 := 62) 7 (dk D_X6_passGuards 11 rfl) fl_6_293 (by decide) (Or.inl rfl) rfl rfl h62 ?_
      have h := h _ rfl
      refine V_aload_n (pc2 := 63) (dk D_X6_passGuards 12 rfl) rfl (V_lg 1 rfl) rfl ?_
      refine V_iconst (x := 2) (pc2 := 64) (dk D_X6_passGuards 13 rfl) (by decide) rfl ?_
      refine V_iconst (x := 0) (pc2 := 65) (dk D_X6_passGuards 14 rfl) (by decide) rfl ?_
      refine V_aload_n (pc2 := 66) (dk D_X6_passGuards 15 rfl) rfl (V_lg 1 rfl) rfl ?_
      refine V_getI kc10 (pc2 := 69) 9 (dk D_X6_passGuards 16 rfl) fl_6_175 (by decide) (fun _ => rfl) rfl h62 ?_
      obtain ⟨e64, he65, hc66⟩ := h
      refine V_callV (as := [_, _, _]) (st := []) (M' := MX10_turnGuard) (ci := 10) (pc2 := 72) (dk D_X6_passGuards 17 rfl) ml_6_296 mv_X10_turnGuard rfl rfl (by decide) rfl (Nat.le_of_ble_eq_true rfl) rfl he65 h62 hc66 (RV.k fun  S67 h => ?_)
      refine V_goto (tgt := 130) (dk D_X6_passGuards 18 rfl) (by decide) ?_
      exact h
    · have hx : x2 = 44 := Int32.toInt_inj.mp (by rw [q1]; decide)
      have h := h.2.2.1 hx
      refine V_aload_n (pc2 := 76) (dk D_X6_passGuards 19 rfl) rfl (V_lg 1 rfl) rfl ?_
      obtain ⟨h72, h⟩ := h
      obtain ⟨e68, he69, hc70⟩ := h
      refine V_callV (as := []) (st := []) (M' := MX10_closeGuard) (ci := 10) (pc2 := 79) (dk D_X6_passGuards 20 rfl) ml_6_300 mv_X10_closeGuard rfl rfl (by decide) rfl (Nat.le_of_ble_eq_true rfl) rfl he69 h72 hc70 (RV.k fun  S71 h => ?_)
      refine V_goto (tgt := 130) (dk D_X6_passGuards 21 rfl) (by decide) ?_
      exact h
    · have hx : x2 = 45 := Int32.toInt_inj.mp (by rw [q1]; decide)
      have h := h.2.2.2.1 hx
      refine V_aload_n (pc2 := 83) (dk D_X6_passGuards 22 rfl) rfl (V_lg 0 rfl) rfl ?_
      refine V_aload_n (pc2 := 84) (dk D_X6_passGuards 23 rfl) rfl (V_lg 1 rfl) rfl ?_
      obtain ⟨h77, h⟩ := h
      obtain ⟨e73, he74, hc75⟩ := h
      refine V_callV (as := [_]) (st := []) (M' := MX6_endFinally) (ci := 6) (pc2 := 87) (dk D_X6_passGuards 24 rfl) ml_6_303 mv_X6_endFinally rfl rfl (by decide) rfl (Nat.le_of_ble_eq_true rfl) rfl he74 h77 hc75 (RV.k fun  S76 h => ?_)
      refine V_goto (tgt := 130) (dk D_X6_passGuards 25 rfl) (by decide) ?_
      exact h
    · have hx : x2 = 46 := Int32.toInt_inj.mp (by rw [q1]; decide)
      have h := h.2.2.2.2.1 hx
      refine V_aload_n (pc2 := 91) (dk D_X6_passGuards 26 rfl) rfl (V_lg 0 rfl) rfl ?_
      refine V_aload_n (pc2 := 92) (dk D_X6_passGuards 27 rfl) rfl (V_lg 1 rfl) rfl ?_
      refine V_aload_n (pc2 := 93) (dk D_X6_passGuards 28 rfl) rfl (V_lg 1 rfl) rfl ?_
      obtain ⟨h83, h⟩ := h
      obtain ⟨e78, he79, hc80⟩ := h
      refine V_callV (as := []) (st := [_, _]) (M' := MX10_pop) (ci := 10) (pc2 := 96) (dk D_X6_passGuards 29 rfl) ml_6_212 mv_X10_pop rfl rfl (by decide) rfl (Nat.le_of_ble_eq_true rfl) rfl he79 h83 hc80 (RI.k fun y81 S82 h => ?_)
      obtain ⟨h88, h⟩ := h
      obtain ⟨e84, he85, hc86⟩ := h
      refine V_callV (as := [_, _]) (st := []) (M' := MX6_giveBack) (ci := 6) (pc2 := 99) (dk D_X6_passGuards 30 rfl) ml_6_306 mv_X6_giveBack rfl rfl (by decide) rfl (Nat.le_of_ble_eq_true rfl) rfl he85 h88 hc86 (RV.k fun  S87 h => ?_)
      refine V_goto (tgt := 130) (dk D_X6_passGuards 31 rfl) (by decide) ?_
      exact h
theorem w_X6_passGuards_130 {X : Cx} {d : Nat} {S : Mem} {Q : Res → Mem → Prop} (r0 : Nat) (r1 : Nat) (x2 : Int32) (x3 : Int32) (h : Q (.inl none) S) : V X d MX6_passGuards 130 [(0, vR r0), (1, vR r1), (2, vI x2), (3, vI x3)] [] S Q := by
  exact V_return (dk D_X6_passGuards 46 rfl) rfl h
def L_X6_endFinally : List (Nat × Instr × Nat) := [(0, .aload_n 1, 1), (1, .invokevirtual 312, 3), (4, .istore_n 2, 1), (5, .aload_n 1, 1), (6, .invokevirtual 315, 3), (9, .istore_n 3, 1), (10, .aload_n 1, 1), (11, .invokevirtual 300, 3), (14, .iload_n 2, 1), (15, .iconst 3, 1), (16, .if_icmp .ne 11, 3), (19, .aload_n 0, 1), (20, .iload_n 3, 1), (21, .putfield 77, 3), (24, .goto 14, 3), (27, .iload_n 2, 1), (28, .iconst 4, 1), (29, .if_icmp .ne 9, 3), (32, .aload_n 0, 1), (33, .aload_n 1, 1), (34, .iload_n 3, 1), (35, .invokevirtual 306, 3), (38, .return_, 1)]
theorem D_X6_endFinally : dOk cX6_endFinally L_X6_endFinally = true := by decide +kernel
theorem w_X6_endFinally_0 {X : Cx} {d : Nat} {S : Mem} {Q : Res → Mem → Prop} (r0 : Nat) (r1 : Nat) (h : (isK S r1 10) ∧ ∃ e1 : Nat, e1 + 1 ≤ d ∧ C X e1 MX10_phase [vR r1] S (RI fun y4 S5 => (isK S5 r1 10) ∧ ∃ e7 : Nat, e7 + 1 ≤ d ∧ C X e7 MX10_keptByGuard [vR r1] S5 (RI fun y10 S11 => (isK S11 r1 10) ∧ ∃ e13 : Nat, e13 + 1 ≤ d ∧ C X e13 MX10_closeGuard [vR r1] S11 (RV fun  S16 => ((¬ y4 = 3 → ((¬ y4 = 4 → V X d MX6_endFinally 38 [(0, vR r0), (1, vR r1), (2, vI y4), (3, vI y10)] [] S16 Q) ∧ (y4 = 4 → (isK S16 r0 6) ∧ ∃ e20 : Nat, e20 + 1 ≤ d ∧ C X e20 MX6_giveBack [vR r0, vR r1, vI y10] S16 (RV fun  S23 => V X d MX6_endFinally 38 [(0, vR r0), (1, vR r1), (2, vI y4), (3, vI y10)] [] S23 Q)))) ∧ (y4 = 3 → (isK S16 r0 6) ∧ ∀ S26 : Mem, S26 = uI S16 r0 14 y10 → V X d MX6_endFinally 38 [(0, vR r0), (1, vR r1), (2, vI y4), (3, vI y10)] [] S26 Q)))))) : V X d MX6_endFinally 0 [(0, vR r0), (1, vR r1)] [] S Q := by
  refine V_aload_n (pc2 := 1) (dk D_X6_endFinally 0 rfl) rfl (V_lg 1 rfl) rfl ?_
  obtain ⟨h6, h⟩ := h
  obtain ⟨e1, he2, hc3⟩ := h
  refine V_callV (as := []) (st := []) (M' := MX10_phase) (ci := 10) (pc2 := 4) (dk D_X6_endFinally 1 rfl) ml_6_312 mv_X10_phase rfl rfl (by decide) rfl (Nat.le_of_ble_eq_true rfl) rfl he2 h6 hc3 (RI.k fun y4 S5 h => ?_)
  refine V_istore_n (pc2 := 5) (lv2 := [(0, _), (1, _), (2, _)]) (dk D_X6_endFinally 2 rfl) rfl (by decide) rfl rfl ?_
  refine V_aload_n (pc2 := 6) (dk D_X6_endFinally 3 rfl) rfl (V_lg 1 rfl) rfl ?_
  obtain ⟨h12, h⟩ := h
  obtain ⟨e7, he8, hc9⟩ := h
  refine V_callV (as := []) (st := []) (M' := MX10_keptByGuard) (ci := 10) (pc2 := 9) (dk D_X6_endFinally 4 rfl) ml_6_315 mv_X10_keptByGuard rfl rfl (by decide) rfl (Nat.le_of_ble_eq_true rfl) rfl he8 h12 hc9 (RI.k fun y10 S11 h => ?_)
  refine V_istore_n (pc2 := 10) (lv2 := [(0, _), (1, _), (2, _), (3, _)]) (dk D_X6_endFinally 5 rfl) rfl (by decide) rfl rfl ?_
  refine V_aload_n (pc2 := 11) (dk D_X6_endFinally 6 rfl) rfl (V_lg 1 rfl) rfl ?_
  obtain ⟨h17, h⟩ := h
  obtain ⟨e13, he14, hc15⟩ := h
  refine V_callV (as := []) (st := []) (M' := MX10_closeGuard) (ci := 10) (pc2 := 14) (dk D_X6_endFinally 7 rfl) ml_6_300 mv_X10_closeGuard rfl rfl (by decide) rfl (Nat.le_of_ble_eq_true rfl) rfl he14 h17 hc15 (RV.k fun  S16 h => ?_)
  refine V_iload_n (pc2 := 15) (dk D_X6_endFinally 8 rfl) rfl (V_lg 2 rfl) rfl ?_
  refine V_iconst (x := 3) (pc2 := 16) (dk D_X6_endFinally 9 rfl) (by decide) rfl ?_
  refine V_cmpne (tgt := 27) (pc2 := 19) (dk D_X6_endFinally 10 rfl) (by decide) rfl (fun q18 => ?_) (fun q18 => ?_)
  · have h := h.1 q18
    refine V_iload_n (pc2 := 28) (dk D_X6_endFinally 15 rfl) rfl (V_lg 2 rfl) rfl ?_
    refine V_iconst (x := 4) (pc2 := 29) (dk D_X6_endFinally 16 rfl) (by decide) rfl ?_
    refine V_cmpne (tgt := 38) (pc2 := 32) (dk D_X6_endFinally 17 rfl) (by decide) rfl (fun q19 => ?_) (fun q19 => ?_)
    · have h := h.1 q19
      exact h
    · have h := h.2 q19
      refine V_aload_n (pc2 := 33) (dk D_X6_endFinally 18 rfl) rfl (V_lg 0 rfl) rfl ?_
      refine V_aload_n (pc2 := 34) (dk D_X6_endFinally 19 rfl) rfl (V_lg 1 rfl) rfl ?_
      refine V_iload_n (pc2 := 35) (dk D_X6_endFinally 20 rfl) rfl (V_lg 3 rfl) rfl ?_
      obtain ⟨h24, h⟩ := h
      obtain ⟨e20, he21, hc22⟩ := h
      refine V_callV (as := [_, _]) (st := []) (M' := MX6_giveBack) (ci := 6) (pc2 := 38) (dk D_X6_endFinally 21 rfl) ml_6_306 mv_X6_giveBack rfl rfl (by decide) rfl (Nat.le_of_ble_eq_true rfl) rfl he21 h24 hc22 (RV.k fun  S23 h => ?_)
      exact h
  · have h := h.2 q18
    refine V_aload_n (pc2 := 20) (dk D_X6_endFinally 11 rfl) rfl (V_lg 0 rfl) rfl ?_
    refine V_iload_n (pc2 := 21) (dk D_X6_endFinally 12 rfl) rfl (V_lg 3 rfl) rfl ?_
    obtain ⟨h25, h⟩ := h
    refine V_putI kc6 (pc2 := 24) 14 (dk D_X6_endFinally 13 rfl) fl_6_77 (by decide) (Or.inl rfl) rfl rfl h25 ?_
    have h := h _ rfl
    refine V_goto (tgt := 38) (dk D_X6_endFinally 14 rfl) (by decide) ?_
    exact h
theorem w_X6_endFinally_38 {X : Cx} {d : Nat} {S : Mem} {Q : Res → Mem → Prop} (r0 : Nat) (r1 : Nat) (x2 : Int32) (x3 : Int32) (h : Q (.inl none) S) : V X d MX6_endFinally 38 [(0, vR r0), (1, vR r1), (2, vI x2), (3, vI x3)] [] S Q := by
  exact V_return (dk D_X6_endFinally 22 rfl) rfl h
def L_X6_giveBack : List (Nat × Instr × Nat) := [(0, .iconst 0, 1), (1, .istore_n 3, 1), (2, .iload_n 3, 1), (3, .bipush 24, 2), (5, .if_icmp .ge 79, 3), (8, .aload_n 1, 1), (9, .invokevirtual 318, 3), (12, .ifCond .eq 72, 3), (15, .aload_n 1, 1), (16, .invokevirtual 321, 3), (19, .ifCond .eq 16, 3), (22, .aload_n 0, 1), (23, .aload_n 1, 1), (24, .invokevirtual 324, 3), (27, .bipush 14, 2), (29, .invokevirtual 327, 3), (32, .goto 5, 3), (35, .bipush (-9), 2), (37, .istore 4, 2), (39, .aload_n 0, 1), (40, .getfield 53, 3), (43, .iload 4, 2), (45, .invokevirtual 178, 3), (48, .bipush 43, 2), (50, .if_icmp .ne 24, 3), (53, .aload_n 1, 1), (54, .dup, 1), (55, .getfield 293, 3), (58, .iconst 1, 1), (59, .iadd, 1), (60, .putfield 293, 3), (63, .aload_n 1, 1), (64, .iconst 4, 1), (65, .iload_n 2, 1), (66, .iload 4, 2), (68, .iconst 1, 1), (69, .iadd, 1), (70, .invokevirtual 296, 3), (73, .return_, 1), (74, .aload_n 1, 1), (75, .invokevirtual 300, 3), (78, .iinc 3 1, 3), (81, .goto (-79), 3), (84, .aload_n 1, 1), (85, .invokevirtual 330, 3), (88, .ifCond .eq 11, 3), (91, .aload_n 1, 1), (92, .iload_n 2, 1), (93, .invokevirtual 223, 3), (96, .goto 28, 3), (99, .aload_n 0, 1), (100, .aload_n 1, 1), (101, .aload_n 1, 1), (102, .getfield 134, 3), (105, .ifCond .eq 8, 3), (108, .bipush 6, 2), (110, .goto 4, 3), (113, .iconst 4, 1), (114, .invokevirtual 113, 3), (117, .aload_n 0, 1), (118, .aload_n 1, 1), (119, .iload_n 2, 1), (120, .iconst 1, 1), (121, .invokevirtual 267, 3), (124, .return_, 1)]
theorem D_X6_giveBack : dOk cX6_giveBack L_X6_giveBack = true := by decide +kernel
theorem w_X6_giveBack_0 {X : Cx} {d : Nat} {S : Mem} {Q : Res → Mem → Prop} (r0 : Nat) (r1 : Nat) (x2 : Int32) (h : V X d MX6_giveBack 2 [(0, vR r0), (1, vR r1), (2, vI x2), (3, vI 0)] [] S Q) : V X d MX6_giveBack 0 [(0, vR r0), (1, vR r1), (2, vI x2)] [] S Q := by
  refine V_iconst (x := 0) (pc2 := 1) (dk D_X6_giveBack 0 rfl) (by decide) rfl ?_
  refine V_istore_n (pc2 := 2) (lv2 := [(0, _), (1, _), (2, _), (3, _)]) (dk D_X6_giveBack 1 rfl) rfl (by decide) rfl rfl ?_
  exact h
theorem w_X6_giveBack_2 {X : Cx} {d : Nat} {S : Mem} {Q : Res → Mem → Prop} (r0 : Nat) (r1 : Nat) (x2 : Int32) (x3 : Int32) (h : ((24 ≤ x3 → V X d MX6_giveBack 84 [(0, vR r0), (1, vR r1), (2, vI x2), (3, vI x3)] [] S Q) ∧ (¬ 24 ≤ x3 → (isK S r1 10) ∧ ∃ e2 : Nat, e2 + 1 ≤ d ∧ C X e2 MX10_isGuarded [vR r1] S (RI fun y5 S6 => ((y5 = 0 → V X d MX6_giveBack 84 [(0, vR r0), (1, vR r1), (2, vI x2), (3, vI x3)] [] S6 Q) ∧ (¬ y5 = 0 → (isK S6 r1 10) ∧ ∃ e9 : Nat, e9 + 1 ≤ d ∧ C X e9 MX10_isInGuarded [vR r1] S6 (RI fun y12 S13 => ((y12 = 0 → V X d MX6_giveBack 37 [(0, vR r0), (1, vR r1), (2, vI x2), (3, vI x3)] [vI (-9)] S13 Q) ∧ (¬ y12 = 0 → (isK S13 r1 10) ∧ ∃ e16 : Nat, e16 + 1 ≤ d ∧ C X e16 MX10_handlers [vR r1] S13 (RI fun y19 S20 => (isK S20 r0 6) ∧ ∃ e22 : Nat, e22 + 1 ≤ d ∧ C X e22 MX6_handlerOf [vR r0, vI y19, vI 14] S20 (RI fun y25 S26 => V X d MX6_giveBack 37 [(0, vR r0), (1, vR r1), (2, vI x2), (3, vI x3)] [vI y25] S26 Q))))))))))) : V X d MX6_giveBack 2 [(0, vR r0), (1, vR r1), (2, vI x2), (3, vI x3)] [] S Q := by
  refine V_iload_n (pc2 := 3) (dk D_X6_giveBack 2 rfl) rfl (V_lg 3 rfl) rfl ?_
  refine V_bipush (x := 24) (pc2 := 5) (dk D_X6_giveBack 3 rfl) (by decide) rfl ?_
  refine V_cmpge (tgt := 84) (pc2 := 8) (dk D_X6_giveBack 4 rfl) (by decide) rfl (fun q1 => ?_) (fun q1 => ?_)
  · have h := h.1 q1
    exact h
  · have h := h.2 q1
    refine V_aload_n (pc2 := 9) (dk D_X6_giveBack 5 rfl) rfl (V_lg 1 rfl) rfl ?_
    obtain ⟨h7, h⟩ := h
    obtain ⟨e2, he3, hc4⟩ := h
    refine V_callV (as := []) (st := []) (M' := MX10_isGuarded) (ci := 10) (pc2 := 12) (dk D_X6_giveBack 6 rfl) ml_6_318 mv_X10_isGuarded rfl rfl (by decide) rfl (Nat.le_of_ble_eq_true rfl) rfl he3 h7 hc4 (RI.k fun y5 S6 h => ?_)
    refine V_ifeq (tgt := 84) (pc2 := 15) (dk D_X6_giveBack 7 rfl) (by decide) rfl (fun q8 => ?_) (fun q8 => ?_)
    · have h := h.1 q8
      exact h
    · have h := h.2 q8
      refine V_aload_n (pc2 := 16) (dk D_X6_giveBack 8 rfl) rfl (V_lg 1 rfl) rfl ?_
      obtain ⟨h14, h⟩ := h
      obtain ⟨e9, he10, hc11⟩ := h
      refine V_callV (as := []) (st := []) (M' := MX10_isInGuarded) (ci := 10) (pc2 := 19) (dk D_X6_giveBack 9 rfl) ml_6_321 mv_X10_isInGuarded rfl rfl (by decide) rfl (Nat.le_of_ble_eq_true rfl) rfl he10 h14 hc11 (RI.k fun y12 S13 h => ?_)
      refine V_ifeq (tgt := 35) (pc2 := 22) (dk D_X6_giveBack 10 rfl) (by decide) rfl (fun q15 => ?_) (fun q15 => ?_)
      · have h := h.1 q15
        refine V_bipush (x := (-9)) (pc2 := 37) (dk D_X6_giveBack 17 rfl) (by decide) rfl ?_
        exact h
      · have h := h.2 q15
        refine V_aload_n (pc2 := 23) (dk D_X6_giveBack 11 rfl) rfl (V_lg 0 rfl) rfl ?_
        refine V_aload_n (pc2 := 24) (dk D_X6_giveBack 12 rfl) rfl (V_lg 1 rfl) rfl ?_
        obtain ⟨h21, h⟩ := h
        obtain ⟨e16, he17, hc18⟩ := h
        refine V_callV (as := []) (st := [_]) (M' := MX10_handlers) (ci := 10) (pc2 := 27) (dk D_X6_giveBack 13 rfl) ml_6_324 mv_X10_handlers rfl rfl (by decide) rfl (Nat.le_of_ble_eq_true rfl) rfl he17 h21 hc18 (RI.k fun y19 S20 h => ?_)
        refine V_bipush (x := 14) (pc2 := 29) (dk D_X6_giveBack 14 rfl) (by decide) rfl ?_
        obtain ⟨h27, h⟩ := h
        obtain ⟨e22, he23, hc24⟩ := h
        refine V_callV (as := [_, _]) (st := []) (M' := MX6_handlerOf) (ci := 6) (pc2 := 32) (dk D_X6_giveBack 15 rfl) ml_6_327 mv_X6_handlerOf rfl rfl (by decide) rfl (Nat.le_of_ble_eq_true rfl) rfl he23 h27 hc24 (RI.k fun y25 S26 h => ?_)
        refine V_goto (tgt := 37) (dk D_X6_giveBack 16 rfl) (by decide) ?_
        exact h
theorem w_X6_giveBack_37 {X : Cx} {d : Nat} {S : Mem} {Q : Res → Mem → Prop} (r0 : Nat) (r1 : Nat) (x2 : Int32) (x3 : Int32) (t0 : Int32) (h : (isK S r0 6) ∧ (isK S (gR S r0 4) 1) ∧ ∃ e2 : Nat, e2 + 1 ≤ d ∧ C X e2 MX1_act [vR (gR S r0 4), vI t0] S (RI fun y5 S6 => ((¬ y5 = 43 → (isK S6 r1 10) ∧ ∃ e9 : Nat, e9 + 1 ≤ d ∧ C X e9 MX10_closeGuard [vR r1] S6 (RV fun  S12 => V X d MX6_giveBack 2 [(0, vR r0), (1, vR r1), (2, vI x2), (3, vI (x3 + 1))] [] S12 Q)) ∧ (y5 = 43 → (isK S6 r1 10) ∧ ∀ S15 : Mem, S15 = uI S6 r1 7 ((gI S6 r1 7) + 1) → ∃ e16 : Nat, e16 + 1 ≤ d ∧ C X e16 MX10_turnGuard [vR r1, vI 4, vI x2, vI (t0 + 1)] S15 (RV fun  S19 => Q (.inl none) S19))))) : V X d MX6_giveBack 37 [(0, vR r0), (1, vR r1), (2, vI x2), (3, vI x3)] [vI t0] S Q := by
  refine V_istore (pc2 := 39) (lv2 := [(0, _), (1, _), (2, _), (3, _), (4, _)]) (dk D_X6_giveBack 18 rfl) (by decide) rfl rfl ?_
  refine V_aload_n (pc2 := 40) (dk D_X6_giveBack 19 rfl) rfl (V_lg 0 rfl) rfl ?_
  obtain ⟨h1, h⟩ := h
  refine V_getR kc6 (pc2 := 43) 4 (dk D_X6_giveBack 20 rfl) fl_6_53 (by decide) (fun _ => rfl) rfl h1 ?_
  refine V_iload (pc2 := 45) (dk D_X6_giveBack 21 rfl) (V_lg 4 rfl) rfl ?_
  obtain ⟨h7, h⟩ := h
  obtain ⟨e2, he3, hc4⟩ := h
  refine V_callV (as := [_]) (st := []) (M' := MX1_act) (ci := 1) (pc2 := 48) (dk D_X6_giveBack 22 rfl) ml_6_178 mv_X1_act rfl rfl (by decide) rfl (Nat.le_of_ble_eq_true rfl) rfl he3 h7 hc4 (RI.k fun y5 S6 h => ?_)
  refine V_bipush (x := 43) (pc2 := 50) (dk D_X6_giveBack 23 rfl) (by decide) rfl ?_
  refine V_cmpne (tgt := 74) (pc2 := 53) (dk D_X6_giveBack 24 rfl) (by decide) rfl (fun q8 => ?_) (fun q8 => ?_)
  · have h := h.1 q8
    refine V_aload_n (pc2 := 75) (dk D_X6_giveBack 39 rfl) rfl (V_lg 1 rfl) rfl ?_
    obtain ⟨h13, h⟩ := h
    obtain ⟨e9, he10, hc11⟩ := h
    refine V_callV (as := []) (st := []) (M' := MX10_closeGuard) (ci := 10) (pc2 := 78) (dk D_X6_giveBack 40 rfl) ml_6_300 mv_X10_closeGuard rfl rfl (by decide) rfl (Nat.le_of_ble_eq_true rfl) rfl he10 h13 hc11 (RV.k fun  S12 h => ?_)
    refine V_iinc (y := _ + 1) (pc2 := 81) (lv2 := [(0, _), (1, _), (2, _), (3, _), (4, _)]) (dk D_X6_giveBack 41 rfl) (V_lg 3 rfl) rfl (by decide) rfl rfl ?_
    refine V_goto (tgt := 2) (dk D_X6_giveBack 42 rfl) (by decide) ?_
    refine V_pick [0, 1, 2, 3] (lv2 := [(0, _), (1, _), (2, _), (3, _)]) rfl ?_
    exact h
  · have h := h.2 q8
    refine V_aload_n (pc2 := 54) (dk D_X6_giveBack 25 rfl) rfl (V_lg 1 rfl) rfl ?_
    refine V_dup (pc2 := 55) (dk D_X6_giveBack 26 rfl) rfl rfl ?_
    obtain ⟨h14, h⟩ := h
    refine V_getI kc10 (pc2 := 58) 7 (dk D_X6_giveBack 27 rfl) fl_6_293 (by decide) (fun _ => rfl) rfl h14 ?_
    refine V_iconst (x := 1) (pc2 := 59) (dk D_X6_giveBack 28 rfl) (by decide) rfl ?_
    refine V_iadd (pc2 := 60) (dk D_X6_giveBack 29 rfl) rfl ?_
    refine V_putI kc10 (pc2 := 63) 7 (dk D_X6_giveBack 30 rfl) fl_6_293 (by decide) (Or.inl rfl) rfl rfl h14 ?_
    have h := h _ rfl
    refine V_aload_n (pc2 := 64) (dk D_X6_giveBack 31 rfl) rfl (V_lg 1 rfl) rfl ?_
    refine V_iconst (x := 4) (pc2 := 65) (dk D_X6_giveBack 32 rfl) (by decide) rfl ?_
    refine V_iload_n (pc2 := 66) (dk D_X6_giveBack 33 rfl) rfl (V_lg 2 rfl) rfl ?_
    refine V_iload (pc2 := 68) (dk D_X6_giveBack 34 rfl) (V_lg 4 rfl) rfl ?_
    refine V_iconst (x := 1) (pc2 := 69) (dk D_X6_giveBack 35 rfl) (by decide) rfl ?_
    refine V_iadd (pc2 := 70) (dk D_X6_giveBack 36 rfl) rfl ?_
    obtain ⟨e16, he17, hc18⟩ := h
    refine V_callV (as := [_, _, _]) (st := []) (M' := MX10_turnGuard) (ci := 10) (pc2 := 73) (dk D_X6_giveBack 37 rfl) ml_6_296 mv_X10_turnGuard rfl rfl (by decide) rfl (Nat.le_of_ble_eq_true rfl) rfl he17 h14 hc18 (RV.k fun  S19 h => ?_)
    exact V_return (dk D_X6_giveBack 38 rfl) rfl h
theorem w_X6_giveBack_84 {X : Cx} {d : Nat} {S : Mem} {Q : Res → Mem → Prop} (r0 : Nat) (r1 : Nat) (x2 : Int32) (x3 : Int32) (h : (isK S r1 10) ∧ ∃ e1 : Nat, e1 + 1 ≤ d ∧ C X e1 MX10_leave [vR r1] S (RI fun y4 S5 => ((y4 = 0 → (isK S5 r1 10) ∧ (((gI S5 r1 11) = 0 → V X d MX6_giveBack 114 [(0, vR r0), (1, vR r1), (2, vI x2), (3, vI x3)] [vI 4, vR r1, vR r0] S5 Q) ∧ (¬ (gI S5 r1 11) = 0 → V X d MX6_giveBack 114 [(0, vR r0), (1, vR r1), (2, vI x2), (3, vI x3)] [vI 6, vR r1, vR r0] S5 Q))) ∧ (¬ y4 = 0 → (isK S5 r1 10) ∧ ∃ e10 : Nat, e10 + 1 ≤ d ∧ C X e10 MX10_push [vR r1, vI x2] S5 (RV fun  S13 => V X d MX6_giveBack 124 [(0, vR r0), (1, vR r1), (2, vI x2), (3, vI x3)] [] S13 Q))))) : V X d MX6_giveBack 84 [(0, vR r0), (1, vR r1), (2, vI x2), (3, vI x3)] [] S Q := by
  refine V_aload_n (pc2 := 85) (dk D_X6_giveBack 43 rfl) rfl (V_lg 1 rfl) rfl ?_
  obtain ⟨h6, h⟩ := h
  obtain ⟨e1, he2, hc3⟩ := h
  refine V_callV (as := []) (st := []) (M' := MX10_leave) (ci := 10) (pc2 := 88) (dk D_X6_giveBack 44 rfl) ml_6_330 mv_X10_leave rfl rfl (by decide) rfl (Nat.le_of_ble_eq_true rfl) rfl he2 h6 hc3 (RI.k fun y4 S5 h => ?_)
  refine V_ifeq (tgt := 99) (pc2 := 91) (dk D_X6_giveBack 45 rfl) (by decide) rfl (fun q7 => ?_) (fun q7 => ?_)
  · have h := h.1 q7
    refine V_aload_n (pc2 := 100) (dk D_X6_giveBack 50 rfl) rfl (V_lg 0 rfl) rfl ?_
    refine V_aload_n (pc2 := 101) (dk D_X6_giveBack 51 rfl) rfl (V_lg 1 rfl) rfl ?_
    refine V_aload_n (pc2 := 102) (dk D_X6_giveBack 52 rfl) rfl (V_lg 1 rfl) rfl ?_
    obtain ⟨h8, h⟩ := h
    refine V_getI kc10 (pc2 := 105) 11 (dk D_X6_giveBack 53 rfl) fl_6_134 (by decide) (fun _ => rfl) rfl h8 ?_
    refine V_ifeq (tgt := 113) (pc2 := 108) (dk D_X6_giveBack 54 rfl) (by decide) rfl (fun q9 => ?_) (fun q9 => ?_)
    · have h := h.1 q9
      refine V_iconst (x := 4) (pc2 := 114) (dk D_X6_giveBack 57 rfl) (by decide) rfl ?_
      exact h
    · have h := h.2 q9
      refine V_bipush (x := 6) (pc2 := 110) (dk D_X6_giveBack 55 rfl) (by decide) rfl ?_
      refine V_goto (tgt := 114) (dk D_X6_giveBack 56 rfl) (by decide) ?_
      exact h
  · have h := h.2 q7
    refine V_aload_n (pc2 := 92) (dk D_X6_giveBack 46 rfl) rfl (V_lg 1 rfl) rfl ?_
    refine V_iload_n (pc2 := 93) (dk D_X6_giveBack 47 rfl) rfl (V_lg 2 rfl) rfl ?_
    obtain ⟨h14, h⟩ := h
    obtain ⟨e10, he11, hc12⟩ := h
    refine V_callV (as := [_]) (st := []) (M' := MX10_push) (ci := 10) (pc2 := 96) (dk D_X6_giveBack 48 rfl) ml_6_223 mv_X10_push rfl rfl (by decide) rfl (Nat.le_of_ble_eq_true rfl) rfl he11 h14 hc12 (RV.k fun  S13 h => ?_)
    refine V_goto (tgt := 124) (dk D_X6_giveBack 49 rfl) (by decide) ?_
    exact h
theorem w_X6_giveBack_114 {X : Cx} {d : Nat} {S : Mem} {Q : Res → Mem → Prop} (r0 : Nat) (r1 : Nat) (x2 : Int32) (x3 : Int32) (t0 : Nat) (t1 : Nat) (t2 : Int32) (h : (isK S t0 6) ∧ ∃ e1 : Nat, e1 + 1 ≤ d ∧ C X e1 MX6_end [vR t0, vR t1, vI t2] S (RV fun  S4 => (isK S4 r0 6) ∧ ∃ e6 : Nat, e6 + 1 ≤ d ∧ C X e6 MX6_goBack [vR r0, vR r1, vI x2, vI 1] S4 (RV fun  S9 => V X d MX6_giveBack 124 [(0, vR r0), (1, vR r1), (2, vI x2), (3, vI x3)] [] S9 Q))) : V X d MX6_giveBack 114 [(0, vR r0), (1, vR r1), (2, vI x2), (3, vI x3)] [vI t2, vR t1, vR t0] S Q := by
  obtain ⟨h5, h⟩ := h
  obtain ⟨e1, he2, hc3⟩ := h
  refine V_callV (as := [_, _]) (st := []) (M' := MX6_end) (ci := 6) (pc2 := 117) (dk D_X6_giveBack 58 rfl) ml_6_113 mv_X6_end rfl rfl (by decide) rfl (Nat.le_of_ble_eq_true rfl) rfl he2 h5 hc3 (RV.k fun  S4 h => ?_)
  refine V_aload_n (pc2 := 118) (dk D_X6_giveBack 59 rfl) rfl (V_lg 0 rfl) rfl ?_
  refine V_aload_n (pc2 := 119) (dk D_X6_giveBack 60 rfl) rfl (V_lg 1 rfl) rfl ?_
  refine V_iload_n (pc2 := 120) (dk D_X6_giveBack 61 rfl) rfl (V_lg 2 rfl) rfl ?_
  refine V_iconst (x := 1) (pc2 := 121) (dk D_X6_giveBack 62 rfl) (by decide) rfl ?_
  obtain ⟨h10, h⟩ := h
  obtain ⟨e6, he7, hc8⟩ := h
  refine V_callV (as := [_, _, _]) (st := []) (M' := MX6_goBack) (ci := 6) (pc2 := 124) (dk D_X6_giveBack 63 rfl) ml_6_267 mv_X6_goBack rfl rfl (by decide) rfl (Nat.le_of_ble_eq_true rfl) rfl he7 h10 hc8 (RV.k fun  S9 h => ?_)
  exact h
theorem w_X6_giveBack_124 {X : Cx} {d : Nat} {S : Mem} {Q : Res → Mem → Prop} (r0 : Nat) (r1 : Nat) (x2 : Int32) (x3 : Int32) (h : Q (.inl none) S) : V X d MX6_giveBack 124 [(0, vR r0), (1, vR r1), (2, vI x2), (3, vI x3)] [] S Q := by
  exact V_return (dk D_X6_giveBack 64 rfl) rfl h
def L_X6_handlerOf : List (Nat × Instr × Nat) := [(0, .iload_n 1, 1), (1, .istore_n 3, 1), (2, .iconst 0, 1), (3, .istore 4, 2), (5, .iload 4, 2), (7, .sipush 3000, 3), (10, .if_icmp .ge 63, 3), (13, .aload_n 0, 1), (14, .getfield 53, 3), (17, .iload_n 3, 1), (18, .invokevirtual 178, 3), (21, .bipush 41, 2), (23, .if_icmp .ne 50, 3), (26, .aload_n 0, 1), (27, .getfield 53, 3), (30, .iload_n 3, 1), (31, .invokevirtual 183, 3), (34, .istore 5, 2), (36, .iload_n 2, 1), (37, .bipush 14, 2), (39, .if_icmp .eq 17, 3), (42, .iload 5, 2), (44, .iload_n 2, 1), (45, .if_icmp .eq 9, 3), (48, .iload 5, 2), (50, .iconst (-1), 1), (51, .if_icmp .ne 5, 3), (54, .iload_n 3, 1), (55, .ireturn, 1), (56, .aload_n 0, 1), (57, .getfield 53, 3), (60, .iload_n 3, 1), (61, .iconst 1, 1), (62, .iadd, 1), (63, .invokevirtual 183, 3), (66, .istore_n 3, 1), (67, .iinc 4 1, 3), (70, .goto (-65), 3), (73, .iload_n 3, 1), (74, .ireturn, 1)]
theorem D_X6_handlerOf : dOk cX6_handlerOf L_X6_handlerOf = true := by decide +kernel
theorem w_X6_handlerOf_0 {X : Cx} {d : Nat} {S : Mem} {Q : Res → Mem → Prop} (r0 : Nat) (x1 : Int32) (x2 : Int32) (h : V X d MX6_handlerOf 5 [(0, vR r0), (1, vI x1), (2, vI x2), (3, vI x1), (4, vI 0)] [] S Q) : V X d MX6_handlerOf 0 [(0, vR r0), (1, vI x1), (2, vI x2)] [] S Q := by
  refine V_iload_n (pc2 := 1) (dk D_X6_handlerOf 0 rfl) rfl (V_lg 1 rfl) rfl ?_
  refine V_istore_n (pc2 := 2) (lv2 := [(0, _), (1, _), (2, _), (3, _)]) (dk D_X6_handlerOf 1 rfl) rfl (by decide) rfl rfl ?_
  refine V_iconst (x := 0) (pc2 := 3) (dk D_X6_handlerOf 2 rfl) (by decide) rfl ?_
  refine V_istore (pc2 := 5) (lv2 := [(0, _), (1, _), (2, _), (3, _), (4, _)]) (dk D_X6_handlerOf 3 rfl) (by decide) rfl rfl ?_
  exact h
theorem w_X6_handlerOf_5 {X : Cx} {d : Nat} {S : Mem} {Q : Res → Mem → Prop} (r0 : Nat) (x1 : Int32) (x2 : Int32) (x3 : Int32) (x4 : Int32) (h : ((3000 ≤ x4 → V X d MX6_handlerOf 73 [(0, vR r0), (1, vI x1), (2, vI x2), (3, vI x3), (4, vI x4)] [] S Q) ∧ (¬ 3000 ≤ x4 → (isK S r0 6) ∧ (isK S (gR S r0 4) 1) ∧ ∃ e3 : Nat, e3 + 1 ≤ d ∧ C X e3 MX1_act [vR (gR S r0 4), vI x3] S (RI fun y6 S7 => ((¬ y6 = 41 → V X d MX6_handlerOf 73 [(0, vR r0), (1, vI x1), (2, vI x2), (3, vI x3), (4, vI x4)] [] S7 Q) ∧ (y6 = 41 → (isK S7 r0 6) ∧ (isK S7 (gR S7 r0 4) 1) ∧ ∃ e11 : Nat, e11 + 1 ≤ d ∧ C X e11 MX1_argument [vR (gR S7 r0 4), vI x3] S7 (RI fun y14 S15 => ((x2 = 14 → V X d MX6_handlerOf 56 [(0, vR r0), (1, vI x1), (2, vI x2), (3, vI x3), (4, vI x4), (5, vI y14)] [] S15 Q) ∧ (¬ x2 = 14 → ((y14 = x2 → V X d MX6_handlerOf 54 [(0, vR r0), (1, vI x1), (2, vI x2), (3, vI x3), (4, vI x4), (5, vI y14)] [] S15 Q) ∧ (¬ y14 = x2 → ((¬ y14 = (-1) → V X d MX6_handlerOf 56 [(0, vR r0), (1, vI x1), (2, vI x2), (3, vI x3), (4, vI x4), (5, vI y14)] [] S15 Q) ∧ (y14 = (-1) → V X d MX6_handlerOf 54 [(0, vR r0), (1, vI x1), (2, vI x2), (3, vI x3), (4, vI x4), (5, vI y14)] [] S15 Q))))))))))))) : V X d MX6_handlerOf 5 [(0, vR r0), (1, vI x1), (2, vI x2), (3, vI x3), (4, vI x4)] [] S Q := by
  refine V_iload (pc2 := 7) (dk D_X6_handlerOf 4 rfl) (V_lg 4 rfl) rfl ?_
  refine V_sipush (x := 3000) (pc2 := 10) (dk D_X6_handlerOf 5 rfl) (by decide) rfl ?_
  refine V_cmpge (tgt := 73) (pc2 := 13) (dk D_X6_handlerOf 6 rfl) (by decide) rfl (fun q1 => ?_) (fun q1 => ?_)
  · have h := h.1 q1
    exact h
  · have h := h.2 q1
    refine V_aload_n (pc2 := 14) (dk D_X6_handlerOf 7 rfl) rfl (V_lg 0 rfl) rfl ?_
    obtain ⟨h2, h⟩ := h
    refine V_getR kc6 (pc2 := 17) 4 (dk D_X6_handlerOf 8 rfl) fl_6_53 (by decide) (fun _ => rfl) rfl h2 ?_
    refine V_iload_n (pc2 := 18) (dk D_X6_handlerOf 9 rfl) rfl (V_lg 3 rfl) rfl ?_
    obtain ⟨h8, h⟩ := h
    obtain ⟨e3, he4, hc5⟩ := h
    refine V_callV (as := [_]) (st := []) (M' := MX1_act) (ci := 1) (pc2 := 21) (dk D_X6_handlerOf 10 rfl) ml_6_178 mv_X1_act rfl rfl (by decide) rfl (Nat.le_of_ble_eq_true rfl) rfl he4 h8 hc5 (RI.k fun y6 S7 h => ?_)
    refine V_bipush (x := 41) (pc2 := 23) (dk D_X6_handlerOf 11 rfl) (by decide) rfl ?_
    refine V_cmpne (tgt := 73) (pc2 := 26) (dk D_X6_handlerOf 12 rfl) (by decide) rfl (fun q9 => ?_) (fun q9 => ?_)
    · have h := h.1 q9
      exact h
    · have h := h.2 q9
      refine V_aload_n (pc2 := 27) (dk D_X6_handlerOf 13 rfl) rfl (V_lg 0 rfl) rfl ?_
      obtain ⟨h10, h⟩ := h
      refine V_getR kc6 (pc2 := 30) 4 (dk D_X6_handlerOf 14 rfl) fl_6_53 (by decide) (fun _ => rfl) rfl h10 ?_
      refine V_iload_n (pc2 := 31) (dk D_X6_handlerOf 15 rfl) rfl (V_lg 3 rfl) rfl ?_
      obtain ⟨h16, h⟩ := h
      obtain ⟨e11, he12, hc13⟩ := h
      refine V_callV (as := [_]) (st := []) (M' := MX1_argument) (ci := 1) (pc2 := 34) (dk D_X6_handlerOf 16 rfl) ml_6_183 mv_X1_argument rfl rfl (by decide) rfl (Nat.le_of_ble_eq_true rfl) rfl he12 h16 hc13 (RI.k fun y14 S15 h => ?_)
      refine V_istore (pc2 := 36) (lv2 := [(0, _), (1, _), (2, _), (3, _), (4, _), (5, _)]) (dk D_X6_handlerOf 17 rfl) (by decide) rfl rfl ?_
      refine V_iload_n (pc2 := 37) (dk D_X6_handlerOf 18 rfl) rfl (V_lg 2 rfl) rfl ?_
      refine V_bipush (x := 14) (pc2 := 39) (dk D_X6_handlerOf 19 rfl) (by decide) rfl ?_
      refine V_cmpeq (tgt := 56) (pc2 := 42) (dk D_X6_handlerOf 20 rfl) (by decide) rfl (fun q17 => ?_) (fun q17 => ?_)
      · have h := h.1 q17
        exact h
      · have h := h.2 q17
        refine V_iload (pc2 := 44) (dk D_X6_handlerOf 21 rfl) (V_lg 5 rfl) rfl ?_
        refine V_iload_n (pc2 := 45) (dk D_X6_handlerOf 22 rfl) rfl (V_lg 2 rfl) rfl ?_
        refine V_cmpeq (tgt := 54) (pc2 := 48) (dk D_X6_handlerOf 23 rfl) (by decide) rfl (fun q18 => ?_) (fun q18 => ?_)
        · have h := h.1 q18
          exact h
        · have h := h.2 q18
          refine V_iload (pc2 := 50) (dk D_X6_handlerOf 24 rfl) (V_lg 5 rfl) rfl ?_
          refine V_iconst (x := (-1)) (pc2 := 51) (dk D_X6_handlerOf 25 rfl) (by decide) rfl ?_
          refine V_cmpne (tgt := 56) (pc2 := 54) (dk D_X6_handlerOf 26 rfl) (by decide) rfl (fun q19 => ?_) (fun q19 => ?_)
          · have h := h.1 q19
            exact h
          · have h := h.2 q19
            exact h
theorem w_X6_handlerOf_54 {X : Cx} {d : Nat} {S : Mem} {Q : Res → Mem → Prop} (r0 : Nat) (x1 : Int32) (x2 : Int32) (x3 : Int32) (x4 : Int32) (x5 : Int32) (h : Q (.inl (some (vI x3))) S) : V X d MX6_handlerOf 54 [(0, vR r0), (1, vI x1), (2, vI x2), (3, vI x3), (4, vI x4), (5, vI x5)] [] S Q := by
  refine V_iload_n (pc2 := 55) (dk D_X6_handlerOf 27 rfl) rfl (V_lg 3 rfl) rfl ?_
  exact V_ireturn (dk D_X6_handlerOf 28 rfl) rfl h
theorem w_X6_handlerOf_56 {X : Cx} {d : Nat} {S : Mem} {Q : Res → Mem → Prop} (r0 : Nat) (x1 : Int32) (x2 : Int32) (x3 : Int32) (x4 : Int32) (x5 : Int32) (h : (isK S r0 6) ∧ (isK S (gR S r0 4) 1) ∧ ∃ e2 : Nat, e2 + 1 ≤ d ∧ C X e2 MX1_argument [vR (gR S r0 4), vI (x3 + 1)] S (RI fun y5 S6 => V X d MX6_handlerOf 5 [(0, vR r0), (1, vI x1), (2, vI x2), (3, vI y5), (4, vI (x4 + 1))] [] S6 Q)) : V X d MX6_handlerOf 56 [(0, vR r0), (1, vI x1), (2, vI x2), (3, vI x3), (4, vI x4), (5, vI x5)] [] S Q := by
  refine V_aload_n (pc2 := 57) (dk D_X6_handlerOf 29 rfl) rfl (V_lg 0 rfl) rfl ?_
  obtain ⟨h1, h⟩ := h
  refine V_getR kc6 (pc2 := 60) 4 (dk D_X6_handlerOf 30 rfl) fl_6_53 (by decide) (fun _ => rfl) rfl h1 ?_
  refine V_iload_n (pc2 := 61) (dk D_X6_handlerOf 31 rfl) rfl (V_lg 3 rfl) rfl ?_
  refine V_iconst (x := 1) (pc2 := 62) (dk D_X6_handlerOf 32 rfl) (by decide) rfl ?_
  refine V_iadd (pc2 := 63) (dk D_X6_handlerOf 33 rfl) rfl ?_
  obtain ⟨h7, h⟩ := h
  obtain ⟨e2, he3, hc4⟩ := h
  refine V_callV (as := [_]) (st := []) (M' := MX1_argument) (ci := 1) (pc2 := 66) (dk D_X6_handlerOf 34 rfl) ml_6_183 mv_X1_argument rfl rfl (by decide) rfl (Nat.le_of_ble_eq_true rfl) rfl he3 h7 hc4 (RI.k fun y5 S6 h => ?_)
  refine V_istore_n (pc2 := 67) (lv2 := [(0, _), (1, _), (2, _), (3, _), (4, _), (5, _)]) (dk D_X6_handlerOf 35 rfl) rfl (by decide) rfl rfl ?_
  refine V_iinc (y := _ + 1) (pc2 := 70) (lv2 := [(0, _), (1, _), (2, _), (3, _), (4, _), (5, _)]) (dk D_X6_handlerOf 36 rfl) (V_lg 4 rfl) rfl (by decide) rfl rfl ?_
  refine V_goto (tgt := 5) (dk D_X6_handlerOf 37 rfl) (by decide) ?_
  refine V_pick [0, 1, 2, 3, 4] (lv2 := [(0, _), (1, _), (2, _), (3, _), (4, _)]) rfl ?_
  exact h
theorem w_X6_handlerOf_73 {X : Cx} {d : Nat} {S : Mem} {Q : Res → Mem → Prop} (r0 : Nat) (x1 : Int32) (x2 : Int32) (x3 : Int32) (x4 : Int32) (h : Q (.inl (some (vI x3))) S) : V X d MX6_handlerOf 73 [(0, vR r0), (1, vI x1), (2, vI x2), (3, vI x3), (4, vI x4)] [] S Q := by
  refine V_iload_n (pc2 := 74) (dk D_X6_handlerOf 38 rfl) rfl (V_lg 3 rfl) rfl ?_
  exact V_ireturn (dk D_X6_handlerOf 39 rfl) rfl h
def L_X6_unwind : List (Nat × Instr × Nat) := [(0, .aload_n 1, 1), (1, .invokevirtual 318, 3), (4, .ifCond .ne 16, 3), (7, .aload_n 1, 1), (8, .invokevirtual 330, 3), (11, .ifCond .ne 8, 3), (14, .aload_n 0, 1), (15, .aload_n 1, 1), (16, .invokevirtual 333, 3), (19, .return_, 1), (20, .aload_n 1, 1), (21, .invokevirtual 321, 3), (24, .ifCond .ne 31, 3), (27, .aload_n 1, 1), (28, .invokevirtual 312, 3), (31, .iconst 3, 1), (32, .if_icmp .ne 18, 3), (35, .aload_n 0, 1), (36, .getfield 24, 3), (39, .aload_n 0, 1), (40, .getfield 77, 3), (43, .aload_n 1, 1), (44, .invokevirtual 315, 3), (47, .invokevirtual 336, 3), (50, .aload_n 1, 1), (51, .invokevirtual 300, 3), (54, .return_, 1), (55, .aload_n 0, 1), (56, .getfield 77, 3), (59, .istore_n 2, 1), (60, .aload_n 0, 1), (61, .aload_n 1, 1), (62, .invokevirtual 324, 3), (65, .aload_n 1, 1), (66, .invokevirtual 312, 3), (69, .ifCond .ne 14, 3), (72, .aload_n 0, 1), (73, .getfield 24, 3), (76, .iload_n 2, 1), (77, .invokevirtual 339, 3), (80, .goto 5, 3), (83, .bipush 14, 2), (85, .invokevirtual 327, 3), (88, .istore_n 3, 1), (89, .aload_n 0, 1), (90, .getfield 53, 3), (93, .iload_n 3, 1), (94, .invokevirtual 178, 3), (97, .bipush 41, 2), (99, .if_icmp .ne 32, 3), (102, .aload_n 0, 1), (103, .iconst 0, 1), (104, .putfield 77, 3), (107, .aload_n 1, 1), (108, .iconst 1, 1), (109, .iload_n 2, 1), (110, .iload_n 3, 1), (111, .iconst 2, 1), (112, .iadd, 1), (113, .invokevirtual 296, 3), (116, .aload_n 1, 1), (117, .aload_n 0, 1), (118, .getfield 24, 3), (121, .iload_n 2, 1), (122, .invokevirtual 341, 3), (125, .invokevirtual 223, 3), (128, .goto 47, 3), (131, .aload_n 0, 1), (132, .getfield 53, 3), (135, .iload_n 3, 1), (136, .invokevirtual 178, 3), (139, .bipush 43, 2), (141, .if_icmp .ne 30, 3), (144, .aload_n 0, 1), (145, .iconst 0, 1), (146, .putfield 77, 3), (149, .aload_n 1, 1), (150, .dup, 1), (151, .getfield 293, 3), (154, .iconst 1, 1), (155, .iadd, 1), (156, .putfield 293, 3), (159, .aload_n 1, 1), (160, .iconst 3, 1), (161, .iload_n 2, 1), (162, .iload_n 3, 1), (163, .iconst 1, 1), (164, .iadd, 1), (165, .invokevirtual 296, 3), (168, .goto 7, 3), (171, .aload_n 1, 1), (172, .invokevirtual 300, 3), (175, .return_, 1)]
theorem D_X6_unwind : dOk cX6_unwind L_X6_unwind = true := by decide +kernel
theorem w_X6_unwind_0 {X : Cx} {d : Nat} {S : Mem} {Q : Res → Mem → Prop} (r0 : Nat) (r1 : Nat) (h : (isK S r1 10) ∧ ∃ e1 : Nat, e1 + 1 ≤ d ∧ C X e1 MX10_isGuarded [vR r1] S (RI fun y4 S5 => ((¬ y4 = 0 → (isK S5 r1 10) ∧ ∃ e8 : Nat, e8 + 1 ≤ d ∧ C X e8 MX10_isInGuarded [vR r1] S5 (RI fun y11 S12 => ((¬ y11 = 0 → (isK S12 r0 6) ∧ (isK S12 r1 10) ∧ ∃ e16 : Nat, e16 + 1 ≤ d ∧ C X e16 MX10_handlers [vR r1] S12 (RI fun y19 S20 => (isK S20 r1 10) ∧ ∃ e22 : Nat, e22 + 1 ≤ d ∧ C X e22 MX10_phase [vR r1] S20 (RI fun y25 S26 => ((¬ y25 = 0 → V X d MX6_unwind 85 [(0, vR r0), (1, vR r1), (2, vI (gI S12 r0 14))] [vI 14, vI y19, vR r0] S26 Q) ∧ (y25 = 0 → (isK S26 r0 6) ∧ (isK S26 (gR S26 r0 2) 2) ∧ ∃ e30 : Nat, e30 + 1 ≤ d ∧ C X e30 MX2_number [vR (gR S26 r0 2), vI (gI S12 r0 14)] S26 (RI fun y33 S34 => V X d MX6_unwind 85 [(0, vR r0), (1, vR r1), (2, vI (gI S12 r0 14))] [vI y33, vI y19, vR r0] S34 Q)))))) ∧ (y11 = 0 → (isK S12 r1 10) ∧ ∃ e36 : Nat, e36 + 1 ≤ d ∧ C X e36 MX10_phase [vR r1] S12 (RI fun y39 S40 => ((¬ y39 = 3 → V X d MX6_unwind 50 [(0, vR r0), (1, vR r1)] [] S40 Q) ∧ (y39 = 3 → (isK S40 r0 6) ∧ (isK S40 r1 10) ∧ ∃ e44 : Nat, e44 + 1 ≤ d ∧ C X e44 MX10_keptByGuard [vR r1] S40 (RI fun y47 S48 => (isK S48 (gR S40 r0 2) 2) ∧ ∃ e50 : Nat, e50 + 1 ≤ d ∧ C X e50 MX2_putBeneath [vR (gR S40 r0 2), vI (gI S40 r0 14), vI y47] S48 (RV fun  S53 => V X d MX6_unwind 50 [(0, vR r0), (1, vR r1)] [] S53 Q))))))))) ∧ (y4 = 0 → (isK S5 r1 10) ∧ ∃ e55 : Nat, e55 + 1 ≤ d ∧ C X e55 MX10_leave [vR r1] S5 (RI fun y58 S59 => ((¬ y58 = 0 → V X d MX6_unwind 19 [(0, vR r0), (1, vR r1)] [] S59 Q) ∧ (y58 = 0 → (isK S59 r0 6) ∧ ∃ e62 : Nat, e62 + 1 ≤ d ∧ C X e62 MX6_leaveVoice [vR r0, vR r1] S59 (RV fun  S65 => V X d MX6_unwind 19 [(0, vR r0), (1, vR r1)] [] S65 Q)))))))) : V X d MX6_unwind 0 [(0, vR r0), (1, vR r1)] [] S Q := by
  refine V_aload_n (pc2 := 1) (dk D_X6_unwind 0 rfl) rfl (V_lg 1 rfl) rfl ?_
  obtain ⟨h6, h⟩ := h
  obtain ⟨e1, he2, hc3⟩ := h
  refine V_callV (as := []) (st := []) (M' := MX10_isGuarded) (ci := 10) (pc2 := 4) (dk D_X6_unwind 1 rfl) ml_6_318 mv_X10_isGuarded rfl rfl (by decide) rfl (Nat.le_of_ble_eq_true rfl) rfl he2 h6 hc3 (RI.k fun y4 S5 h => ?_)
  refine V_ifne (tgt := 20) (pc2 := 7) (dk D_X6_unwind 2 rfl) (by decide) rfl (fun q7 => ?_) (fun q7 => ?_)
  · have h := h.1 q7
    refine V_aload_n (pc2 := 21) (dk D_X6_unwind 10 rfl) rfl (V_lg 1 rfl) rfl ?_
    obtain ⟨h13, h⟩ := h
    obtain ⟨e8, he9, hc10⟩ := h
    refine V_callV (as := []) (st := []) (M' := MX10_isInGuarded) (ci := 10) (pc2 := 24) (dk D_X6_unwind 11 rfl) ml_6_321 mv_X10_isInGuarded rfl rfl (by decide) rfl (Nat.le_of_ble_eq_true rfl) rfl he9 h13 hc10 (RI.k fun y11 S12 h => ?_)
    refine V_ifne (tgt := 55) (pc2 := 27) (dk D_X6_unwind 12 rfl) (by decide) rfl (fun q14 => ?_) (fun q14 => ?_)
    · have h := h.1 q14
      refine V_aload_n (pc2 := 56) (dk D_X6_unwind 27 rfl) rfl (V_lg 0 rfl) rfl ?_
      obtain ⟨h15, h⟩ := h
      refine V_getI kc6 (pc2 := 59) 14 (dk D_X6_unwind 28 rfl) fl_6_77 (by decide) (fun _ => rfl) rfl h15 ?_
      refine V_istore_n (pc2 := 60) (lv2 := [(0, _), (1, _), (2, _)]) (dk D_X6_unwind 29 rfl) rfl (by decide) rfl rfl ?_
      refine V_aload_n (pc2 := 61) (dk D_X6_unwind 30 rfl) rfl (V_lg 0 rfl) rfl ?_
      refine V_aload_n (pc2 := 62) (dk D_X6_unwind 31 rfl) rfl (V_lg 1 rfl) rfl ?_
      obtain ⟨h21, h⟩ := h
      obtain ⟨e16, he17, hc18⟩ := h
      refine V_callV (as := []) (st := [_]) (M' := MX10_handlers) (ci := 10) (pc2 := 65) (dk D_X6_unwind 32 rfl) ml_6_324 mv_X10_handlers rfl rfl (by decide) rfl (Nat.le_of_ble_eq_true rfl) rfl he17 h21 hc18 (RI.k fun y19 S20 h => ?_)
      refine V_aload_n (pc2 := 66) (dk D_X6_unwind 33 rfl) rfl (V_lg 1 rfl) rfl ?_
      obtain ⟨h27, h⟩ := h
      obtain ⟨e22, he23, hc24⟩ := h
      refine V_callV (as := []) (st := [_, _]) (M' := MX10_phase) (ci := 10) (pc2 := 69) (dk D_X6_unwind 34 rfl) ml_6_312 mv_X10_phase rfl rfl (by decide) rfl (Nat.le_of_ble_eq_true rfl) rfl he23 h27 hc24 (RI.k fun y25 S26 h => ?_)
      refine V_ifne (tgt := 83) (pc2 := 72) (dk D_X6_unwind 35 rfl) (by decide) rfl (fun q28 => ?_) (fun q28 => ?_)
      · have h := h.1 q28
        refine V_bipush (x := 14) (pc2 := 85) (dk D_X6_unwind 41 rfl) (by decide) rfl ?_
        exact h
      · have h := h.2 q28
        refine V_aload_n (pc2 := 73) (dk D_X6_unwind 36 rfl) rfl (V_lg 0 rfl) rfl ?_
        obtain ⟨h29, h⟩ := h
        refine V_getR kc6 (pc2 := 76) 2 (dk D_X6_unwind 37 rfl) fl_6_24 (by decide) (fun _ => rfl) rfl h29 ?_
        refine V_iload_n (pc2 := 77) (dk D_X6_unwind 38 rfl) rfl (V_lg 2 rfl) rfl ?_
        obtain ⟨h35, h⟩ := h
        obtain ⟨e30, he31, hc32⟩ := h
        refine V_callV (as := [_]) (st := [_, _]) (M' := MX2_number) (ci := 2) (pc2 := 80) (dk D_X6_unwind 39 rfl) ml_6_339 mv_X2_number rfl rfl (by decide) rfl (Nat.le_of_ble_eq_true rfl) rfl he31 h35 hc32 (RI.k fun y33 S34 h => ?_)
        refine V_goto (tgt := 85) (dk D_X6_unwind 40 rfl) (by decide) ?_
        exact h
    · have h := h.2 q14
      refine V_aload_n (pc2 := 28) (dk D_X6_unwind 13 rfl) rfl (V_lg 1 rfl) rfl ?_
      obtain ⟨h41, h⟩ := h
      obtain ⟨e36, he37, hc38⟩ := h
      refine V_callV (as := []) (st := []) (M' := MX10_phase) (ci := 10) (pc2 := 31) (dk D_X6_unwind 14 rfl) ml_6_312 mv_X10_phase rfl rfl (by decide) rfl (Nat.le_of_ble_eq_true rfl) rfl he37 h41 hc38 (RI.k fun y39 S40 h => ?_)
      refine V_iconst (x := 3) (pc2 := 32) (dk D_X6_unwind 15 rfl) (by decide) rfl ?_
      refine V_cmpne (tgt := 50) (pc2 := 35) (dk D_X6_unwind 16 rfl) (by decide) rfl (fun q42 => ?_) (fun q42 => ?_)
      · have h := h.1 q42
        exact h
      · have h := h.2 q42
        refine V_aload_n (pc2 := 36) (dk D_X6_unwind 17 rfl) rfl (V_lg 0 rfl) rfl ?_
        obtain ⟨h43, h⟩ := h
        refine V_getR kc6 (pc2 := 39) 2 (dk D_X6_unwind 18 rfl) fl_6_24 (by decide) (fun _ => rfl) rfl h43 ?_
        refine V_aload_n (pc2 := 40) (dk D_X6_unwind 19 rfl) rfl (V_lg 0 rfl) rfl ?_
        refine V_getI kc6 (pc2 := 43) 14 (dk D_X6_unwind 20 rfl) fl_6_77 (by decide) (fun _ => rfl) rfl h43 ?_
        refine V_aload_n (pc2 := 44) (dk D_X6_unwind 21 rfl) rfl (V_lg 1 rfl) rfl ?_
        obtain ⟨h49, h⟩ := h
        obtain ⟨e44, he45, hc46⟩ := h
        refine V_callV (as := []) (st := [_, _]) (M' := MX10_keptByGuard) (ci := 10) (pc2 := 47) (dk D_X6_unwind 22 rfl) ml_6_315 mv_X10_keptByGuard rfl rfl (by decide) rfl (Nat.le_of_ble_eq_true rfl) rfl he45 h49 hc46 (RI.k fun y47 S48 h => ?_)
        obtain ⟨h54, h⟩ := h
        obtain ⟨e50, he51, hc52⟩ := h
        refine V_callV (as := [_, _]) (st := []) (M' := MX2_putBeneath) (ci := 2) (pc2 := 50) (dk D_X6_unwind 23 rfl) ml_6_336 mv_X2_putBeneath rfl rfl (by decide) rfl (Nat.le_of_ble_eq_true rfl) rfl he51 h54 hc52 (RV.k fun  S53 h => ?_)
        exact h
  · have h := h.2 q7
    refine V_aload_n (pc2 := 8) (dk D_X6_unwind 3 rfl) rfl (V_lg 1 rfl) rfl ?_
    obtain ⟨h60, h⟩ := h
    obtain ⟨e55, he56, hc57⟩ := h
    refine V_callV (as := []) (st := []) (M' := MX10_leave) (ci := 10) (pc2 := 11) (dk D_X6_unwind 4 rfl) ml_6_330 mv_X10_leave rfl rfl (by decide) rfl (Nat.le_of_ble_eq_true rfl) rfl he56 h60 hc57 (RI.k fun y58 S59 h => ?_)
    refine V_ifne (tgt := 19) (pc2 := 14) (dk D_X6_unwind 5 rfl) (by decide) rfl (fun q61 => ?_) (fun q61 => ?_)
    · have h := h.1 q61
      exact h
    · have h := h.2 q61
      refine V_aload_n (pc2 := 15) (dk D_X6_unwind 6 rfl) rfl (V_lg 0 rfl) rfl ?_
      refine V_aload_n (pc2 := 16) (dk D_X6_unwind 7 rfl) rfl (V_lg 1 rfl) rfl ?_
      obtain ⟨h66, h⟩ := h
      obtain ⟨e62, he63, hc64⟩ := h
      refine V_callV (as := [_]) (st := []) (M' := MX6_leaveVoice) (ci := 6) (pc2 := 19) (dk D_X6_unwind 8 rfl) ml_6_333 mv_X6_leaveVoice rfl rfl (by decide) rfl (Nat.le_of_ble_eq_true rfl) rfl he63 h66 hc64 (RV.k fun  S65 h => ?_)
      exact h
theorem w_X6_unwind_19 {X : Cx} {d : Nat} {S : Mem} {Q : Res → Mem → Prop} (r0 : Nat) (r1 : Nat) (h : Q (.inl none) S) : V X d MX6_unwind 19 [(0, vR r0), (1, vR r1)] [] S Q := by
  exact V_return (dk D_X6_unwind 9 rfl) rfl h
theorem w_X6_unwind_50 {X : Cx} {d : Nat} {S : Mem} {Q : Res → Mem → Prop} (r0 : Nat) (r1 : Nat) (h : (isK S r1 10) ∧ ∃ e1 : Nat, e1 + 1 ≤ d ∧ C X e1 MX10_closeGuard [vR r1] S (RV fun  S4 => Q (.inl none) S4)) : V X d MX6_unwind 50 [(0, vR r0), (1, vR r1)] [] S Q := by
  refine V_aload_n (pc2 := 51) (dk D_X6_unwind 24 rfl) rfl (V_lg 1 rfl) rfl ?_
  obtain ⟨h5, h⟩ := h
  obtain ⟨e1, he2, hc3⟩ := h
  refine V_callV (as := []) (st := []) (M' := MX10_closeGuard) (ci := 10) (pc2 := 54) (dk D_X6_unwind 25 rfl) ml_6_300 mv_X10_closeGuard rfl rfl (by decide) rfl (Nat.le_of_ble_eq_true rfl) rfl he2 h5 hc3 (RV.k fun  S4 h => ?_)
  exact V_return (dk D_X6_unwind 26 rfl) rfl h
theorem w_X6_unwind_85 {X : Cx} {d : Nat} {S : Mem} {Q : Res → Mem → Prop} (r0 : Nat) (r1 : Nat) (x2 : Int32) (t0 : Nat) (t1 : Int32) (t2 : Int32) (h : (isK S t0 6) ∧ ∃ e1 : Nat, e1 + 1 ≤ d ∧ C X e1 MX6_handlerOf [vR t0, vI t1, vI t2] S (RI fun y4 S5 => (isK S5 r0 6) ∧ (isK S5 (gR S5 r0 4) 1) ∧ ∃ e8 : Nat, e8 + 1 ≤ d ∧ C X e8 MX1_act [vR (gR S5 r0 4), vI y4] S5 (RI fun y11 S12 => ((¬ y11 = 41 → (isK S12 r0 6) ∧ (isK S12 (gR S12 r0 4) 1) ∧ ∃ e16 : Nat, e16 + 1 ≤ d ∧ C X e16 MX1_act [vR (gR S12 r0 4), vI y4] S12 (RI fun y19 S20 => ((¬ y19 = 43 → (isK S20 r1 10) ∧ ∃ e23 : Nat, e23 + 1 ≤ d ∧ C X e23 MX10_closeGuard [vR r1] S20 (RV fun  S26 => V X d MX6_unwind 175 [(0, vR r0), (1, vR r1), (2, vI x2), (3, vI y4)] [] S26 Q)) ∧ (y19 = 43 → (isK S20 r0 6) ∧ ∀ S29 : Mem, S29 = uI S20 r0 14 0 → (isK S20 r1 10) ∧ ∀ S31 : Mem, S31 = uI S29 r1 7 ((gI S29 r1 7) + 1) → ∃ e32 : Nat, e32 + 1 ≤ d ∧ C X e32 MX10_turnGuard [vR r1, vI 3, vI x2, vI (y4 + 1)] S31 (RV fun  S35 => V X d MX6_unwind 175 [(0, vR r0), (1, vR r1), (2, vI x2), (3, vI y4)] [] S35 Q))))) ∧ (y11 = 41 → (isK S12 r0 6) ∧ ∀ S37 : Mem, S37 = uI S12 r0 14 0 → (isK S12 r1 10) ∧ ∃ e38 : Nat, e38 + 1 ≤ d ∧ C X e38 MX10_turnGuard [vR r1, vI 1, vI x2, vI (y4 + 2)] S37 (RV fun  S41 => (isK S41 r0 6) ∧ (isK S41 (gR S41 r0 2) 2) ∧ ∃ e44 : Nat, e44 + 1 ≤ d ∧ C X e44 MX2_value [vR (gR S41 r0 2), vI x2] S41 (RI fun y47 S48 => (isK S48 r1 10) ∧ ∃ e50 : Nat, e50 + 1 ≤ d ∧ C X e50 MX10_push [vR r1, vI y47] S48 (RV fun  S53 => V X d MX6_unwind 175 [(0, vR r0), (1, vR r1), (2, vI x2), (3, vI y4)] [] S53 Q)))))))) : V X d MX6_unwind 85 [(0, vR r0), (1, vR r1), (2, vI x2)] [vI t2, vI t1, vR t0] S Q := by
  obtain ⟨h6, h⟩ := h
  obtain ⟨e1, he2, hc3⟩ := h
  refine V_callV (as := [_, _]) (st := []) (M' := MX6_handlerOf) (ci := 6) (pc2 := 88) (dk D_X6_unwind 42 rfl) ml_6_327 mv_X6_handlerOf rfl rfl (by decide) rfl (Nat.le_of_ble_eq_true rfl) rfl he2 h6 hc3 (RI.k fun y4 S5 h => ?_)
  refine V_istore_n (pc2 := 89) (lv2 := [(0, _), (1, _), (2, _), (3, _)]) (dk D_X6_unwind 43 rfl) rfl (by decide) rfl rfl ?_
  refine V_aload_n (pc2 := 90) (dk D_X6_unwind 44 rfl) rfl (V_lg 0 rfl) rfl ?_
  obtain ⟨h7, h⟩ := h
  refine V_getR kc6 (pc2 := 93) 4 (dk D_X6_unwind 45 rfl) fl_6_53 (by decide) (fun _ => rfl) rfl h7 ?_
  refine V_iload_n (pc2 := 94) (dk D_X6_unwind 46 rfl) rfl (V_lg 3 rfl) rfl ?_
  obtain ⟨h13, h⟩ := h
  obtain ⟨e8, he9, hc10⟩ := h
  refine V_callV (as := [_]) (st := []) (M' := MX1_act) (ci := 1) (pc2 := 97) (dk D_X6_unwind 47 rfl) ml_6_178 mv_X1_act rfl rfl (by decide) rfl (Nat.le_of_ble_eq_true rfl) rfl he9 h13 hc10 (RI.k fun y11 S12 h => ?_)
  refine V_bipush (x := 41) (pc2 := 99) (dk D_X6_unwind 48 rfl) (by decide) rfl ?_
  refine V_cmpne (tgt := 131) (pc2 := 102) (dk D_X6_unwind 49 rfl) (by decide) rfl (fun q14 => ?_) (fun q14 => ?_)
  · have h := h.1 q14
    refine V_aload_n (pc2 := 132) (dk D_X6_unwind 67 rfl) rfl (V_lg 0 rfl) rfl ?_
    obtain ⟨h15, h⟩ := h
    refine V_getR kc6 (pc2 := 135) 4 (dk D_X6_unwind 68 rfl) fl_6_53 (by decide) (fun _ => rfl) rfl h15 ?_
    refine V_iload_n (pc2 := 136) (dk D_X6_unwind 69 rfl) rfl (V_lg 3 rfl) rfl ?_
    obtain ⟨h21, h⟩ := h
    obtain ⟨e16, he17, hc18⟩ := h
    refine V_callV (as := [_]) (st := []) (M' := MX1_act) (ci := 1) (pc2 := 139) (dk D_X6_unwind 70 rfl) ml_6_178 mv_X1_act rfl rfl (by decide) rfl (Nat.le_of_ble_eq_true rfl) rfl he17 h21 hc18 (RI.k fun y19 S20 h => ?_)
    refine V_bipush (x := 43) (pc2 := 141) (dk D_X6_unwind 71 rfl) (by decide) rfl ?_
    refine V_cmpne (tgt := 171) (pc2 := 144) (dk D_X6_unwind 72 rfl) (by decide) rfl (fun q22 => ?_) (fun q22 => ?_)
    · have h := h.1 q22
      refine V_aload_n (pc2 := 172) (dk D_X6_unwind 90 rfl) rfl (V_lg 1 rfl) rfl ?_
      obtain ⟨h27, h⟩ := h
      obtain ⟨e23, he24, hc25⟩ := h
      refine V_callV (as := []) (st := []) (M' := MX10_closeGuard) (ci := 10) (pc2 := 175) (dk D_X6_unwind 91 rfl) ml_6_300 mv_X10_closeGuard rfl rfl (by decide) rfl (Nat.le_of_ble_eq_true rfl) rfl he24 h27 hc25 (RV.k fun  S26 h => ?_)
      exact h
    · have h := h.2 q22
      refine V_aload_n (pc2 := 145) (dk D_X6_unwind 73 rfl) rfl (V_lg 0 rfl) rfl ?_
      refine V_iconst (x := 0) (pc2 := 146) (dk D_X6_unwind 74 rfl) (by decide) rfl ?_
      obtain ⟨h28, h⟩ := h
      refine V_putI kc6 (pc2 := 149) 14 (dk D_X6_unwind 75 rfl) fl_6_77 (by decide) (Or.inl rfl) rfl rfl h28 ?_
      have h := h _ rfl
      refine V_aload_n (pc2 := 150) (dk D_X6_unwind 76 rfl) rfl (V_lg 1 rfl) rfl ?_
      refine V_dup (pc2 := 151) (dk D_X6_unwind 77 rfl) rfl rfl ?_
      obtain ⟨h30, h⟩ := h
      refine V_getI kc10 (pc2 := 154) 7 (dk D_X6_unwind 78 rfl) fl_6_293 (by decide) (fun _ => rfl) rfl h30 ?_
      refine V_iconst (x := 1) (pc2 := 155) (dk D_X6_unwind 79 rfl) (by decide) rfl ?_
      refine V_iadd (pc2 := 156) (dk D_X6_unwind 80 rfl) rfl ?_
      refine V_putI kc10 (pc2 := 159) 7 (dk D_X6_unwind 81 rfl) fl_6_293 (by decide) (Or.inl rfl) rfl rfl h30 ?_
      have h := h _ rfl
      refine V_aload_n (pc2 := 160) (dk D_X6_unwind 82 rfl) rfl (V_lg 1 rfl) rfl ?_
      refine V_iconst (x := 3) (pc2 := 161) (dk D_X6_unwind 83 rfl) (by decide) rfl ?_
      refine V_iload_n (pc2 := 162) (dk D_X6_unwind 84 rfl) rfl (V_lg 2 rfl) rfl ?_
      refine V_iload_n (pc2 := 163) (dk D_X6_unwind 85 rfl) rfl (V_lg 3 rfl) rfl ?_
      refine V_iconst (x := 1) (pc2 := 164) (dk D_X6_unwind 86 rfl) (by decide) rfl ?_
      refine V_iadd (pc2 := 165) (dk D_X6_unwind 87 rfl) rfl ?_
      obtain ⟨e32, he33, hc34⟩ := h
      refine V_callV (as := [_, _, _]) (st := []) (M' := MX10_turnGuard) (ci := 10) (pc2 := 168) (dk D_X6_unwind 88 rfl) ml_6_296 mv_X10_turnGuard rfl rfl (by decide) rfl (Nat.le_of_ble_eq_true rfl) rfl he33 h30 hc34 (RV.k fun  S35 h => ?_)
      refine V_goto (tgt := 175) (dk D_X6_unwind 89 rfl) (by decide) ?_
      exact h
  · have h := h.2 q14
    refine V_aload_n (pc2 := 103) (dk D_X6_unwind 50 rfl) rfl (V_lg 0 rfl) rfl ?_
    refine V_iconst (x := 0) (pc2 := 104) (dk D_X6_unwind 51 rfl) (by decide) rfl ?_
    obtain ⟨h36, h⟩ := h
    refine V_putI kc6 (pc2 := 107) 14 (dk D_X6_unwind 52 rfl) fl_6_77 (by decide) (Or.inl rfl) rfl rfl h36 ?_
    have h := h _ rfl
    refine V_aload_n (pc2 := 108) (dk D_X6_unwind 53 rfl) rfl (V_lg 1 rfl) rfl ?_
    refine V_iconst (x := 1) (pc2 := 109) (dk D_X6_unwind 54 rfl) (by decide) rfl ?_
    refine V_iload_n (pc2 := 110) (dk D_X6_unwind 55 rfl) rfl (V_lg 2 rfl) rfl ?_
    refine V_iload_n (pc2 := 111) (dk D_X6_unwind 56 rfl) rfl (V_lg 3 rfl) rfl ?_
    refine V_iconst (x := 2) (pc2 := 112) (dk D_X6_unwind 57 rfl) (by decide) rfl ?_
    refine V_iadd (pc2 := 113) (dk D_X6_unwind 58 rfl) rfl ?_
    obtain ⟨h42, h⟩ := h
    obtain ⟨e38, he39, hc40⟩ := h
    refine V_callV (as := [_, _, _]) (st := []) (M' := MX10_turnGuard) (ci := 10) (pc2 := 116) (dk D_X6_unwind 59 rfl) ml_6_296 mv_X10_turnGuard rfl rfl (by decide) rfl (Nat.le_of_ble_eq_true rfl) rfl he39 h42 hc40 (RV.k fun  S41 h => ?_)
    refine V_aload_n (pc2 := 117) (dk D_X6_unwind 60 rfl) rfl (V_lg 1 rfl) rfl ?_
    refine V_aload_n (pc2 := 118) (dk D_X6_unwind 61 rfl) rfl (V_lg 0 rfl) rfl ?_
    obtain ⟨h43, h⟩ := h
    refine V_getR kc6 (pc2 := 121) 2 (dk D_X6_unwind 62 rfl) fl_6_24 (by decide) (fun _ => rfl) rfl h43 ?_
    refine V_iload_n (pc2 := 122) (dk D_X6_unwind 63 rfl) rfl (V_lg 2 rfl) rfl ?_
    obtain ⟨h49, h⟩ := h
    obtain ⟨e44, he45, hc46⟩ := h
    refine V_callV (as := [_]) (st := [_]) (M' := MX2_value) (ci := 2) (pc2 := 125) (dk D_X6_unwind 64 rfl) ml_6_341 mv_X2_value rfl rfl (by decide) rfl (Nat.le_of_ble_eq_true rfl) rfl he45 h49 hc46 (RI.k fun y47 S48 h => ?_)
    obtain ⟨h54, h⟩ := h
    obtain ⟨e50, he51, hc52⟩ := h
    refine V_callV (as := [_]) (st := []) (M' := MX10_push) (ci := 10) (pc2 := 128) (dk D_X6_unwind 65 rfl) ml_6_223 mv_X10_push rfl rfl (by decide) rfl (Nat.le_of_ble_eq_true rfl) rfl he51 h54 hc52 (RV.k fun  S53 h => ?_)
    refine V_goto (tgt := 175) (dk D_X6_unwind 66 rfl) (by decide) ?_
    exact h
theorem w_X6_unwind_175 {X : Cx} {d : Nat} {S : Mem} {Q : Res → Mem → Prop} (r0 : Nat) (r1 : Nat) (x2 : Int32) (x3 : Int32) (h : Q (.inl none) S) : V X d MX6_unwind 175 [(0, vR r0), (1, vR r1), (2, vI x2), (3, vI x3)] [] S Q := by
  exact V_return (dk D_X6_unwind 92 rfl) rfl h
def L_X6_leaveVoice : List (Nat × Instr × Nat) := [(0, .aload_n 1, 1), (1, .getfield 134, 3), (4, .ifCond .eq 23, 3), (7, .aload_n 0, 1), (8, .getfield 24, 3), (11, .aload_n 0, 1), (12, .getfield 77, 3), (15, .invokevirtual 339, 3), (18, .bipush 14, 2), (20, .if_icmp .ne 7, 3), (23, .iconst 1, 1), (24, .goto 4, 3), (27, .iconst 0, 1), (28, .istore_n 2, 1), (29, .aload_n 0, 1), (30, .aload_n 1, 1), (31, .iload_n 2, 1), (32, .ifCond .eq 8, 3), (35, .bipush 6, 2), (37, .goto 4, 3), (40, .iconst 5, 1), (41, .invokevirtual 113, 3), (44, .iload_n 2, 1), (45, .ifCond .eq 16, 3), (48, .aload_n 0, 1), (49, .iconst 0, 1), (50, .putfield 77, 3), (53, .aload_n 0, 1), (54, .aload_n 1, 1), (55, .iconst 0, 1), (56, .iconst 1, 1), (57, .invokevirtual 267, 3), (60, .return_, 1), (61, .aload_n 0, 1), (62, .getfield 18, 3), (65, .aload_n 1, 1), (66, .getfield 198, 3), (69, .aload_n 1, 1), (70, .getfield 116, 3), (73, .invokevirtual 215, 3), (76, .aload_n 0, 1), (77, .aload_n 1, 1), (78, .getfield 116, 3), (81, .putfield 74, 3), (84, .aload_n 0, 1), (85, .aload_n 0, 1), (86, .getfield 74, 3), (89, .invokevirtual 106, 3), (92, .astore_n 3, 1), (93, .aload_n 3, 1), (94, .ifnonnull 10, 3), (97, .aload_n 0, 1), (98, .invokevirtual 287, 3), (101, .goto 8, 3), (104, .aload_n 3, 1), (105, .iconst 2, 1), (106, .putfield 131, 3), (109, .return_, 1)]
theorem D_X6_leaveVoice : dOk cX6_leaveVoice L_X6_leaveVoice = true := by decide +kernel
theorem w_X6_leaveVoice_0 {X : Cx} {d : Nat} {S : Mem} {Q : Res → Mem → Prop} (r0 : Nat) (r1 : Nat) (h : (isK S r1 10) ∧ (((gI S r1 11) = 0 → V X d MX6_leaveVoice 27 [(0, vR r0), (1, vR r1)] [] S Q) ∧ (¬ (gI S r1 11) = 0 → (isK S r0 6) ∧ (isK S (gR S r0 2) 2) ∧ ∃ e4 : Nat, e4 + 1 ≤ d ∧ C X e4 MX2_number [vR (gR S r0 2), vI (gI S r0 14)] S (RI fun y7 S8 => ((¬ y7 = 14 → V X d MX6_leaveVoice 27 [(0, vR r0), (1, vR r1)] [] S8 Q) ∧ (y7 = 14 → V X d MX6_leaveVoice 28 [(0, vR r0), (1, vR r1)] [vI 1] S8 Q)))))) : V X d MX6_leaveVoice 0 [(0, vR r0), (1, vR r1)] [] S Q := by
  refine V_aload_n (pc2 := 1) (dk D_X6_leaveVoice 0 rfl) rfl (V_lg 1 rfl) rfl ?_
  obtain ⟨h1, h⟩ := h
  refine V_getI kc10 (pc2 := 4) 11 (dk D_X6_leaveVoice 1 rfl) fl_6_134 (by decide) (fun _ => rfl) rfl h1 ?_
  refine V_ifeq (tgt := 27) (pc2 := 7) (dk D_X6_leaveVoice 2 rfl) (by decide) rfl (fun q2 => ?_) (fun q2 => ?_)
  · have h := h.1 q2
    exact h
  · have h := h.2 q2
    refine V_aload_n (pc2 := 8) (dk D_X6_leaveVoice 3 rfl) rfl (V_lg 0 rfl) rfl ?_
    obtain ⟨h3, h⟩ := h
    refine V_getR kc6 (pc2 := 11) 2 (dk D_X6_leaveVoice 4 rfl) fl_6_24 (by decide) (fun _ => rfl) rfl h3 ?_
    refine V_aload_n (pc2 := 12) (dk D_X6_leaveVoice 5 rfl) rfl (V_lg 0 rfl) rfl ?_
    refine V_getI kc6 (pc2 := 15) 14 (dk D_X6_leaveVoice 6 rfl) fl_6_77 (by decide) (fun _ => rfl) rfl h3 ?_
    obtain ⟨h9, h⟩ := h
    obtain ⟨e4, he5, hc6⟩ := h
    refine V_callV (as := [_]) (st := []) (M' := MX2_number) (ci := 2) (pc2 := 18) (dk D_X6_leaveVoice 7 rfl) ml_6_339 mv_X2_number rfl rfl (by decide) rfl (Nat.le_of_ble_eq_true rfl) rfl he5 h9 hc6 (RI.k fun y7 S8 h => ?_)
    refine V_bipush (x := 14) (pc2 := 20) (dk D_X6_leaveVoice 8 rfl) (by decide) rfl ?_
    refine V_cmpne (tgt := 27) (pc2 := 23) (dk D_X6_leaveVoice 9 rfl) (by decide) rfl (fun q10 => ?_) (fun q10 => ?_)
    · have h := h.1 q10
      exact h
    · have h := h.2 q10
      refine V_iconst (x := 1) (pc2 := 24) (dk D_X6_leaveVoice 10 rfl) (by decide) rfl ?_
      refine V_goto (tgt := 28) (dk D_X6_leaveVoice 11 rfl) (by decide) ?_
      exact h
theorem w_X6_leaveVoice_27 {X : Cx} {d : Nat} {S : Mem} {Q : Res → Mem → Prop} (r0 : Nat) (r1 : Nat) (h : V X d MX6_leaveVoice 28 [(0, vR r0), (1, vR r1)] [vI 0] S Q) : V X d MX6_leaveVoice 27 [(0, vR r0), (1, vR r1)] [] S Q := by
  refine V_iconst (x := 0) (pc2 := 28) (dk D_X6_leaveVoice 12 rfl) (by decide) rfl ?_
  exact h
theorem w_X6_leaveVoice_28 {X : Cx} {d : Nat} {S : Mem} {Q : Res → Mem → Prop} (r0 : Nat) (r1 : Nat) (t0 : Int32) (h : ((t0 = 0 → V X d MX6_leaveVoice 41 [(0, vR r0), (1, vR r1), (2, vI t0)] [vI 5, vR r1, vR r0] S Q) ∧ (¬ t0 = 0 → V X d MX6_leaveVoice 41 [(0, vR r0), (1, vR r1), (2, vI t0)] [vI 6, vR r1, vR r0] S Q))) : V X d MX6_leaveVoice 28 [(0, vR r0), (1, vR r1)] [vI t0] S Q := by
  refine V_istore_n (pc2 := 29) (lv2 := [(0, _), (1, _), (2, _)]) (dk D_X6_leaveVoice 13 rfl) rfl (by decide) rfl rfl ?_
  refine V_aload_n (pc2 := 30) (dk D_X6_leaveVoice 14 rfl) rfl (V_lg 0 rfl) rfl ?_
  refine V_aload_n (pc2 := 31) (dk D_X6_leaveVoice 15 rfl) rfl (V_lg 1 rfl) rfl ?_
  refine V_iload_n (pc2 := 32) (dk D_X6_leaveVoice 16 rfl) rfl (V_lg 2 rfl) rfl ?_
  refine V_ifeq (tgt := 40) (pc2 := 35) (dk D_X6_leaveVoice 17 rfl) (by decide) rfl (fun q1 => ?_) (fun q1 => ?_)
  · have h := h.1 q1
    refine V_iconst (x := 5) (pc2 := 41) (dk D_X6_leaveVoice 20 rfl) (by decide) rfl ?_
    exact h
  · have h := h.2 q1
    refine V_bipush (x := 6) (pc2 := 37) (dk D_X6_leaveVoice 18 rfl) (by decide) rfl ?_
    refine V_goto (tgt := 41) (dk D_X6_leaveVoice 19 rfl) (by decide) ?_
    exact h
theorem w_X6_leaveVoice_41 {X : Cx} {d : Nat} {S : Mem} {Q : Res → Mem → Prop} (r0 : Nat) (r1 : Nat) (x2 : Int32) (t0 : Nat) (t1 : Nat) (t2 : Int32) (h : (isK S t0 6) ∧ ∃ e1 : Nat, e1 + 1 ≤ d ∧ C X e1 MX6_end [vR t0, vR t1, vI t2] S (RV fun  S4 => ((x2 = 0 → (isK S4 r0 6) ∧ (isK S4 r1 10) ∧ (isK S4 (gR S4 r0 1) 4) ∧ ∃ e9 : Nat, e9 + 1 ≤ d ∧ C X e9 MX4_add [vR (gR S4 r0 1), vI (gI S4 r1 0), vI (gI S4 r1 5)] S4 (RV fun  S12 => (isK S12 r1 10) ∧ (isK S12 r0 6) ∧ ∀ S16 : Mem, S16 = uI S12 r0 13 (gI S12 r1 5) → ∃ e17 : Nat, e17 + 1 ≤ d ∧ C X e17 MX6_find [vR r0, vI (gI S16 r0 13)] S16 (RR fun p20 S21 => ((¬ p20 = 0 → (isK S21 p20 10) ∧ ∀ S24 : Mem, S24 = uI S21 p20 1 2 → V X d MX6_leaveVoice 109 [(0, vR r0), (1, vR r1), (2, vI x2), (3, vR p20)] [] S24 Q) ∧ (p20 = 0 → (isK S21 r0 6) ∧ ∃ e25 : Nat, e25 + 1 ≤ d ∧ C X e25 MX6_comeOut [vR r0] S21 (RV fun  S28 => V X d MX6_leaveVoice 109 [(0, vR r0), (1, vR r1), (2, vI x2), (3, vR p20)] [] S28 Q)))))) ∧ (¬ x2 = 0 → (isK S4 r0 6) ∧ ∀ S31 : Mem, S31 = uI S4 r0 14 0 → ∃ e32 : Nat, e32 + 1 ≤ d ∧ C X e32 MX6_goBack [vR r0, vR r1, vI 0, vI 1] S31 (RV fun  S35 => Q (.inl none) S35))))) : V X d MX6_leaveVoice 41 [(0, vR r0), (1, vR r1), (2, vI x2)] [vI t2, vR t1, vR t0] S Q := by
  obtain ⟨h5, h⟩ := h
  obtain ⟨e1, he2, hc3⟩ := h
  refine V_callV (as := [_, _]) (st := []) (M' := MX6_end) (ci := 6) (pc2 := 44) (dk D_X6_leaveVoice 21 rfl) ml_6_113 mv_X6_end rfl rfl (by decide) rfl (Nat.le_of_ble_eq_true rfl) rfl he2 h5 hc3 (RV.k fun  S4 h => ?_)
  refine V_iload_n (pc2 := 45) (dk D_X6_leaveVoice 22 rfl) rfl (V_lg 2 rfl) rfl ?_
  refine V_ifeq (tgt := 61) (pc2 := 48) (dk D_X6_leaveVoice 23 rfl) (by decide) rfl (fun q6 => ?_) (fun q6 => ?_)
  · have h := h.1 q6
    refine V_aload_n (pc2 := 62) (dk D_X6_leaveVoice 33 rfl) rfl (V_lg 0 rfl) rfl ?_
    obtain ⟨h7, h⟩ := h
    refine V_getR kc6 (pc2 := 65) 1 (dk D_X6_leaveVoice 34 rfl) fl_6_18 (by decide) (fun _ => rfl) rfl h7 ?_
    refine V_aload_n (pc2 := 66) (dk D_X6_leaveVoice 35 rfl) rfl (V_lg 1 rfl) rfl ?_
    obtain ⟨h8, h⟩ := h
    refine V_getI kc10 (pc2 := 69) 0 (dk D_X6_leaveVoice 36 rfl) fl_6_198 (by decide) (fun _ => rfl) rfl h8 ?_
    refine V_aload_n (pc2 := 70) (dk D_X6_leaveVoice 37 rfl) rfl (V_lg 1 rfl) rfl ?_
    refine V_getI kc10 (pc2 := 73) 5 (dk D_X6_leaveVoice 38 rfl) fl_6_116 (by decide) (fun _ => rfl) rfl h8 ?_
    obtain ⟨h13, h⟩ := h
    obtain ⟨e9, he10, hc11⟩ := h
    refine V_callV (as := [_, _]) (st := []) (M' := MX4_add) (ci := 4) (pc2 := 76) (dk D_X6_leaveVoice 39 rfl) ml_6_215 mv_X4_add rfl rfl (by decide) rfl (Nat.le_of_ble_eq_true rfl) rfl he10 h13 hc11 (RV.k fun  S12 h => ?_)
    refine V_aload_n (pc2 := 77) (dk D_X6_leaveVoice 40 rfl) rfl (V_lg 0 rfl) rfl ?_
    refine V_aload_n (pc2 := 78) (dk D_X6_leaveVoice 41 rfl) rfl (V_lg 1 rfl) rfl ?_
    obtain ⟨h14, h⟩ := h
    refine V_getI kc10 (pc2 := 81) 5 (dk D_X6_leaveVoice 42 rfl) fl_6_116 (by decide) (fun _ => rfl) rfl h14 ?_
    obtain ⟨h15, h⟩ := h
    refine V_putI kc6 (pc2 := 84) 13 (dk D_X6_leaveVoice 43 rfl) fl_6_74 (by decide) (Or.inl rfl) rfl rfl h15 ?_
    have h := h _ rfl
    refine V_aload_n (pc2 := 85) (dk D_X6_leaveVoice 44 rfl) rfl (V_lg 0 rfl) rfl ?_
    refine V_aload_n (pc2 := 86) (dk D_X6_leaveVoice 45 rfl) rfl (V_lg 0 rfl) rfl ?_
    refine V_getI kc6 (pc2 := 89) 13 (dk D_X6_leaveVoice 46 rfl) fl_6_74 (by decide) (fun _ => rfl) rfl h15 ?_
    obtain ⟨e17, he18, hc19⟩ := h
    refine V_callV (as := [_]) (st := []) (M' := MX6_find) (ci := 6) (pc2 := 92) (dk D_X6_leaveVoice 47 rfl) ml_6_106 mv_X6_find rfl rfl (by decide) rfl (Nat.le_of_ble_eq_true rfl) rfl he18 h15 hc19 (RR.k fun p20 S21 h => ?_)
    refine V_astore_n (pc2 := 93) (lv2 := [(0, _), (1, _), (2, _), (3, _)]) (dk D_X6_leaveVoice 48 rfl) rfl (by decide) rfl rfl ?_
    refine V_aload_n (pc2 := 94) (dk D_X6_leaveVoice 49 rfl) rfl (V_lg 3 rfl) rfl ?_
    refine V_ifnonnull (tgt := 104) (pc2 := 97) (dk D_X6_leaveVoice 50 rfl) (by decide) rfl (fun q22 => ?_) (fun q22 => ?_)
    · have h := h.1 q22
      refine V_aload_n (pc2 := 105) (dk D_X6_leaveVoice 54 rfl) rfl (V_lg 3 rfl) rfl ?_
      refine V_iconst (x := 2) (pc2 := 106) (dk D_X6_leaveVoice 55 rfl) (by decide) rfl ?_
      obtain ⟨h23, h⟩ := h
      refine V_putI kc10 (pc2 := 109) 1 (dk D_X6_leaveVoice 56 rfl) fl_6_131 (by decide) (Or.inl rfl) rfl rfl h23 ?_
      have h := h _ rfl
      exact h
    · have h := h.2 q22
      refine V_aload_n (pc2 := 98) (dk D_X6_leaveVoice 51 rfl) rfl (V_lg 0 rfl) rfl ?_
      obtain ⟨h29, h⟩ := h
      obtain ⟨e25, he26, hc27⟩ := h
      refine V_callV (as := []) (st := []) (M' := MX6_comeOut) (ci := 6) (pc2 := 101) (dk D_X6_leaveVoice 52 rfl) ml_6_287 mv_X6_comeOut rfl rfl (by decide) rfl (Nat.le_of_ble_eq_true rfl) rfl he26 h29 hc27 (RV.k fun  S28 h => ?_)
      refine V_goto (tgt := 109) (dk D_X6_leaveVoice 53 rfl) (by decide) ?_
      exact h
  · have h := h.2 q6
    refine V_aload_n (pc2 := 49) (dk D_X6_leaveVoice 24 rfl) rfl (V_lg 0 rfl) rfl ?_
    refine V_iconst (x := 0) (pc2 := 50) (dk D_X6_leaveVoice 25 rfl) (by decide) rfl ?_
    obtain ⟨h30, h⟩ := h
    refine V_putI kc6 (pc2 := 53) 14 (dk D_X6_leaveVoice 26 rfl) fl_6_77 (by decide) (Or.inl rfl) rfl rfl h30 ?_
    have h := h _ rfl
    refine V_aload_n (pc2 := 54) (dk D_X6_leaveVoice 27 rfl) rfl (V_lg 0 rfl) rfl ?_
    refine V_aload_n (pc2 := 55) (dk D_X6_leaveVoice 28 rfl) rfl (V_lg 1 rfl) rfl ?_
    refine V_iconst (x := 0) (pc2 := 56) (dk D_X6_leaveVoice 29 rfl) (by decide) rfl ?_
    refine V_iconst (x := 1) (pc2 := 57) (dk D_X6_leaveVoice 30 rfl) (by decide) rfl ?_
    obtain ⟨e32, he33, hc34⟩ := h
    refine V_callV (as := [_, _, _]) (st := []) (M' := MX6_goBack) (ci := 6) (pc2 := 60) (dk D_X6_leaveVoice 31 rfl) ml_6_267 mv_X6_goBack rfl rfl (by decide) rfl (Nat.le_of_ble_eq_true rfl) rfl he33 h30 hc34 (RV.k fun  S35 h => ?_)
    exact V_return (dk D_X6_leaveVoice 32 rfl) rfl h
theorem w_X6_leaveVoice_109 {X : Cx} {d : Nat} {S : Mem} {Q : Res → Mem → Prop} (r0 : Nat) (r1 : Nat) (x2 : Int32) (r3 : Nat) (h : Q (.inl none) S) : V X d MX6_leaveVoice 109 [(0, vR r0), (1, vR r1), (2, vI x2), (3, vR r3)] [] S Q := by
  exact V_return (dk D_X6_leaveVoice 57 rfl) rfl h
def L_X6_comeOut : List (Nat × Instr × Nat) := [(0, .aload_n 0, 1), (1, .iconst 0, 1), (2, .putfield 74, 3), (5, .aload_n 0, 1), (6, .iconst 2, 1), (7, .putfield 80, 3), (10, .aload_n 0, 1), (11, .getfield 24, 3), (14, .aload_n 0, 1), (15, .getfield 77, 3), (18, .invokevirtual 344, 3), (21, .aload_n 0, 1), (22, .iconst 0, 1), (23, .putfield 77, 3), (26, .return_, 1)]
theorem D_X6_comeOut : dOk cX6_comeOut L_X6_comeOut = true := by decide +kernel
theorem w_X6_comeOut_0 {X : Cx} {d : Nat} {S : Mem} {Q : Res → Mem → Prop} (r0 : Nat) (h : (isK S r0 6) ∧ ∀ S2 : Mem, S2 = uI S r0 13 0 → ∀ S3 : Mem, S3 = uI S2 r0 15 2 → (isK S (gR S r0 2) 2) ∧ ∃ e4 : Nat, e4 + 1 ≤ d ∧ C X e4 MX2_comeOut [vR (gR S r0 2), vI (gI S3 r0 14)] S3 (RV fun  S7 => (isK S7 r0 6) ∧ ∀ S10 : Mem, S10 = uI S7 r0 14 0 → Q (.inl none) S10)) : V X d MX6_comeOut 0 [(0, vR r0)] [] S Q := by
  refine V_aload_n (pc2 := 1) (dk D_X6_comeOut 0 rfl) rfl (V_lg 0 rfl) rfl ?_
  refine V_iconst (x := 0) (pc2 := 2) (dk D_X6_comeOut 1 rfl) (by decide) rfl ?_
  obtain ⟨h1, h⟩ := h
  refine V_putI kc6 (pc2 := 5) 13 (dk D_X6_comeOut 2 rfl) fl_6_74 (by decide) (Or.inl rfl) rfl rfl h1 ?_
  have h := h _ rfl
  refine V_aload_n (pc2 := 6) (dk D_X6_comeOut 3 rfl) rfl (V_lg 0 rfl) rfl ?_
  refine V_iconst (x := 2) (pc2 := 7) (dk D_X6_comeOut 4 rfl) (by decide) rfl ?_
  refine V_putI kc6 (pc2 := 10) 15 (dk D_X6_comeOut 5 rfl) fl_6_80 (by decide) (Or.inl rfl) rfl rfl h1 ?_
  have h := h _ rfl
  refine V_aload_n (pc2 := 11) (dk D_X6_comeOut 6 rfl) rfl (V_lg 0 rfl) rfl ?_
  refine V_getR kc6 (pc2 := 14) 2 (dk D_X6_comeOut 7 rfl) fl_6_24 (by decide) (fun _ => rfl) rfl h1 ?_
  refine V_aload_n (pc2 := 15) (dk D_X6_comeOut 8 rfl) rfl (V_lg 0 rfl) rfl ?_
  refine V_getI kc6 (pc2 := 18) 14 (dk D_X6_comeOut 9 rfl) fl_6_77 (by decide) (fun _ => rfl) rfl h1 ?_
  obtain ⟨h8, h⟩ := h
  obtain ⟨e4, he5, hc6⟩ := h
  refine V_callV (as := [_]) (st := []) (M' := MX2_comeOut) (ci := 2) (pc2 := 21) (dk D_X6_comeOut 10 rfl) ml_6_344 mv_X2_comeOut rfl rfl (by decide) rfl (Nat.le_of_ble_eq_true rfl) rfl he5 h8 hc6 (RV.k fun  S7 h => ?_)
  refine V_aload_n (pc2 := 22) (dk D_X6_comeOut 11 rfl) rfl (V_lg 0 rfl) rfl ?_
  refine V_iconst (x := 0) (pc2 := 23) (dk D_X6_comeOut 12 rfl) (by decide) rfl ?_
  obtain ⟨h9, h⟩ := h
  refine V_putI kc6 (pc2 := 26) 14 (dk D_X6_comeOut 13 rfl) fl_6_77 (by decide) (Or.inl rfl) rfl rfl h9 ?_
  have h := h _ rfl
  exact V_return (dk D_X6_comeOut 14 rfl) rfl h
