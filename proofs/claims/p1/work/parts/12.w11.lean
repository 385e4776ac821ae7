def L_X11_init : List (Nat × Instr × Nat) := [(0, .aload_n 0, 1), (1, .invokespecial 1, 3), (4, .aload_n 0, 1), (5, .new 7, 3), (8, .dup, 1), (9, .invokespecial 9, 3), (12, .putfield 10, 3), (15, .aload_n 0, 1), (16, .new 16, 3), (19, .dup, 1), (20, .invokespecial 18, 3), (23, .putfield 19, 3), (26, .new 23, 3), (29, .dup, 1), (30, .aload_n 0, 1), (31, .getfield 10, 3), (34, .invokespecial 25, 3), (37, .astore_n 1, 1), (38, .aload_n 0, 1), (39, .new 28, 3), (42, .dup, 1), (43, .aload_n 1, 1), (44, .aload_n 0, 1), (45, .getfield 19, 3), (48, .invokespecial 30, 3), (51, .putfield 33, 3), (54, .aload_n 0, 1), (55, .new 37, 3), (58, .dup, 1), (59, .aload_n 1, 1), (60, .aload_n 0, 1), (61, .getfield 19, 3), (64, .invokespecial 39, 3), (67, .putfield 40, 3), (70, .aload_n 0, 1), (71, .new 44, 3), (74, .dup, 1), (75, .aload_n 0, 1), (76, .getfield 19, 3), (79, .invokespecial 46, 3), (82, .putfield 49, 3), (85, .return_, 1)]
theorem D_X11_init : dOk cX11_init L_X11_init = true := by decide +kernel
theorem w_X11_init_0 {X : Cx} {d : Nat} {S : Mem} {Q : Res → Mem → Prop} (r0 : Nat) (h : (1 ≤ d) ∧ (r0 ≠ 0) ∧ ∀ S3 : Mem, S3 = nw S 8 0 2 → ((tp S) ≠ 0) ∧ ∃ e4 : Nat, e4 + 1 ≤ d ∧ C X e4 MX8_init [vR (tp S)] S3 (RV fun  S7 => (isK S7 r0 11) ∧ ∀ S10 : Mem, S10 = uR S7 r0 0 (tp S) → ∀ S11 : Mem, S11 = nw S10 7 0 4 → ((tp S10) ≠ 0) ∧ ∃ e12 : Nat, e12 + 1 ≤ d ∧ C X e12 MX7_init [vR (tp S10)] S11 (RV fun  S15 => (isK S15 r0 11) ∧ ∀ S18 : Mem, S18 = uR S15 r0 1 (tp S10) → ∀ S19 : Mem, S19 = nw S18 9 0 9 → ((tp S18) ≠ 0) ∧ ∃ e20 : Nat, e20 + 1 ≤ d ∧ C X e20 MX9_init [vR (tp S18), vR (gR S19 r0 0)] S19 (RV fun  S23 => ∀ S25 : Mem, S25 = nw S23 5 0 6 → (isK S25 r0 11) ∧ ((tp S23) ≠ 0) ∧ ∃ e27 : Nat, e27 + 1 ≤ d ∧ C X e27 MX5_init [vR (tp S23), vR (tp S18), vR (gR S25 r0 1)] S25 (RV fun  S30 => (isK S30 r0 11) ∧ ∀ S33 : Mem, S33 = uR S30 r0 2 (tp S23) → ∀ S34 : Mem, S34 = nw S33 3 0 3 → ((tp S33) ≠ 0) ∧ ∃ e35 : Nat, e35 + 1 ≤ d ∧ C X e35 MX3_init [vR (tp S33), vR (tp S18), vR (gR S34 r0 1)] S34 (RV fun  S38 => (isK S38 r0 11) ∧ ∀ S41 : Mem, S41 = uR S38 r0 3 (tp S33) → ∀ S42 : Mem, S42 = nw S41 6 0 18 → ((tp S41) ≠ 0) ∧ ∃ e43 : Nat, e43 + 1 ≤ d ∧ C X e43 MX6_init [vR (tp S41), vR (gR S42 r0 1)] S42 (RV fun  S46 => (isK S46 r0 11) ∧ ∀ S49 : Mem, S49 = uR S46 r0 4 (tp S41) → Q (.inl none) S49))))))) : V X d MX11_init 0 [(0, vR r0)] [] S Q := by
  refine V_aload_n (pc2 := 1) (dk D_X11_init 0 rfl) rfl (V_lg 0 rfl) rfl ?_
  obtain ⟨h1, h⟩ := h
  obtain ⟨h2, h⟩ := h
  refine V_obj (pc2 := 4) (dk D_X11_init 1 rfl) ml_11_1 oi_i oi_c rfl (Nat.le_of_ble_eq_true rfl) h1 h2 ?_
  refine V_aload_n (pc2 := 5) (dk D_X11_init 2 rfl) rfl (V_lg 0 rfl) rfl ?_
  refine V_newC kc8 (pc2 := 8) (dk D_X11_init 3 rfl) cl_11_7 it_8 ii_8 (by decide) rfl ?_
  have h := h _ rfl
  refine V_dup (pc2 := 9) (dk D_X11_init 4 rfl) rfl rfl ?_
  obtain ⟨h8, h⟩ := h
  obtain ⟨e4, he5, hc6⟩ := h
  refine V_callIN (as := []) (st := [_, _]) (M' := MX8_init) (pc2 := 12) (dk D_X11_init 5 rfl) ml_11_9 mv_X8_init rfl rfl rfl (Nat.le_of_ble_eq_true rfl) rfl he5 h8 hc6 (RV.k fun  S7 h => ?_)
  obtain ⟨h9, h⟩ := h
  refine V_putR kc11 (pc2 := 15) 0 (dk D_X11_init 6 rfl) fl_11_10 (by decide) (Or.inr ⟨rfl, rfl, rfl⟩) (Or.inl ⟨_, rfl⟩) rfl h9 ?_
  have h := h _ rfl
  refine V_aload_n (pc2 := 16) (dk D_X11_init 7 rfl) rfl (V_lg 0 rfl) rfl ?_
  refine V_newC kc7 (pc2 := 19) (dk D_X11_init 8 rfl) cl_11_16 it_7 ii_7 (by decide) rfl ?_
  have h := h _ rfl
  refine V_dup (pc2 := 20) (dk D_X11_init 9 rfl) rfl rfl ?_
  obtain ⟨h16, h⟩ := h
  obtain ⟨e12, he13, hc14⟩ := h
  refine V_callIN (as := []) (st := [_, _]) (M' := MX7_init) (pc2 := 23) (dk D_X11_init 10 rfl) ml_11_18 mv_X7_init rfl rfl rfl (Nat.le_of_ble_eq_true rfl) rfl he13 h16 hc14 (RV.k fun  S15 h => ?_)
  obtain ⟨h17, h⟩ := h
  refine V_putR kc11 (pc2 := 26) 1 (dk D_X11_init 11 rfl) fl_11_19 (by decide) (Or.inr ⟨rfl, rfl, rfl⟩) (Or.inl ⟨_, rfl⟩) rfl h17 ?_
  have h := h _ rfl
  refine V_newC kc9 (pc2 := 29) (dk D_X11_init 12 rfl) cl_11_23 it_9 ii_9 (by decide) rfl ?_
  have h := h _ rfl
  refine V_dup (pc2 := 30) (dk D_X11_init 13 rfl) rfl rfl ?_
  refine V_aload_n (pc2 := 31) (dk D_X11_init 14 rfl) rfl (V_lg 0 rfl) rfl ?_
  refine V_getR kc11 (pc2 := 34) 0 (dk D_X11_init 15 rfl) fl_11_10 (by decide) (fun _ => rfl) rfl (isK_nw h17) ?_
  obtain ⟨h24, h⟩ := h
  obtain ⟨e20, he21, hc22⟩ := h
  refine V_callI (as := [_]) (st := [_]) (M' := MX9_init) (pc2 := 37) (dk D_X11_init 16 rfl) ml_11_25 mv_X9_init rfl rfl rfl (Nat.le_of_ble_eq_true rfl) rfl he21 h24 hc22 (RV.k fun  S23 h => ?_)
  refine V_astore_n (pc2 := 38) (lv2 := [(0, _), (1, _)]) (dk D_X11_init 17 rfl) rfl (by decide) rfl rfl ?_
  refine V_aload_n (pc2 := 39) (dk D_X11_init 18 rfl) rfl (V_lg 0 rfl) rfl ?_
  refine V_newC kc5 (pc2 := 42) (dk D_X11_init 19 rfl) cl_11_28 it_5 ii_5 (by decide) rfl ?_
  have h := h _ rfl
  refine V_dup (pc2 := 43) (dk D_X11_init 20 rfl) rfl rfl ?_
  refine V_aload_n (pc2 := 44) (dk D_X11_init 21 rfl) rfl (V_lg 1 rfl) rfl ?_
  refine V_aload_n (pc2 := 45) (dk D_X11_init 22 rfl) rfl (V_lg 0 rfl) rfl ?_
  obtain ⟨h26, h⟩ := h
  refine V_getR kc11 (pc2 := 48) 1 (dk D_X11_init 23 rfl) fl_11_19 (by decide) (fun _ => rfl) rfl h26 ?_
  obtain ⟨h31, h⟩ := h
  obtain ⟨e27, he28, hc29⟩ := h
  refine V_callI (as := [_, _]) (st := [_, _]) (M' := MX5_init) (pc2 := 51) (dk D_X11_init 24 rfl) ml_11_30 mv_X5_init rfl rfl rfl (Nat.le_of_ble_eq_true rfl) rfl he28 h31 hc29 (RV.k fun  S30 h => ?_)
  obtain ⟨h32, h⟩ := h
  refine V_putR kc11 (pc2 := 54) 2 (dk D_X11_init 25 rfl) fl_11_33 (by decide) (Or.inr ⟨rfl, rfl, rfl⟩) (Or.inl ⟨_, rfl⟩) rfl h32 ?_
  have h := h _ rfl
  refine V_aload_n (pc2 := 55) (dk D_X11_init 26 rfl) rfl (V_lg 0 rfl) rfl ?_
  refine V_newC kc3 (pc2 := 58) (dk D_X11_init 27 rfl) cl_11_37 it_3 ii_3 (by decide) rfl ?_
  have h := h _ rfl
  refine V_dup (pc2 := 59) (dk D_X11_init 28 rfl) rfl rfl ?_
  refine V_aload_n (pc2 := 60) (dk D_X11_init 29 rfl) rfl (V_lg 1 rfl) rfl ?_
  refine V_aload_n (pc2 := 61) (dk D_X11_init 30 rfl) rfl (V_lg 0 rfl) rfl ?_
  refine V_getR kc11 (pc2 := 64) 1 (dk D_X11_init 31 rfl) fl_11_19 (by decide) (fun _ => rfl) rfl (isK_nw h32) ?_
  obtain ⟨h39, h⟩ := h
  obtain ⟨e35, he36, hc37⟩ := h
  refine V_callI (as := [_, _]) (st := [_, _]) (M' := MX3_init) (pc2 := 67) (dk D_X11_init 32 rfl) ml_11_39 mv_X3_init rfl rfl rfl (Nat.le_of_ble_eq_true rfl) rfl he36 h39 hc37 (RV.k fun  S38 h => ?_)
  obtain ⟨h40, h⟩ := h
  refine V_putR kc11 (pc2 := 70) 3 (dk D_X11_init 33 rfl) fl_11_40 (by decide) (Or.inr ⟨rfl, rfl, rfl⟩) (Or.inl ⟨_, rfl⟩) rfl h40 ?_
  have h := h _ rfl
  refine V_aload_n (pc2 := 71) (dk D_X11_init 34 rfl) rfl (V_lg 0 rfl) rfl ?_
  refine V_newC kc6 (pc2 := 74) (dk D_X11_init 35 rfl) cl_11_44 it_6 ii_6 (by decide) rfl ?_
  have h := h _ rfl
  refine V_dup (pc2 := 75) (dk D_X11_init 36 rfl) rfl rfl ?_
  refine V_aload_n (pc2 := 76) (dk D_X11_init 37 rfl) rfl (V_lg 0 rfl) rfl ?_
  refine V_getR kc11 (pc2 := 79) 1 (dk D_X11_init 38 rfl) fl_11_19 (by decide) (fun _ => rfl) rfl (isK_nw h40) ?_
  obtain ⟨h47, h⟩ := h
  obtain ⟨e43, he44, hc45⟩ := h
  refine V_callI (as := [_]) (st := [_, _]) (M' := MX6_init) (pc2 := 82) (dk D_X11_init 39 rfl) ml_11_46 mv_X6_init rfl rfl rfl (Nat.le_of_ble_eq_true rfl) rfl he44 h47 hc45 (RV.k fun  S46 h => ?_)
  obtain ⟨h48, h⟩ := h
  refine V_putR kc11 (pc2 := 85) 4 (dk D_X11_init 40 rfl) fl_11_49 (by decide) (Or.inr ⟨rfl, rfl, rfl⟩) (Or.inl ⟨_, rfl⟩) rfl h48 ?_
  have h := h _ rfl
  exact V_return (dk D_X11_init 41 rfl) rfl h
def L_X11_feed : List (Nat × Instr × Nat) := [(0, .iload_n 3, 1), (1, .iconst 1, 1), (2, .if_icmp .lt 9, 3), (5, .iload_n 3, 1), (6, .bipush 8, 2), (8, .if_icmp .le 5, 3), (11, .iconst (-1), 1), (12, .ireturn, 1), (13, .aload_n 0, 1), (14, .getfield 10, 3), (17, .iload_n 3, 1), (18, .invokevirtual 53, 3), (21, .ifCond .ne 6, 3), (24, .bipush (-3), 2), (26, .ireturn, 1), (27, .iconst 0, 1), (28, .istore 4, 2), (30, .iload 4, 2), (32, .iload_n 3, 1), (33, .if_icmp .ge 24, 3), (36, .aload_n 0, 1), (37, .getfield 10, 3), (40, .lload_n 1, 1), (41, .bipush 8, 2), (43, .iload 4, 2), (45, .imul, 1), (46, .lushr, 1), (47, .l2i, 1), (48, .invokevirtual 57, 3), (51, .iinc 4 1, 3), (54, .goto (-24), 3), (57, .aload_n 0, 1), (58, .getfield 10, 3), (61, .invokevirtual 61, 3), (64, .ireturn, 1)]
theorem D_X11_feed : dOk cX11_feed L_X11_feed = true := by decide +kernel
theorem w_X11_feed_0 {X : Cx} {d : Nat} {S : Mem} {Q : Res → Mem → Prop} (r0 : Nat) (l1 : Int64) (x3 : Int32) (h : ((x3 < 1 → V X d MX11_feed 11 [(0, vR r0), (1, vL l1), (3, vI x3)] [] S Q) ∧ (¬ x3 < 1 → ((x3 ≤ 8 → (isK S r0 11) ∧ (isK S (gR S r0 0) 8) ∧ ∃ e4 : Nat, e4 + 1 ≤ d ∧ C X e4 MX8_hasRoom [vR (gR S r0 0), vI x3] S (RI fun y7 S8 => ((¬ y7 = 0 → V X d MX11_feed 30 [(0, vR r0), (1, vL l1), (3, vI x3), (4, vI 0)] [] S8 Q) ∧ (y7 = 0 → Q (.inl (some (vI (-3)))) S8)))) ∧ (¬ x3 ≤ 8 → V X d MX11_feed 11 [(0, vR r0), (1, vL l1), (3, vI x3)] [] S Q))))) : V X d MX11_feed 0 [(0, vR r0), (1, vL l1), (3, vI x3)] [] S Q := by
  refine V_iload_n (pc2 := 1) (dk D_X11_feed 0 rfl) rfl (V_lg 2 rfl) rfl ?_
  refine V_iconst (x := 1) (pc2 := 2) (dk D_X11_feed 1 rfl) (by decide) rfl ?_
  refine V_cmplt (tgt := 11) (pc2 := 5) (dk D_X11_feed 2 rfl) (by decide) rfl (fun q1 => ?_) (fun q1 => ?_)
  · have h := h.1 q1
    exact h
  · have h := h.2 q1
    refine V_iload_n (pc2 := 6) (dk D_X11_feed 3 rfl) rfl (V_lg 2 rfl) rfl ?_
    refine V_bipush (x := 8) (pc2 := 8) (dk D_X11_feed 4 rfl) (by decide) rfl ?_
    refine V_cmple (tgt := 13) (pc2 := 11) (dk D_X11_feed 5 rfl) (by decide) rfl (fun q2 => ?_) (fun q2 => ?_)
    · have h := h.1 q2
      refine V_aload_n (pc2 := 14) (dk D_X11_feed 8 rfl) rfl (V_lg 0 rfl) rfl ?_
      obtain ⟨h3, h⟩ := h
      refine V_getR kc11 (pc2 := 17) 0 (dk D_X11_feed 9 rfl) fl_11_10 (by decide) (fun _ => rfl) rfl h3 ?_
      refine V_iload_n (pc2 := 18) (dk D_X11_feed 10 rfl) rfl (V_lg 2 rfl) rfl ?_
      obtain ⟨h9, h⟩ := h
      obtain ⟨e4, he5, hc6⟩ := h
      refine V_callV (as := [_]) (st := []) (M' := MX8_hasRoom) (ci := 8) (pc2 := 21) (dk D_X11_feed 11 rfl) ml_11_53 mv_X8_hasRoom rfl rfl (by decide) rfl (Nat.le_of_ble_eq_true rfl) rfl he5 h9 hc6 (RI.k fun y7 S8 h => ?_)
      refine V_ifne (tgt := 27) (pc2 := 24) (dk D_X11_feed 12 rfl) (by decide) rfl (fun q10 => ?_) (fun q10 => ?_)
      · have h := h.1 q10
        refine V_iconst (x := 0) (pc2 := 28) (dk D_X11_feed 15 rfl) (by decide) rfl ?_
        refine V_istore (pc2 := 30) (lv2 := [(0, _), (1, _), (3, _), (4, _)]) (dk D_X11_feed 16 rfl) (by decide) rfl rfl ?_
        exact h
      · have h := h.2 q10
        refine V_bipush (x := (-3)) (pc2 := 26) (dk D_X11_feed 13 rfl) (by decide) rfl ?_
        exact V_ireturn (dk D_X11_feed 14 rfl) rfl h
    · have h := h.2 q2
      exact h
theorem w_X11_feed_11 {X : Cx} {d : Nat} {S : Mem} {Q : Res → Mem → Prop} (r0 : Nat) (l1 : Int64) (x3 : Int32) (h : Q (.inl (some (vI (-1)))) S) : V X d MX11_feed 11 [(0, vR r0), (1, vL l1), (3, vI x3)] [] S Q := by
  refine V_iconst (x := (-1)) (pc2 := 12) (dk D_X11_feed 6 rfl) (by decide) rfl ?_
  exact V_ireturn (dk D_X11_feed 7 rfl) rfl h
theorem w_X11_feed_30 {X : Cx} {d : Nat} {S : Mem} {Q : Res → Mem → Prop} (r0 : Nat) (l1 : Int64) (x3 : Int32) (x4 : Int32) (h : ((x3 ≤ x4 → (isK S r0 11) ∧ (isK S (gR S r0 0) 8) ∧ ∃ e3 : Nat, e3 + 1 ≤ d ∧ C X e3 MX8_size [vR (gR S r0 0)] S (RI fun y6 S7 => Q (.inl (some (vI y6))) S7)) ∧ (¬ x3 ≤ x4 → (isK S r0 11) ∧ (isK S (gR S r0 0) 8) ∧ ∃ e10 : Nat, e10 + 1 ≤ d ∧ C X e10 MX8_add [vR (gR S r0 0), vI (((((l1 : Int64).toUInt64 >>> (((8 * x4) : Int32).toInt64.toUInt64 &&& Int64.toUInt64 63)).toInt64) : Int64).toInt32)] S (RV fun  S13 => V X d MX11_feed 30 [(0, vR r0), (1, vL l1), (3, vI x3), (4, vI (x4 + 1))] [] S13 Q)))) : V X d MX11_feed 30 [(0, vR r0), (1, vL l1), (3, vI x3), (4, vI x4)] [] S Q := by
  refine V_iload (pc2 := 32) (dk D_X11_feed 17 rfl) (V_lg 3 rfl) rfl ?_
  refine V_iload_n (pc2 := 33) (dk D_X11_feed 18 rfl) rfl (V_lg 2 rfl) rfl ?_
  refine V_cmpge (tgt := 57) (pc2 := 36) (dk D_X11_feed 19 rfl) (by decide) rfl (fun q1 => ?_) (fun q1 => ?_)
  · have h := h.1 q1
    refine V_aload_n (pc2 := 58) (dk D_X11_feed 31 rfl) rfl (V_lg 0 rfl) rfl ?_
    obtain ⟨h2, h⟩ := h
    refine V_getR kc11 (pc2 := 61) 0 (dk D_X11_feed 32 rfl) fl_11_10 (by decide) (fun _ => rfl) rfl h2 ?_
    obtain ⟨h8, h⟩ := h
    obtain ⟨e3, he4, hc5⟩ := h
    refine V_callV (as := []) (st := []) (M' := MX8_size) (ci := 8) (pc2 := 64) (dk D_X11_feed 33 rfl) ml_11_61 mv_X8_size rfl rfl (by decide) rfl (Nat.le_of_ble_eq_true rfl) rfl he4 h8 hc5 (RI.k fun y6 S7 h => ?_)
    exact V_ireturn (dk D_X11_feed 34 rfl) rfl h
  · have h := h.2 q1
    refine V_aload_n (pc2 := 37) (dk D_X11_feed 20 rfl) rfl (V_lg 0 rfl) rfl ?_
    obtain ⟨h9, h⟩ := h
    refine V_getR kc11 (pc2 := 40) 0 (dk D_X11_feed 21 rfl) fl_11_10 (by decide) (fun _ => rfl) rfl h9 ?_
    refine V_lload_n (pc2 := 41) (dk D_X11_feed 22 rfl) rfl (V_lg 1 rfl) rfl ?_
    refine V_bipush (x := 8) (pc2 := 43) (dk D_X11_feed 23 rfl) (by decide) rfl ?_
    refine V_iload (pc2 := 45) (dk D_X11_feed 24 rfl) (V_lg 3 rfl) rfl ?_
    refine V_imul (pc2 := 46) (dk D_X11_feed 25 rfl) rfl ?_
    refine V_lushr (pc2 := 47) (dk D_X11_feed 26 rfl) rfl ?_
    refine V_l2i (pc2 := 48) (dk D_X11_feed 27 rfl) rfl ?_
    obtain ⟨h14, h⟩ := h
    obtain ⟨e10, he11, hc12⟩ := h
    refine V_callV (as := [_]) (st := []) (M' := MX8_add) (ci := 8) (pc2 := 51) (dk D_X11_feed 28 rfl) ml_11_57 mv_X8_add rfl rfl (by decide) rfl (Nat.le_of_ble_eq_true rfl) rfl he11 h14 hc12 (RV.k fun  S13 h => ?_)
    refine V_iinc (y := _ + 1) (pc2 := 54) (lv2 := [(0, _), (1, _), (3, _), (4, _)]) (dk D_X11_feed 29 rfl) (V_lg 3 rfl) rfl (by decide) rfl rfl ?_
    refine V_goto (tgt := 30) (dk D_X11_feed 30 rfl) (by decide) ?_
    exact h
def L_X11_drop : List (Nat × Instr × Nat) := [(0, .aload_n 0, 1), (1, .getfield 10, 3), (4, .invokevirtual 61, 3), (7, .istore_n 1, 1), (8, .aload_n 0, 1), (9, .getfield 10, 3), (12, .invokevirtual 65, 3), (15, .iload_n 1, 1), (16, .ireturn, 1)]
theorem D_X11_drop : dOk cX11_drop L_X11_drop = true := by decide +kernel
theorem w_X11_drop_0 {X : Cx} {d : Nat} {S : Mem} {Q : Res → Mem → Prop} (r0 : Nat) (h : (isK S r0 11) ∧ (isK S (gR S r0 0) 8) ∧ ∃ e2 : Nat, e2 + 1 ≤ d ∧ C X e2 MX8_size [vR (gR S r0 0)] S (RI fun y5 S6 => (isK S6 r0 11) ∧ (isK S6 (gR S6 r0 0) 8) ∧ ∃ e9 : Nat, e9 + 1 ≤ d ∧ C X e9 MX8_clear [vR (gR S6 r0 0)] S6 (RV fun  S12 => Q (.inl (some (vI y5))) S12))) : V X d MX11_drop 0 [(0, vR r0)] [] S Q := by
  refine V_aload_n (pc2 := 1) (dk D_X11_drop 0 rfl) rfl (V_lg 0 rfl) rfl ?_
  obtain ⟨h1, h⟩ := h
  refine V_getR kc11 (pc2 := 4) 0 (dk D_X11_drop 1 rfl) fl_11_10 (by decide) (fun _ => rfl) rfl h1 ?_
  obtain ⟨h7, h⟩ := h
  obtain ⟨e2, he3, hc4⟩ := h
  refine V_callV (as := []) (st := []) (M' := MX8_size) (ci := 8) (pc2 := 7) (dk D_X11_drop 2 rfl) ml_11_61 mv_X8_size rfl rfl (by decide) rfl (Nat.le_of_ble_eq_true rfl) rfl he3 h7 hc4 (RI.k fun y5 S6 h => ?_)
  refine V_istore_n (pc2 := 8) (lv2 := [(0, _), (1, _)]) (dk D_X11_drop 3 rfl) rfl (by decide) rfl rfl ?_
  refine V_aload_n (pc2 := 9) (dk D_X11_drop 4 rfl) rfl (V_lg 0 rfl) rfl ?_
  obtain ⟨h8, h⟩ := h
  refine V_getR kc11 (pc2 := 12) 0 (dk D_X11_drop 5 rfl) fl_11_10 (by decide) (fun _ => rfl) rfl h8 ?_
  obtain ⟨h13, h⟩ := h
  obtain ⟨e9, he10, hc11⟩ := h
  refine V_callV (as := []) (st := []) (M' := MX8_clear) (ci := 8) (pc2 := 15) (dk D_X11_drop 6 rfl) ml_11_65 mv_X8_clear rfl rfl (by decide) rfl (Nat.le_of_ble_eq_true rfl) rfl he10 h13 hc11 (RV.k fun  S12 h => ?_)
  refine V_iload_n (pc2 := 16) (dk D_X11_drop 7 rfl) rfl (V_lg 1 rfl) rfl ?_
  exact V_ireturn (dk D_X11_drop 8 rfl) rfl h
def L_X11_compile : List (Nat × Instr × Nat) := [(0, .aload_n 0, 1), (1, .getfield 33, 3), (4, .invokevirtual 68, 3), (7, .istore_n 1, 1), (8, .iload_n 1, 1), (9, .ifCond .ge 11, 3), (12, .aload_n 0, 1), (13, .getfield 40, 3), (16, .invokevirtual 71, 3), (19, .istore_n 1, 1), (20, .aload_n 0, 1), (21, .getfield 10, 3), (24, .invokevirtual 65, 3), (27, .aload_n 0, 1), (28, .getfield 49, 3), (31, .invokevirtual 74, 3), (34, .aload_n 0, 1), (35, .iload_n 1, 1), (36, .ifCond .ge 7, 3), (39, .iconst 1, 1), (40, .goto 4, 3), (43, .iconst 0, 1), (44, .putfield 77, 3), (47, .aload_n 0, 1), (48, .getfield 77, 3), (51, .ifCond .eq 13, 3), (54, .aload_n 0, 1), (55, .getfield 19, 3), (58, .invokevirtual 81, 3), (61, .goto 7, 3), (64, .bipush (-10), 2), (66, .iload_n 1, 1), (67, .isub, 1), (68, .ireturn, 1)]
theorem D_X11_compile : dOk cX11_compile L_X11_compile = true := by decide +kernel
theorem w_X11_compile_0 {X : Cx} {d : Nat} {S : Mem} {Q : Res → Mem → Prop} (r0 : Nat) (h : (isK S r0 11) ∧ (isK S (gR S r0 2) 5) ∧ ∃ e2 : Nat, e2 + 1 ≤ d ∧ C X e2 MX5_read [vR (gR S r0 2)] S (RI fun y5 S6 => ((0 ≤ y5 → V X d MX11_compile 20 [(0, vR r0), (1, vI y5)] [] S6 Q) ∧ (¬ 0 ≤ y5 → (isK S6 r0 11) ∧ (isK S6 (gR S6 r0 3) 3) ∧ ∃ e10 : Nat, e10 + 1 ≤ d ∧ C X e10 MX3_link [vR (gR S6 r0 3)] S6 (RI fun y13 S14 => V X d MX11_compile 20 [(0, vR r0), (1, vI y13)] [] S14 Q))))) : V X d MX11_compile 0 [(0, vR r0)] [] S Q := by
  refine V_aload_n (pc2 := 1) (dk D_X11_compile 0 rfl) rfl (V_lg 0 rfl) rfl ?_
  obtain ⟨h1, h⟩ := h
  refine V_getR kc11 (pc2 := 4) 2 (dk D_X11_compile 1 rfl) fl_11_33 (by decide) (fun _ => rfl) rfl h1 ?_
  obtain ⟨h7, h⟩ := h
  obtain ⟨e2, he3, hc4⟩ := h
  refine V_callV (as := []) (st := []) (M' := MX5_read) (ci := 5) (pc2 := 7) (dk D_X11_compile 2 rfl) ml_11_68 mv_X5_read rfl rfl (by decide) rfl (Nat.le_of_ble_eq_true rfl) rfl he3 h7 hc4 (RI.k fun y5 S6 h => ?_)
  refine V_istore_n (pc2 := 8) (lv2 := [(0, _), (1, _)]) (dk D_X11_compile 3 rfl) rfl (by decide) rfl rfl ?_
  refine V_iload_n (pc2 := 9) (dk D_X11_compile 4 rfl) rfl (V_lg 1 rfl) rfl ?_
  refine V_ifge (tgt := 20) (pc2 := 12) (dk D_X11_compile 5 rfl) (by decide) rfl (fun q8 => ?_) (fun q8 => ?_)
  · have h := h.1 q8
    exact h
  · have h := h.2 q8
    refine V_aload_n (pc2 := 13) (dk D_X11_compile 6 rfl) rfl (V_lg 0 rfl) rfl ?_
    obtain ⟨h9, h⟩ := h
    refine V_getR kc11 (pc2 := 16) 3 (dk D_X11_compile 7 rfl) fl_11_40 (by decide) (fun _ => rfl) rfl h9 ?_
    obtain ⟨h15, h⟩ := h
    obtain ⟨e10, he11, hc12⟩ := h
    refine V_callV (as := []) (st := []) (M' := MX3_link) (ci := 3) (pc2 := 19) (dk D_X11_compile 8 rfl) ml_11_71 mv_X3_link rfl rfl (by decide) rfl (Nat.le_of_ble_eq_true rfl) rfl he11 h15 hc12 (RI.k fun y13 S14 h => ?_)
    refine V_istore_n (pc2 := 20) (lv2 := [(0, _), (1, _)]) (dk D_X11_compile 9 rfl) rfl (by decide) rfl rfl ?_
    exact h
theorem w_X11_compile_20 {X : Cx} {d : Nat} {S : Mem} {Q : Res → Mem → Prop} (r0 : Nat) (x1 : Int32) (h : (isK S r0 11) ∧ (isK S (gR S r0 0) 8) ∧ ∃ e2 : Nat, e2 + 1 ≤ d ∧ C X e2 MX8_clear [vR (gR S r0 0)] S (RV fun  S5 => (isK S5 r0 11) ∧ (isK S5 (gR S5 r0 4) 6) ∧ ∃ e8 : Nat, e8 + 1 ≤ d ∧ C X e8 MX6_reset [vR (gR S5 r0 4)] S5 (RV fun  S11 => ((0 ≤ x1 → V X d MX11_compile 44 [(0, vR r0), (1, vI x1)] [vI 0, vR r0] S11 Q) ∧ (¬ 0 ≤ x1 → V X d MX11_compile 44 [(0, vR r0), (1, vI x1)] [vI 1, vR r0] S11 Q))))) : V X d MX11_compile 20 [(0, vR r0), (1, vI x1)] [] S Q := by
  refine V_aload_n (pc2 := 21) (dk D_X11_compile 10 rfl) rfl (V_lg 0 rfl) rfl ?_
  obtain ⟨h1, h⟩ := h
  refine V_getR kc11 (pc2 := 24) 0 (dk D_X11_compile 11 rfl) fl_11_10 (by decide) (fun _ => rfl) rfl h1 ?_
  obtain ⟨h6, h⟩ := h
  obtain ⟨e2, he3, hc4⟩ := h
  refine V_callV (as := []) (st := []) (M' := MX8_clear) (ci := 8) (pc2 := 27) (dk D_X11_compile 12 rfl) ml_11_65 mv_X8_clear rfl rfl (by decide) rfl (Nat.le_of_ble_eq_true rfl) rfl he3 h6 hc4 (RV.k fun  S5 h => ?_)
  refine V_aload_n (pc2 := 28) (dk D_X11_compile 13 rfl) rfl (V_lg 0 rfl) rfl ?_
  obtain ⟨h7, h⟩ := h
  refine V_getR kc11 (pc2 := 31) 4 (dk D_X11_compile 14 rfl) fl_11_49 (by decide) (fun _ => rfl) rfl h7 ?_
  obtain ⟨h12, h⟩ := h
  obtain ⟨e8, he9, hc10⟩ := h
  refine V_callV (as := []) (st := []) (M' := MX6_reset) (ci := 6) (pc2 := 34) (dk D_X11_compile 15 rfl) ml_11_74 mv_X6_reset rfl rfl (by decide) rfl (Nat.le_of_ble_eq_true rfl) rfl he9 h12 hc10 (RV.k fun  S11 h => ?_)
  refine V_aload_n (pc2 := 35) (dk D_X11_compile 16 rfl) rfl (V_lg 0 rfl) rfl ?_
  refine V_iload_n (pc2 := 36) (dk D_X11_compile 17 rfl) rfl (V_lg 1 rfl) rfl ?_
  refine V_ifge (tgt := 43) (pc2 := 39) (dk D_X11_compile 18 rfl) (by decide) rfl (fun q13 => ?_) (fun q13 => ?_)
  · have h := h.1 q13
    refine V_iconst (x := 0) (pc2 := 44) (dk D_X11_compile 21 rfl) (by decide) rfl ?_
    exact h
  · have h := h.2 q13
    refine V_iconst (x := 1) (pc2 := 40) (dk D_X11_compile 19 rfl) (by decide) rfl ?_
    refine V_goto (tgt := 44) (dk D_X11_compile 20 rfl) (by decide) ?_
    exact h
theorem w_X11_compile_44 {X : Cx} {d : Nat} {S : Mem} {Q : Res → Mem → Prop} (r0 : Nat) (x1 : Int32) (t0 : Nat) (t1 : Int32) (h : (isK S t0 11) ∧ (t1 = 0 ∨ t1 = 1) ∧ ∀ S3 : Mem, S3 = uI S t0 5 t1 → (isK S r0 11) ∧ (((gI S3 r0 5) = 0 → V X d MX11_compile 68 [(0, vR r0), (1, vI x1)] [vI ((-10) - x1)] S3 Q) ∧ (¬ (gI S3 r0 5) = 0 → (isK S (gR S r0 1) 7) ∧ ∃ e6 : Nat, e6 + 1 ≤ d ∧ C X e6 MX7_size [vR (gR S r0 1)] S3 (RI fun y9 S10 => V X d MX11_compile 68 [(0, vR r0), (1, vI x1)] [vI y9] S10 Q)))) : V X d MX11_compile 44 [(0, vR r0), (1, vI x1)] [vI t1, vR t0] S Q := by
  obtain ⟨h1, h⟩ := h
  obtain ⟨h2, h⟩ := h
  refine V_putZ kc11 (pc2 := 47) 5 (dk D_X11_compile 22 rfl) fl_11_77 (by decide) (Or.inl rfl) rfl rfl h1 h2 ?_
  have h := h _ rfl
  refine V_aload_n (pc2 := 48) (dk D_X11_compile 23 rfl) rfl (V_lg 0 rfl) rfl ?_
  obtain ⟨h4, h⟩ := h
  refine V_getI kc11 (pc2 := 51) 5 (dk D_X11_compile 24 rfl) fl_11_77 (by decide) (fun _ => rfl) rfl h4 ?_
  refine V_ifeq (tgt := 64) (pc2 := 54) (dk D_X11_compile 25 rfl) (by decide) rfl (fun q5 => ?_) (fun q5 => ?_)
  · have h := h.1 q5
    refine V_bipush (x := (-10)) (pc2 := 66) (dk D_X11_compile 30 rfl) (by decide) rfl ?_
    refine V_iload_n (pc2 := 67) (dk D_X11_compile 31 rfl) rfl (V_lg 1 rfl) rfl ?_
    refine V_isub (pc2 := 68) (dk D_X11_compile 32 rfl) rfl ?_
    exact h
  · have h := h.2 q5
    refine V_aload_n (pc2 := 55) (dk D_X11_compile 26 rfl) rfl (V_lg 0 rfl) rfl ?_
    refine V_getR kc11 (pc2 := 58) 1 (dk D_X11_compile 27 rfl) fl_11_19 (by decide) (fun _ => rfl) rfl h4 ?_
    obtain ⟨h11, h⟩ := h
    obtain ⟨e6, he7, hc8⟩ := h
    refine V_callV (as := []) (st := []) (M' := MX7_size) (ci := 7) (pc2 := 61) (dk D_X11_compile 28 rfl) ml_11_81 mv_X7_size rfl rfl (by decide) rfl (Nat.le_of_ble_eq_true rfl) rfl he7 h11 hc8 (RI.k fun y9 S10 h => ?_)
    refine V_goto (tgt := 68) (dk D_X11_compile 29 rfl) (by decide) ?_
    exact h
theorem w_X11_compile_68 {X : Cx} {d : Nat} {S : Mem} {Q : Res → Mem → Prop} (r0 : Nat) (x1 : Int32) (t0 : Int32) (h : Q (.inl (some (vI t0))) S) : V X d MX11_compile 68 [(0, vR r0), (1, vI x1)] [vI t0] S Q := by
  exact V_ireturn (dk D_X11_compile 33 rfl) rfl h
def L_X11_body : List (Nat × Instr × Nat) := [(0, .aload_n 0, 1), (1, .getfield 77, 3), (4, .ifCond .ne 6, 3), (7, .bipush (-2), 2), (9, .ireturn, 1), (10, .aload_n 0, 1), (11, .getfield 19, 3), (14, .iload_n 1, 1), (15, .invokevirtual 82, 3), (18, .astore_n 3, 1), (19, .aload_n 3, 1), (20, .ifnonnull 7, 3), (23, .iconst (-1), 1), (24, .goto 8, 3), (27, .aload_n 3, 1), (28, .iload_n 2, 1), (29, .invokevirtual 86, 3), (32, .ireturn, 1)]
theorem D_X11_body : dOk cX11_body L_X11_body = true := by decide +kernel
theorem w_X11_body_0 {X : Cx} {d : Nat} {S : Mem} {Q : Res → Mem → Prop} (r0 : Nat) (x1 : Int32) (x2 : Int32) (h : (isK S r0 11) ∧ ((¬ (gI S r0 5) = 0 → (isK S (gR S r0 1) 7) ∧ ∃ e3 : Nat, e3 + 1 ≤ d ∧ C X e3 MX7_at [vR (gR S r0 1), vI x1] S (RR fun p6 S7 => ((¬ p6 = 0 → (isK S7 p6 0) ∧ ∃ e10 : Nat, e10 + 1 ≤ d ∧ C X e10 MX0_fact [vR p6, vI x2] S7 (RI fun y13 S14 => V X d MX11_body 32 [(0, vR r0), (1, vI x1), (2, vI x2), (3, vR p6)] [vI y13] S14 Q)) ∧ (p6 = 0 → V X d MX11_body 32 [(0, vR r0), (1, vI x1), (2, vI x2), (3, vR p6)] [vI (-1)] S7 Q)))) ∧ ((gI S r0 5) = 0 → Q (.inl (some (vI (-2)))) S))) : V X d MX11_body 0 [(0, vR r0), (1, vI x1), (2, vI x2)] [] S Q := by
  refine V_aload_n (pc2 := 1) (dk D_X11_body 0 rfl) rfl (V_lg 0 rfl) rfl ?_
  obtain ⟨h1, h⟩ := h
  refine V_getI kc11 (pc2 := 4) 5 (dk D_X11_body 1 rfl) fl_11_77 (by decide) (fun _ => rfl) rfl h1 ?_
  refine V_ifne (tgt := 10) (pc2 := 7) (dk D_X11_body 2 rfl) (by decide) rfl (fun q2 => ?_) (fun q2 => ?_)
  · have h := h.1 q2
    refine V_aload_n (pc2 := 11) (dk D_X11_body 5 rfl) rfl (V_lg 0 rfl) rfl ?_
    refine V_getR kc11 (pc2 := 14) 1 (dk D_X11_body 6 rfl) fl_11_19 (by decide) (fun _ => rfl) rfl h1 ?_
    refine V_iload_n (pc2 := 15) (dk D_X11_body 7 rfl) rfl (V_lg 1 rfl) rfl ?_
    obtain ⟨h8, h⟩ := h
    obtain ⟨e3, he4, hc5⟩ := h
    refine V_callV (as := [_]) (st := []) (M' := MX7_at) (ci := 7) (pc2 := 18) (dk D_X11_body 8 rfl) ml_11_82 mv_X7_at rfl rfl (by decide) rfl (Nat.le_of_ble_eq_true rfl) rfl he4 h8 hc5 (RR.k fun p6 S7 h => ?_)
    refine V_astore_n (pc2 := 19) (lv2 := [(0, _), (1, _), (2, _), (3, _)]) (dk D_X11_body 9 rfl) rfl (by decide) rfl rfl ?_
    refine V_aload_n (pc2 := 20) (dk D_X11_body 10 rfl) rfl (V_lg 3 rfl) rfl ?_
    refine V_ifnonnull (tgt := 27) (pc2 := 23) (dk D_X11_body 11 rfl) (by decide) rfl (fun q9 => ?_) (fun q9 => ?_)
    · have h := h.1 q9
      refine V_aload_n (pc2 := 28) (dk D_X11_body 14 rfl) rfl (V_lg 3 rfl) rfl ?_
      refine V_iload_n (pc2 := 29) (dk D_X11_body 15 rfl) rfl (V_lg 2 rfl) rfl ?_
      obtain ⟨h15, h⟩ := h
      obtain ⟨e10, he11, hc12⟩ := h
      refine V_callV (as := [_]) (st := []) (M' := MX0_fact) (ci := 0) (pc2 := 32) (dk D_X11_body 16 rfl) ml_11_86 mv_X0_fact rfl rfl (by decide) rfl (Nat.le_of_ble_eq_true rfl) rfl he11 h15 hc12 (RI.k fun y13 S14 h => ?_)
      exact h
    · have h := h.2 q9
      refine V_iconst (x := (-1)) (pc2 := 24) (dk D_X11_body 12 rfl) (by decide) rfl ?_
      refine V_goto (tgt := 32) (dk D_X11_body 13 rfl) (by decide) ?_
      exact h
  · have h := h.2 q2
    refine V_bipush (x := (-2)) (pc2 := 9) (dk D_X11_body 3 rfl) (by decide) rfl ?_
    exact V_ireturn (dk D_X11_body 4 rfl) rfl h
def L_X11_voice : List (Nat × Instr × Nat) := [(0, .aload_n 0, 1), (1, .invokevirtual 92, 3), (4, .ifCond .ne 6, 3), (7, .bipush (-2), 2), (9, .ireturn, 1), (10, .aload_n 0, 1), (11, .getfield 19, 3), (14, .iload_n 1, 1), (15, .invokevirtual 82, 3), (18, .astore_n 3, 1), (19, .aload_n 3, 1), (20, .ifnull 10, 3), (23, .aload_n 3, 1), (24, .getfield 96, 3), (27, .ifCond .ne 5, 3), (30, .iconst (-1), 1), (31, .ireturn, 1), (32, .aload_n 0, 1), (33, .getfield 49, 3), (36, .invokevirtual 99, 3), (39, .ifCond .eq 8, 3), (42, .bipush (-3), 2), (44, .goto 24, 3), (47, .aload_n 0, 1), (48, .getfield 49, 3), (51, .iload_n 1, 1), (52, .aload_n 3, 1), (53, .getfield 102, 3), (56, .ifCond .ne 7, 3), (59, .iconst 0, 1), (60, .goto 4, 3), (63, .iload_n 2, 1), (64, .iconst 0, 1), (65, .invokevirtual 106, 3), (68, .ireturn, 1)]
theorem D_X11_voice : dOk cX11_voice L_X11_voice = true := by decide +kernel
theorem w_X11_voice_0 {X : Cx} {d : Nat} {S : Mem} {Q : Res → Mem → Prop} (r0 : Nat) (x1 : Int32) (x2 : Int32) (h : (isK S r0 11) ∧ ∃ e1 : Nat, e1 + 1 ≤ d ∧ C X e1 MX11_plays [vR r0] S (RI fun y4 S5 => ((¬ y4 = 0 → (isK S5 r0 11) ∧ (isK S5 (gR S5 r0 1) 7) ∧ ∃ e9 : Nat, e9 + 1 ≤ d ∧ C X e9 MX7_at [vR (gR S5 r0 1), vI x1] S5 (RR fun p12 S13 => ((p12 = 0 → V X d MX11_voice 30 [(0, vR r0), (1, vI x1), (2, vI x2), (3, vR p12)] [] S13 Q) ∧ (¬ p12 = 0 → (isK S13 p12 0) ∧ ((¬ (gI S13 p12 2) = 0 → (isK S13 r0 11) ∧ (isK S13 (gR S13 r0 4) 6) ∧ ∃ e19 : Nat, e19 + 1 ≤ d ∧ C X e19 MX6_isFull [vR (gR S13 r0 4)] S13 (RI fun y22 S23 => ((y22 = 0 → (isK S23 r0 11) ∧ (isK S23 p12 0) ∧ ((¬ (gI S23 p12 4) = 0 → V X d MX11_voice 64 [(0, vR r0), (1, vI x1), (2, vI x2), (3, vR p12)] [vI x2, vI x1, vR (gR S23 r0 4)] S23 Q) ∧ ((gI S23 p12 4) = 0 → V X d MX11_voice 64 [(0, vR r0), (1, vI x1), (2, vI x2), (3, vR p12)] [vI 0, vI x1, vR (gR S23 r0 4)] S23 Q))) ∧ (¬ y22 = 0 → V X d MX11_voice 68 [(0, vR r0), (1, vI x1), (2, vI x2), (3, vR p12)] [vI (-3)] S23 Q)))) ∧ ((gI S13 p12 2) = 0 → V X d MX11_voice 30 [(0, vR r0), (1, vI x1), (2, vI x2), (3, vR p12)] [] S13 Q)))))) ∧ (y4 = 0 → Q (.inl (some (vI (-2)))) S5)))) : V X d MX11_voice 0 [(0, vR r0), (1, vI x1), (2, vI x2)] [] S Q := by
  refine V_aload_n (pc2 := 1) (dk D_X11_voice 0 rfl) rfl (V_lg 0 rfl) rfl ?_
  obtain ⟨h6, h⟩ := h
  obtain ⟨e1, he2, hc3⟩ := h
  refine V_callV (as := []) (st := []) (M' := MX11_plays) (ci := 11) (pc2 := 4) (dk D_X11_voice 1 rfl) ml_11_92 mv_X11_plays rfl rfl (by decide) rfl (Nat.le_of_ble_eq_true rfl) rfl he2 h6 hc3 (RI.k fun y4 S5 h => ?_)
  refine V_ifne (tgt := 10) (pc2 := 7) (dk D_X11_voice 2 rfl) (by decide) rfl (fun q7 => ?_) (fun q7 => ?_)
  · have h := h.1 q7
    refine V_aload_n (pc2 := 11) (dk D_X11_voice 5 rfl) rfl (V_lg 0 rfl) rfl ?_
    obtain ⟨h8, h⟩ := h
    refine V_getR kc11 (pc2 := 14) 1 (dk D_X11_voice 6 rfl) fl_11_19 (by decide) (fun _ => rfl) rfl h8 ?_
    refine V_iload_n (pc2 := 15) (dk D_X11_voice 7 rfl) rfl (V_lg 1 rfl) rfl ?_
    obtain ⟨h14, h⟩ := h
    obtain ⟨e9, he10, hc11⟩ := h
    refine V_callV (as := [_]) (st := []) (M' := MX7_at) (ci := 7) (pc2 := 18) (dk D_X11_voice 8 rfl) ml_11_82 mv_X7_at rfl rfl (by decide) rfl (Nat.le_of_ble_eq_true rfl) rfl he10 h14 hc11 (RR.k fun p12 S13 h => ?_)
    refine V_astore_n (pc2 := 19) (lv2 := [(0, _), (1, _), (2, _), (3, _)]) (dk D_X11_voice 9 rfl) rfl (by decide) rfl rfl ?_
    refine V_aload_n (pc2 := 20) (dk D_X11_voice 10 rfl) rfl (V_lg 3 rfl) rfl ?_
    refine V_ifnull (tgt := 30) (pc2 := 23) (dk D_X11_voice 11 rfl) (by decide) rfl (fun q15 => ?_) (fun q15 => ?_)
    · have h := h.1 q15
      exact h
    · have h := h.2 q15
      refine V_aload_n (pc2 := 24) (dk D_X11_voice 12 rfl) rfl (V_lg 3 rfl) rfl ?_
      obtain ⟨h16, h⟩ := h
      refine V_getI kc0 (pc2 := 27) 2 (dk D_X11_voice 13 rfl) fl_11_96 (by decide) (fun _ => rfl) rfl h16 ?_
      refine V_ifne (tgt := 32) (pc2 := 30) (dk D_X11_voice 14 rfl) (by decide) rfl (fun q17 => ?_) (fun q17 => ?_)
      · have h := h.1 q17
        refine V_aload_n (pc2 := 33) (dk D_X11_voice 17 rfl) rfl (V_lg 0 rfl) rfl ?_
        obtain ⟨h18, h⟩ := h
        refine V_getR kc11 (pc2 := 36) 4 (dk D_X11_voice 18 rfl) fl_11_49 (by decide) (fun _ => rfl) rfl h18 ?_
        obtain ⟨h24, h⟩ := h
        obtain ⟨e19, he20, hc21⟩ := h
        refine V_callV (as := []) (st := []) (M' := MX6_isFull) (ci := 6) (pc2 := 39) (dk D_X11_voice 19 rfl) ml_11_99 mv_X6_isFull rfl rfl (by decide) rfl (Nat.le_of_ble_eq_true rfl) rfl he20 h24 hc21 (RI.k fun y22 S23 h => ?_)
        refine V_ifeq (tgt := 47) (pc2 := 42) (dk D_X11_voice 20 rfl) (by decide) rfl (fun q25 => ?_) (fun q25 => ?_)
        · have h := h.1 q25
          refine V_aload_n (pc2 := 48) (dk D_X11_voice 23 rfl) rfl (V_lg 0 rfl) rfl ?_
          obtain ⟨h26, h⟩ := h
          refine V_getR kc11 (pc2 := 51) 4 (dk D_X11_voice 24 rfl) fl_11_49 (by decide) (fun _ => rfl) rfl h26 ?_
          refine V_iload_n (pc2 := 52) (dk D_X11_voice 25 rfl) rfl (V_lg 1 rfl) rfl ?_
          refine V_aload_n (pc2 := 53) (dk D_X11_voice 26 rfl) rfl (V_lg 3 rfl) rfl ?_
          obtain ⟨h27, h⟩ := h
          refine V_getI kc0 (pc2 := 56) 4 (dk D_X11_voice 27 rfl) fl_11_102 (by decide) (fun _ => rfl) rfl h27 ?_
          refine V_ifne (tgt := 63) (pc2 := 59) (dk D_X11_voice 28 rfl) (by decide) rfl (fun q28 => ?_) (fun q28 => ?_)
          · have h := h.1 q28
            refine V_iload_n (pc2 := 64) (dk D_X11_voice 31 rfl) rfl (V_lg 2 rfl) rfl ?_
            exact h
          · have h := h.2 q28
            refine V_iconst (x := 0) (pc2 := 60) (dk D_X11_voice 29 rfl) (by decide) rfl ?_
            refine V_goto (tgt := 64) (dk D_X11_voice 30 rfl) (by decide) ?_
            exact h
        · have h := h.2 q25
          refine V_bipush (x := (-3)) (pc2 := 44) (dk D_X11_voice 21 rfl) (by decide) rfl ?_
          refine V_goto (tgt := 68) (dk D_X11_voice 22 rfl) (by decide) ?_
          exact h
      · have h := h.2 q17
        exact h
  · have h := h.2 q7
    refine V_bipush (x := (-2)) (pc2 := 9) (dk D_X11_voice 3 rfl) (by decide) rfl ?_
    exact V_ireturn (dk D_X11_voice 4 rfl) rfl h
def L_X11_resume : List (Nat × Instr × Nat) := [(0, .aload_n 0, 1), (1, .invokevirtual 92, 3), (4, .ifCond .ne 6, 3), (7, .bipush (-2), 2), (9, .ireturn, 1), (10, .aload_n 0, 1), (11, .getfield 49, 3), (14, .iload_n 1, 1), (15, .invokevirtual 110, 3), (18, .astore_n 3, 1), (19, .aload_n 3, 1), (20, .ifnonnull 5, 3), (23, .iconst (-1), 1), (24, .ireturn, 1), (25, .aload_n 3, 1), (26, .invokevirtual 114, 3), (29, .ifCond .eq 5, 3), (32, .iconst 3, 1), (33, .ireturn, 1), (34, .aload_n 0, 1), (35, .getfield 49, 3), (38, .aload_n 3, 1), (39, .iload_n 2, 1), (40, .invokevirtual 119, 3), (43, .aload_n 0, 1), (44, .getfield 49, 3), (47, .invokevirtual 123, 3), (50, .aload_n 0, 1), (51, .getfield 49, 3), (54, .invokevirtual 126, 3), (57, .ireturn, 1)]
theorem D_X11_resume : dOk cX11_resume L_X11_resume = true := by decide +kernel
theorem w_X11_resume_0 {X : Cx} {d : Nat} {S : Mem} {Q : Res → Mem → Prop} (r0 : Nat) (x1 : Int32) (x2 : Int32) (h : (isK S r0 11) ∧ ∃ e1 : Nat, e1 + 1 ≤ d ∧ C X e1 MX11_plays [vR r0] S (RI fun y4 S5 => ((¬ y4 = 0 → (isK S5 r0 11) ∧ (isK S5 (gR S5 r0 4) 6) ∧ ∃ e9 : Nat, e9 + 1 ≤ d ∧ C X e9 MX6_find [vR (gR S5 r0 4), vI x1] S5 (RR fun p12 S13 => ((¬ p12 = 0 → (isK S13 p12 10) ∧ ∃ e16 : Nat, e16 + 1 ≤ d ∧ C X e16 MX10_isOver [vR p12] S13 (RI fun y19 S20 => ((y19 = 0 → (isK S20 r0 11) ∧ (isK S20 (gR S20 r0 4) 6) ∧ ∃ e24 : Nat, e24 + 1 ≤ d ∧ C X e24 MX6_deskResumes [vR (gR S20 r0 4), vR p12, vI x2] S20 (RV fun  S27 => (isK S27 r0 11) ∧ (isK S27 (gR S27 r0 4) 6) ∧ ∃ e30 : Nat, e30 + 1 ≤ d ∧ C X e30 MX6_run [vR (gR S27 r0 4)] S27 (RV fun  S33 => (isK S33 r0 11) ∧ (isK S33 (gR S33 r0 4) 6) ∧ ∃ e36 : Nat, e36 + 1 ≤ d ∧ C X e36 MX6_outcome [vR (gR S33 r0 4)] S33 (RI fun y39 S40 => Q (.inl (some (vI y39))) S40)))) ∧ (¬ y19 = 0 → Q (.inl (some (vI 3))) S20)))) ∧ (p12 = 0 → Q (.inl (some (vI (-1)))) S13)))) ∧ (y4 = 0 → Q (.inl (some (vI (-2)))) S5)))) : V X d MX11_resume 0 [(0, vR r0), (1, vI x1), (2, vI x2)] [] S Q := by
  refine V_aload_n (pc2 := 1) (dk D_X11_resume 0 rfl) rfl (V_lg 0 rfl) rfl ?_
  obtain ⟨h6, h⟩ := h
  obtain ⟨e1, he2, hc3⟩ := h
  refine V_callV (as := []) (st := []) (M' := MX11_plays) (ci := 11) (pc2 := 4) (dk D_X11_resume 1 rfl) ml_11_92 mv_X11_plays rfl rfl (by decide) rfl (Nat.le_of_ble_eq_true rfl) rfl he2 h6 hc3 (RI.k fun y4 S5 h => ?_)
  refine V_ifne (tgt := 10) (pc2 := 7) (dk D_X11_resume 2 rfl) (by decide) rfl (fun q7 => ?_) (fun q7 => ?_)
  · have h := h.1 q7
    refine V_aload_n (pc2 := 11) (dk D_X11_resume 5 rfl) rfl (V_lg 0 rfl) rfl ?_
    obtain ⟨h8, h⟩ := h
    refine V_getR kc11 (pc2 := 14) 4 (dk D_X11_resume 6 rfl) fl_11_49 (by decide) (fun _ => rfl) rfl h8 ?_
    refine V_iload_n (pc2 := 15) (dk D_X11_resume 7 rfl) rfl (V_lg 1 rfl) rfl ?_
    obtain ⟨h14, h⟩ := h
    obtain ⟨e9, he10, hc11⟩ := h
    refine V_callV (as := [_]) (st := []) (M' := MX6_find) (ci := 6) (pc2 := 18) (dk D_X11_resume 8 rfl) ml_11_110 mv_X6_find rfl rfl (by decide) rfl (Nat.le_of_ble_eq_true rfl) rfl he10 h14 hc11 (RR.k fun p12 S13 h => ?_)
    refine V_astore_n (pc2 := 19) (lv2 := [(0, _), (1, _), (2, _), (3, _)]) (dk D_X11_resume 9 rfl) rfl (by decide) rfl rfl ?_
    refine V_aload_n (pc2 := 20) (dk D_X11_resume 10 rfl) rfl (V_lg 3 rfl) rfl ?_
    refine V_ifnonnull (tgt := 25) (pc2 := 23) (dk D_X11_resume 11 rfl) (by decide) rfl (fun q15 => ?_) (fun q15 => ?_)
    · have h := h.1 q15
      refine V_aload_n (pc2 := 26) (dk D_X11_resume 14 rfl) rfl (V_lg 3 rfl) rfl ?_
      obtain ⟨h21, h⟩ := h
      obtain ⟨e16, he17, hc18⟩ := h
      refine V_callV (as := []) (st := []) (M' := MX10_isOver) (ci := 10) (pc2 := 29) (dk D_X11_resume 15 rfl) ml_11_114 mv_X10_isOver rfl rfl (by decide) rfl (Nat.le_of_ble_eq_true rfl) rfl he17 h21 hc18 (RI.k fun y19 S20 h => ?_)
      refine V_ifeq (tgt := 34) (pc2 := 32) (dk D_X11_resume 16 rfl) (by decide) rfl (fun q22 => ?_) (fun q22 => ?_)
      · have h := h.1 q22
        refine V_aload_n (pc2 := 35) (dk D_X11_resume 19 rfl) rfl (V_lg 0 rfl) rfl ?_
        obtain ⟨h23, h⟩ := h
        refine V_getR kc11 (pc2 := 38) 4 (dk D_X11_resume 20 rfl) fl_11_49 (by decide) (fun _ => rfl) rfl h23 ?_
        refine V_aload_n (pc2 := 39) (dk D_X11_resume 21 rfl) rfl (V_lg 3 rfl) rfl ?_
        refine V_iload_n (pc2 := 40) (dk D_X11_resume 22 rfl) rfl (V_lg 2 rfl) rfl ?_
        obtain ⟨h28, h⟩ := h
        obtain ⟨e24, he25, hc26⟩ := h
        refine V_callV (as := [_, _]) (st := []) (M' := MX6_deskResumes) (ci := 6) (pc2 := 43) (dk D_X11_resume 23 rfl) ml_11_119 mv_X6_deskResumes rfl rfl (by decide) rfl (Nat.le_of_ble_eq_true rfl) rfl he25 h28 hc26 (RV.k fun  S27 h => ?_)
        refine V_aload_n (pc2 := 44) (dk D_X11_resume 24 rfl) rfl (V_lg 0 rfl) rfl ?_
        obtain ⟨h29, h⟩ := h
        refine V_getR kc11 (pc2 := 47) 4 (dk D_X11_resume 25 rfl) fl_11_49 (by decide) (fun _ => rfl) rfl h29 ?_
        obtain ⟨h34, h⟩ := h
        obtain ⟨e30, he31, hc32⟩ := h
        refine V_callV (as := []) (st := []) (M' := MX6_run) (ci := 6) (pc2 := 50) (dk D_X11_resume 26 rfl) ml_11_123 mv_X6_run rfl rfl (by decide) rfl (Nat.le_of_ble_eq_true rfl) rfl he31 h34 hc32 (RV.k fun  S33 h => ?_)
        refine V_aload_n (pc2 := 51) (dk D_X11_resume 27 rfl) rfl (V_lg 0 rfl) rfl ?_
        obtain ⟨h35, h⟩ := h
        refine V_getR kc11 (pc2 := 54) 4 (dk D_X11_resume 28 rfl) fl_11_49 (by decide) (fun _ => rfl) rfl h35 ?_
        obtain ⟨h41, h⟩ := h
        obtain ⟨e36, he37, hc38⟩ := h
        refine V_callV (as := []) (st := []) (M' := MX6_outcome) (ci := 6) (pc2 := 57) (dk D_X11_resume 29 rfl) ml_11_126 mv_X6_outcome rfl rfl (by decide) rfl (Nat.le_of_ble_eq_true rfl) rfl he37 h41 hc38 (RI.k fun y39 S40 h => ?_)
        exact V_ireturn (dk D_X11_resume 30 rfl) rfl h
      · have h := h.2 q22
        refine V_iconst (x := 3) (pc2 := 33) (dk D_X11_resume 17 rfl) (by decide) rfl ?_
        exact V_ireturn (dk D_X11_resume 18 rfl) rfl h
    · have h := h.2 q15
      refine V_iconst (x := (-1)) (pc2 := 24) (dk D_X11_resume 12 rfl) (by decide) rfl ?_
      exact V_ireturn (dk D_X11_resume 13 rfl) rfl h
  · have h := h.2 q7
    refine V_bipush (x := (-2)) (pc2 := 9) (dk D_X11_resume 3 rfl) (by decide) rfl ?_
    exact V_ireturn (dk D_X11_resume 4 rfl) rfl h
def L_X11_inject : List (Nat × Instr × Nat) := [(0, .aload_n 0, 1), (1, .invokevirtual 92, 3), (4, .ifCond .ne 6, 3), (7, .bipush (-2), 2), (9, .ireturn, 1), (10, .aload_n 0, 1), (11, .getfield 49, 3), (14, .iload_n 1, 1), (15, .invokevirtual 110, 3), (18, .astore 4, 2), (20, .aload 4, 2), (22, .ifnull 13, 3), (25, .iload_n 2, 1), (26, .ifCond .lt 9, 3), (29, .iload_n 2, 1), (30, .bipush 9, 2), (32, .if_icmp .le 5, 3), (35, .iconst (-1), 1), (36, .ireturn, 1), (37, .aload 4, 2), (39, .invokevirtual 114, 3), (42, .ifCond .eq 5, 3), (45, .iconst 3, 1), (46, .ireturn, 1), (47, .aload_n 0, 1), (48, .getfield 49, 3), (51, .aload 4, 2), (53, .iload_n 2, 1), (54, .iload_n 3, 1), (55, .invokevirtual 129, 3), (58, .aload_n 0, 1), (59, .getfield 49, 3), (62, .invokevirtual 123, 3), (65, .aload_n 0, 1), (66, .getfield 49, 3), (69, .invokevirtual 126, 3), (72, .ireturn, 1)]
theorem D_X11_inject : dOk cX11_inject L_X11_inject = true := by decide +kernel
theorem w_X11_inject_0 {X : Cx} {d : Nat} {S : Mem} {Q : Res → Mem → Prop} (r0 : Nat) (x1 : Int32) (x2 : Int32) (x3 : Int32) (h : (isK S r0 11) ∧ ∃ e1 : Nat, e1 + 1 ≤ d ∧ C X e1 MX11_plays [vR r0] S (RI fun y4 S5 => ((¬ y4 = 0 → (isK S5 r0 11) ∧ (isK S5 (gR S5 r0 4) 6) ∧ ∃ e9 : Nat, e9 + 1 ≤ d ∧ C X e9 MX6_find [vR (gR S5 r0 4), vI x1] S5 (RR fun p12 S13 => ((p12 = 0 → V X d MX11_inject 35 [(0, vR r0), (1, vI x1), (2, vI x2), (3, vI x3), (4, vR p12)] [] S13 Q) ∧ (¬ p12 = 0 → ((x2 < 0 → V X d MX11_inject 35 [(0, vR r0), (1, vI x1), (2, vI x2), (3, vI x3), (4, vR p12)] [] S13 Q) ∧ (¬ x2 < 0 → ((x2 ≤ 9 → (isK S13 p12 10) ∧ ∃ e18 : Nat, e18 + 1 ≤ d ∧ C X e18 MX10_isOver [vR p12] S13 (RI fun y21 S22 => ((y21 = 0 → (isK S22 r0 11) ∧ (isK S22 (gR S22 r0 4) 6) ∧ ∃ e26 : Nat, e26 + 1 ≤ d ∧ C X e26 MX6_deskInjects [vR (gR S22 r0 4), vR p12, vI x2, vI x3] S22 (RV fun  S29 => (isK S29 r0 11) ∧ (isK S29 (gR S29 r0 4) 6) ∧ ∃ e32 : Nat, e32 + 1 ≤ d ∧ C X e32 MX6_run [vR (gR S29 r0 4)] S29 (RV fun  S35 => (isK S35 r0 11) ∧ (isK S35 (gR S35 r0 4) 6) ∧ ∃ e38 : Nat, e38 + 1 ≤ d ∧ C X e38 MX6_outcome [vR (gR S35 r0 4)] S35 (RI fun y41 S42 => Q (.inl (some (vI y41))) S42)))) ∧ (¬ y21 = 0 → Q (.inl (some (vI 3))) S22)))) ∧ (¬ x2 ≤ 9 → V X d MX11_inject 35 [(0, vR r0), (1, vI x1), (2, vI x2), (3, vI x3), (4, vR p12)] [] S13 Q)))))))) ∧ (y4 = 0 → Q (.inl (some (vI (-2)))) S5)))) : V X d MX11_inject 0 [(0, vR r0), (1, vI x1), (2, vI x2), (3, vI x3)] [] S Q := by
  refine V_aload_n (pc2 := 1) (dk D_X11_inject 0 rfl) rfl (V_lg 0 rfl) rfl ?_
  obtain ⟨h6, h⟩ := h
  obtain ⟨e1, he2, hc3⟩ := h
  refine V_callV (as := []) (st := []) (M' := MX11_plays) (ci := 11) (pc2 := 4) (dk D_X11_inject 1 rfl) ml_11_92 mv_X11_plays rfl rfl (by decide) rfl (Nat.le_of_ble_eq_true rfl) rfl he2 h6 hc3 (RI.k fun y4 S5 h => ?_)
  refine V_ifne (tgt := 10) (pc2 := 7) (dk D_X11_inject 2 rfl) (by decide) rfl (fun q7 => ?_) (fun q7 => ?_)
  · have h := h.1 q7
    refine V_aload_n (pc2 := 11) (dk D_X11_inject 5 rfl) rfl (V_lg 0 rfl) rfl ?_
    obtain ⟨h8, h⟩ := h
    refine V_getR kc11 (pc2 := 14) 4 (dk D_X11_inject 6 rfl) fl_11_49 (by decide) (fun _ => rfl) rfl h8 ?_
    refine V_iload_n (pc2 := 15) (dk D_X11_inject 7 rfl) rfl (V_lg 1 rfl) rfl ?_
    obtain ⟨h14, h⟩ := h
    obtain ⟨e9, he10, hc11⟩ := h
    refine V_callV (as := [_]) (st := []) (M' := MX6_find) (ci := 6) (pc2 := 18) (dk D_X11_inject 8 rfl) ml_11_110 mv_X6_find rfl rfl (by decide) rfl (Nat.le_of_ble_eq_true rfl) rfl he10 h14 hc11 (RR.k fun p12 S13 h => ?_)
    refine V_astore (pc2 := 20) (lv2 := [(0, _), (1, _), (2, _), (3, _), (4, _)]) (dk D_X11_inject 9 rfl) (by decide) rfl rfl ?_
    refine V_aload (pc2 := 22) (dk D_X11_inject 10 rfl) (V_lg 4 rfl) rfl ?_
    refine V_ifnull (tgt := 35) (pc2 := 25) (dk D_X11_inject 11 rfl) (by decide) rfl (fun q15 => ?_) (fun q15 => ?_)
    · have h := h.1 q15
      exact h
    · have h := h.2 q15
      refine V_iload_n (pc2 := 26) (dk D_X11_inject 12 rfl) rfl (V_lg 2 rfl) rfl ?_
      refine V_iflt (tgt := 35) (pc2 := 29) (dk D_X11_inject 13 rfl) (by decide) rfl (fun q16 => ?_) (fun q16 => ?_)
      · have h := h.1 q16
        exact h
      · have h := h.2 q16
        refine V_iload_n (pc2 := 30) (dk D_X11_inject 14 rfl) rfl (V_lg 2 rfl) rfl ?_
        refine V_bipush (x := 9) (pc2 := 32) (dk D_X11_inject 15 rfl) (by decide) rfl ?_
        refine V_cmple (tgt := 37) (pc2 := 35) (dk D_X11_inject 16 rfl) (by decide) rfl (fun q17 => ?_) (fun q17 => ?_)
        · have h := h.1 q17
          refine V_aload (pc2 := 39) (dk D_X11_inject 19 rfl) (V_lg 4 rfl) rfl ?_
          obtain ⟨h23, h⟩ := h
          obtain ⟨e18, he19, hc20⟩ := h
          refine V_callV (as := []) (st := []) (M' := MX10_isOver) (ci := 10) (pc2 := 42) (dk D_X11_inject 20 rfl) ml_11_114 mv_X10_isOver rfl rfl (by decide) rfl (Nat.le_of_ble_eq_true rfl) rfl he19 h23 hc20 (RI.k fun y21 S22 h => ?_)
          refine V_ifeq (tgt := 47) (pc2 := 45) (dk D_X11_inject 21 rfl) (by decide) rfl (fun q24 => ?_) (fun q24 => ?_)
          · have h := h.1 q24
            refine V_aload_n (pc2 := 48) (dk D_X11_inject 24 rfl) rfl (V_lg 0 rfl) rfl ?_
            obtain ⟨h25, h⟩ := h
            refine V_getR kc11 (pc2 := 51) 4 (dk D_X11_inject 25 rfl) fl_11_49 (by decide) (fun _ => rfl) rfl h25 ?_
            refine V_aload (pc2 := 53) (dk D_X11_inject 26 rfl) (V_lg 4 rfl) rfl ?_
            refine V_iload_n (pc2 := 54) (dk D_X11_inject 27 rfl) rfl (V_lg 2 rfl) rfl ?_
            refine V_iload_n (pc2 := 55) (dk D_X11_inject 28 rfl) rfl (V_lg 3 rfl) rfl ?_
            obtain ⟨h30, h⟩ := h
            obtain ⟨e26, he27, hc28⟩ := h
            refine V_callV (as := [_, _, _]) (st := []) (M' := MX6_deskInjects) (ci := 6) (pc2 := 58) (dk D_X11_inject 29 rfl) ml_11_129 mv_X6_deskInjects rfl rfl (by decide) rfl (Nat.le_of_ble_eq_true rfl) rfl he27 h30 hc28 (RV.k fun  S29 h => ?_)
            refine V_aload_n (pc2 := 59) (dk D_X11_inject 30 rfl) rfl (V_lg 0 rfl) rfl ?_
            obtain ⟨h31, h⟩ := h
            refine V_getR kc11 (pc2 := 62) 4 (dk D_X11_inject 31 rfl) fl_11_49 (by decide) (fun _ => rfl) rfl h31 ?_
            obtain ⟨h36, h⟩ := h
            obtain ⟨e32, he33, hc34⟩ := h
            refine V_callV (as := []) (st := []) (M' := MX6_run) (ci := 6) (pc2 := 65) (dk D_X11_inject 32 rfl) ml_11_123 mv_X6_run rfl rfl (by decide) rfl (Nat.le_of_ble_eq_true rfl) rfl he33 h36 hc34 (RV.k fun  S35 h => ?_)
            refine V_aload_n (pc2 := 66) (dk D_X11_inject 33 rfl) rfl (V_lg 0 rfl) rfl ?_
            obtain ⟨h37, h⟩ := h
            refine V_getR kc11 (pc2 := 69) 4 (dk D_X11_inject 34 rfl) fl_11_49 (by decide) (fun _ => rfl) rfl h37 ?_
            obtain ⟨h43, h⟩ := h
            obtain ⟨e38, he39, hc40⟩ := h
            refine V_callV (as := []) (st := []) (M' := MX6_outcome) (ci := 6) (pc2 := 72) (dk D_X11_inject 35 rfl) ml_11_126 mv_X6_outcome rfl rfl (by decide) rfl (Nat.le_of_ble_eq_true rfl) rfl he39 h43 hc40 (RI.k fun y41 S42 h => ?_)
            exact V_ireturn (dk D_X11_inject 36 rfl) rfl h
          · have h := h.2 q24
            refine V_iconst (x := 3) (pc2 := 46) (dk D_X11_inject 22 rfl) (by decide) rfl ?_
            exact V_ireturn (dk D_X11_inject 23 rfl) rfl h
        · have h := h.2 q17
          exact h
  · have h := h.2 q7
    refine V_bipush (x := (-2)) (pc2 := 9) (dk D_X11_inject 3 rfl) (by decide) rfl ?_
    exact V_ireturn (dk D_X11_inject 4 rfl) rfl h
def L_X11_close : List (Nat × Instr × Nat) := [(0, .aload_n 0, 1), (1, .invokevirtual 92, 3), (4, .ifCond .ne 6, 3), (7, .bipush (-2), 2), (9, .ireturn, 1), (10, .aload_n 0, 1), (11, .getfield 49, 3), (14, .iload_n 1, 1), (15, .invokevirtual 110, 3), (18, .astore_n 2, 1), (19, .aload_n 2, 1), (20, .ifnonnull 5, 3), (23, .iconst (-1), 1), (24, .ireturn, 1), (25, .aload_n 2, 1), (26, .invokevirtual 114, 3), (29, .ifCond .eq 5, 3), (32, .iconst 0, 1), (33, .ireturn, 1), (34, .aload_n 0, 1), (35, .getfield 49, 3), (38, .aload_n 2, 1), (39, .invokevirtual 133, 3), (42, .aload_n 0, 1), (43, .getfield 49, 3), (46, .invokevirtual 123, 3), (49, .aload_n 0, 1), (50, .getfield 49, 3), (53, .invokevirtual 126, 3), (56, .ireturn, 1)]
theorem D_X11_close : dOk cX11_close L_X11_close = true := by decide +kernel
theorem w_X11_close_0 {X : Cx} {d : Nat} {S : Mem} {Q : Res → Mem → Prop} (r0 : Nat) (x1 : Int32) (h : (isK S r0 11) ∧ ∃ e1 : Nat, e1 + 1 ≤ d ∧ C X e1 MX11_plays [vR r0] S (RI fun y4 S5 => ((¬ y4 = 0 → (isK S5 r0 11) ∧ (isK S5 (gR S5 r0 4) 6) ∧ ∃ e9 : Nat, e9 + 1 ≤ d ∧ C X e9 MX6_find [vR (gR S5 r0 4), vI x1] S5 (RR fun p12 S13 => ((¬ p12 = 0 → (isK S13 p12 10) ∧ ∃ e16 : Nat, e16 + 1 ≤ d ∧ C X e16 MX10_isOver [vR p12] S13 (RI fun y19 S20 => ((y19 = 0 → (isK S20 r0 11) ∧ (isK S20 (gR S20 r0 4) 6) ∧ ∃ e24 : Nat, e24 + 1 ≤ d ∧ C X e24 MX6_deskCloses [vR (gR S20 r0 4), vR p12] S20 (RV fun  S27 => (isK S27 r0 11) ∧ (isK S27 (gR S27 r0 4) 6) ∧ ∃ e30 : Nat, e30 + 1 ≤ d ∧ C X e30 MX6_run [vR (gR S27 r0 4)] S27 (RV fun  S33 => (isK S33 r0 11) ∧ (isK S33 (gR S33 r0 4) 6) ∧ ∃ e36 : Nat, e36 + 1 ≤ d ∧ C X e36 MX6_outcome [vR (gR S33 r0 4)] S33 (RI fun y39 S40 => Q (.inl (some (vI y39))) S40)))) ∧ (¬ y19 = 0 → Q (.inl (some (vI 0))) S20)))) ∧ (p12 = 0 → Q (.inl (some (vI (-1)))) S13)))) ∧ (y4 = 0 → Q (.inl (some (vI (-2)))) S5)))) : V X d MX11_close 0 [(0, vR r0), (1, vI x1)] [] S Q := by
  refine V_aload_n (pc2 := 1) (dk D_X11_close 0 rfl) rfl (V_lg 0 rfl) rfl ?_
  obtain ⟨h6, h⟩ := h
  obtain ⟨e1, he2, hc3⟩ := h
  refine V_callV (as := []) (st := []) (M' := MX11_plays) (ci := 11) (pc2 := 4) (dk D_X11_close 1 rfl) ml_11_92 mv_X11_plays rfl rfl (by decide) rfl (Nat.le_of_ble_eq_true rfl) rfl he2 h6 hc3 (RI.k fun y4 S5 h => ?_)
  refine V_ifne (tgt := 10) (pc2 := 7) (dk D_X11_close 2 rfl) (by decide) rfl (fun q7 => ?_) (fun q7 => ?_)
  · have h := h.1 q7
    refine V_aload_n (pc2 := 11) (dk D_X11_close 5 rfl) rfl (V_lg 0 rfl) rfl ?_
    obtain ⟨h8, h⟩ := h
    refine V_getR kc11 (pc2 := 14) 4 (dk D_X11_close 6 rfl) fl_11_49 (by decide) (fun _ => rfl) rfl h8 ?_
    refine V_iload_n (pc2 := 15) (dk D_X11_close 7 rfl) rfl (V_lg 1 rfl) rfl ?_
    obtain ⟨h14, h⟩ := h
    obtain ⟨e9, he10, hc11⟩ := h
    refine V_callV (as := [_]) (st := []) (M' := MX6_find) (ci := 6) (pc2 := 18) (dk D_X11_close 8 rfl) ml_11_110 mv_X6_find rfl rfl (by decide) rfl (Nat.le_of_ble_eq_true rfl) rfl he10 h14 hc11 (RR.k fun p12 S13 h => ?_)
    refine V_astore_n (pc2 := 19) (lv2 := [(0, _), (1, _), (2, _)]) (dk D_X11_close 9 rfl) rfl (by decide) rfl rfl ?_
    refine V_aload_n (pc2 := 20) (dk D_X11_close 10 rfl) rfl (V_lg 2 rfl) rfl ?_
    refine V_ifnonnull (tgt := 25) (pc2 := 23) (dk D_X11_close 11 rfl) (by decide) rfl (fun q15 => ?_) (fun q15 => ?_)
    · have h := h.1 q15
      refine V_aload_n (pc2 := 26) (dk D_X11_close 14 rfl) rfl (V_lg 2 rfl) rfl ?_
      obtain ⟨h21, h⟩ := h
      obtain ⟨e16, he17, hc18⟩ := h
      refine V_callV (as := []) (st := []) (M' := MX10_isOver) (ci := 10) (pc2 := 29) (dk D_X11_close 15 rfl) ml_11_114 mv_X10_isOver rfl rfl (by decide) rfl (Nat.le_of_ble_eq_true rfl) rfl he17 h21 hc18 (RI.k fun y19 S20 h => ?_)
      refine V_ifeq (tgt := 34) (pc2 := 32) (dk D_X11_close 16 rfl) (by decide) rfl (fun q22 => ?_) (fun q22 => ?_)
      · have h := h.1 q22
        refine V_aload_n (pc2 := 35) (dk D_X11_close 19 rfl) rfl (V_lg 0 rfl) rfl ?_
        obtain ⟨h23, h⟩ := h
        refine V_getR kc11 (pc2 := 38) 4 (dk D_X11_close 20 rfl) fl_11_49 (by decide) (fun _ => rfl) rfl h23 ?_
        refine V_aload_n (pc2 := 39) (dk D_X11_close 21 rfl) rfl (V_lg 2 rfl) rfl ?_
        obtain ⟨h28, h⟩ := h
        obtain ⟨e24, he25, hc26⟩ := h
        refine V_callV (as := [_]) (st := []) (M' := MX6_deskCloses) (ci := 6) (pc2 := 42) (dk D_X11_close 22 rfl) ml_11_133 mv_X6_deskCloses rfl rfl (by decide) rfl (Nat.le_of_ble_eq_true rfl) rfl he25 h28 hc26 (RV.k fun  S27 h => ?_)
        refine V_aload_n (pc2 := 43) (dk D_X11_close 23 rfl) rfl (V_lg 0 rfl) rfl ?_
        obtain ⟨h29, h⟩ := h
        refine V_getR kc11 (pc2 := 46) 4 (dk D_X11_close 24 rfl) fl_11_49 (by decide) (fun _ => rfl) rfl h29 ?_
        obtain ⟨h34, h⟩ := h
        obtain ⟨e30, he31, hc32⟩ := h
        refine V_callV (as := []) (st := []) (M' := MX6_run) (ci := 6) (pc2 := 49) (dk D_X11_close 25 rfl) ml_11_123 mv_X6_run rfl rfl (by decide) rfl (Nat.le_of_ble_eq_true rfl) rfl he31 h34 hc32 (RV.k fun  S33 h => ?_)
        refine V_aload_n (pc2 := 50) (dk D_X11_close 26 rfl) rfl (V_lg 0 rfl) rfl ?_
        obtain ⟨h35, h⟩ := h
        refine V_getR kc11 (pc2 := 53) 4 (dk D_X11_close 27 rfl) fl_11_49 (by decide) (fun _ => rfl) rfl h35 ?_
        obtain ⟨h41, h⟩ := h
        obtain ⟨e36, he37, hc38⟩ := h
        refine V_callV (as := []) (st := []) (M' := MX6_outcome) (ci := 6) (pc2 := 56) (dk D_X11_close 28 rfl) ml_11_126 mv_X6_outcome rfl rfl (by decide) rfl (Nat.le_of_ble_eq_true rfl) rfl he37 h41 hc38 (RI.k fun y39 S40 h => ?_)
        exact V_ireturn (dk D_X11_close 29 rfl) rfl h
      · have h := h.2 q22
        refine V_iconst (x := 0) (pc2 := 33) (dk D_X11_close 17 rfl) (by decide) rfl ?_
        exact V_ireturn (dk D_X11_close 18 rfl) rfl h
    · have h := h.2 q15
      refine V_iconst (x := (-1)) (pc2 := 24) (dk D_X11_close 12 rfl) (by decide) rfl ?_
      exact V_ireturn (dk D_X11_close 13 rfl) rfl h
  · have h := h.2 q7
    refine V_bipush (x := (-2)) (pc2 := 9) (dk D_X11_close 3 rfl) (by decide) rfl ?_
    exact V_ireturn (dk D_X11_close 4 rfl) rfl h
def L_X11_sweep : List (Nat × Instr × Nat) := [(0, .aload_n 0, 1), (1, .invokevirtual 92, 3), (4, .ifCond .ne 6, 3), (7, .bipush (-2), 2), (9, .ireturn, 1), (10, .aload_n 0, 1), (11, .getfield 49, 3), (14, .invokevirtual 137, 3), (17, .istore_n 1, 1), (18, .iconst 0, 1), (19, .istore_n 2, 1), (20, .iconst 1, 1), (21, .istore_n 3, 1), (22, .iload_n 3, 1), (23, .iload_n 1, 1), (24, .if_icmp .gt 61, 3), (27, .aload_n 0, 1), (28, .getfield 49, 3), (31, .invokevirtual 140, 3), (34, .ifCond .ne 51, 3), (37, .aload_n 0, 1), (38, .getfield 49, 3), (41, .iload_n 3, 1), (42, .invokevirtual 110, 3), (45, .astore 4, 2), (47, .aload 4, 2), (49, .ifnull 30, 3), (52, .aload 4, 2), (54, .invokevirtual 143, 3), (57, .ifCond .eq 22, 3), (60, .iinc 2 1, 3), (63, .aload_n 0, 1), (64, .getfield 49, 3), (67, .aload 4, 2), (69, .invokevirtual 133, 3), (72, .aload_n 0, 1), (73, .getfield 49, 3), (76, .invokevirtual 123, 3), (79, .iinc 3 1, 3), (82, .goto (-60), 3), (85, .iload_n 2, 1), (86, .ireturn, 1)]
theorem D_X11_sweep : dOk cX11_sweep L_X11_sweep = true := by decide +kernel
theorem w_X11_sweep_0 {X : Cx} {d : Nat} {S : Mem} {Q : Res → Mem → Prop} (r0 : Nat) (h : (isK S r0 11) ∧ ∃ e1 : Nat, e1 + 1 ≤ d ∧ C X e1 MX11_plays [vR r0] S (RI fun y4 S5 => ((¬ y4 = 0 → (isK S5 r0 11) ∧ (isK S5 (gR S5 r0 4) 6) ∧ ∃ e9 : Nat, e9 + 1 ≤ d ∧ C X e9 MX6_findReached [vR (gR S5 r0 4)] S5 (RI fun y12 S13 => V X d MX11_sweep 22 [(0, vR r0), (1, vI y12), (2, vI 0), (3, vI 1)] [] S13 Q)) ∧ (y4 = 0 → Q (.inl (some (vI (-2)))) S5)))) : V X d MX11_sweep 0 [(0, vR r0)] [] S Q := by
  refine V_aload_n (pc2 := 1) (dk D_X11_sweep 0 rfl) rfl (V_lg 0 rfl) rfl ?_
  obtain ⟨h6, h⟩ := h
  obtain ⟨e1, he2, hc3⟩ := h
  refine V_callV (as := []) (st := []) (M' := MX11_plays) (ci := 11) (pc2 := 4) (dk D_X11_sweep 1 rfl) ml_11_92 mv_X11_plays rfl rfl (by decide) rfl (Nat.le_of_ble_eq_true rfl) rfl he2 h6 hc3 (RI.k fun y4 S5 h => ?_)
  refine V_ifne (tgt := 10) (pc2 := 7) (dk D_X11_sweep 2 rfl) (by decide) rfl (fun q7 => ?_) (fun q7 => ?_)
  · have h := h.1 q7
    refine V_aload_n (pc2 := 11) (dk D_X11_sweep 5 rfl) rfl (V_lg 0 rfl) rfl ?_
    obtain ⟨h8, h⟩ := h
    refine V_getR kc11 (pc2 := 14) 4 (dk D_X11_sweep 6 rfl) fl_11_49 (by decide) (fun _ => rfl) rfl h8 ?_
    obtain ⟨h14, h⟩ := h
    obtain ⟨e9, he10, hc11⟩ := h
    refine V_callV (as := []) (st := []) (M' := MX6_findReached) (ci := 6) (pc2 := 17) (dk D_X11_sweep 7 rfl) ml_11_137 mv_X6_findReached rfl rfl (by decide) rfl (Nat.le_of_ble_eq_true rfl) rfl he10 h14 hc11 (RI.k fun y12 S13 h => ?_)
    refine V_istore_n (pc2 := 18) (lv2 := [(0, _), (1, _)]) (dk D_X11_sweep 8 rfl) rfl (by decide) rfl rfl ?_
    refine V_iconst (x := 0) (pc2 := 19) (dk D_X11_sweep 9 rfl) (by decide) rfl ?_
    refine V_istore_n (pc2 := 20) (lv2 := [(0, _), (1, _), (2, _)]) (dk D_X11_sweep 10 rfl) rfl (by decide) rfl rfl ?_
    refine V_iconst (x := 1) (pc2 := 21) (dk D_X11_sweep 11 rfl) (by decide) rfl ?_
    refine V_istore_n (pc2 := 22) (lv2 := [(0, _), (1, _), (2, _), (3, _)]) (dk D_X11_sweep 12 rfl) rfl (by decide) rfl rfl ?_
    exact h
  · have h := h.2 q7
    refine V_bipush (x := (-2)) (pc2 := 9) (dk D_X11_sweep 3 rfl) (by decide) rfl ?_
    exact V_ireturn (dk D_X11_sweep 4 rfl) rfl h
def L_X11_answer : List (Nat × Instr × Nat) := [(0, .aload_n 0, 1), (1, .getfield 77, 3), (4, .ifCond .eq 13, 3), (7, .aload_n 0, 1), (8, .getfield 49, 3), (11, .invokevirtual 146, 3), (14, .goto 5, 3), (17, .bipush (-2), 2), (19, .ireturn, 1)]
theorem D_X11_answer : dOk cX11_answer L_X11_answer = true := by decide +kernel
theorem w_X11_answer_0 {X : Cx} {d : Nat} {S : Mem} {Q : Res → Mem → Prop} (r0 : Nat) (h : (isK S r0 11) ∧ (((gI S r0 5) = 0 → V X d MX11_answer 19 [(0, vR r0)] [vI (-2)] S Q) ∧ (¬ (gI S r0 5) = 0 → (isK S (gR S r0 4) 6) ∧ ∃ e3 : Nat, e3 + 1 ≤ d ∧ C X e3 MX6_given [vR (gR S r0 4)] S (RI fun y6 S7 => V X d MX11_answer 19 [(0, vR r0)] [vI y6] S7 Q)))) : V X d MX11_answer 0 [(0, vR r0)] [] S Q := by
  refine V_aload_n (pc2 := 1) (dk D_X11_answer 0 rfl) rfl (V_lg 0 rfl) rfl ?_
  obtain ⟨h1, h⟩ := h
  refine V_getI kc11 (pc2 := 4) 5 (dk D_X11_answer 1 rfl) fl_11_77 (by decide) (fun _ => rfl) rfl h1 ?_
  refine V_ifeq (tgt := 17) (pc2 := 7) (dk D_X11_answer 2 rfl) (by decide) rfl (fun q2 => ?_) (fun q2 => ?_)
  · have h := h.1 q2
    refine V_bipush (x := (-2)) (pc2 := 19) (dk D_X11_answer 7 rfl) (by decide) rfl ?_
    exact h
  · have h := h.2 q2
    refine V_aload_n (pc2 := 8) (dk D_X11_answer 3 rfl) rfl (V_lg 0 rfl) rfl ?_
    refine V_getR kc11 (pc2 := 11) 4 (dk D_X11_answer 4 rfl) fl_11_49 (by decide) (fun _ => rfl) rfl h1 ?_
    obtain ⟨h8, h⟩ := h
    obtain ⟨e3, he4, hc5⟩ := h
    refine V_callV (as := []) (st := []) (M' := MX6_given) (ci := 6) (pc2 := 14) (dk D_X11_answer 5 rfl) ml_11_146 mv_X6_given rfl rfl (by decide) rfl (Nat.le_of_ble_eq_true rfl) rfl he4 h8 hc5 (RI.k fun y6 S7 h => ?_)
    refine V_goto (tgt := 19) (dk D_X11_answer 6 rfl) (by decide) ?_
    exact h
theorem w_X11_answer_19 {X : Cx} {d : Nat} {S : Mem} {Q : Res → Mem → Prop} (r0 : Nat) (t0 : Int32) (h : Q (.inl (some (vI t0))) S) : V X d MX11_answer 19 [(0, vR r0)] [vI t0] S Q := by
  exact V_ireturn (dk D_X11_answer 8 rfl) rfl h
def L_X11_told : List (Nat × Instr × Nat) := [(0, .aload_n 0, 1), (1, .getfield 77, 3), (4, .ifCond .ne 6, 3), (7, .bipush (-2), 2), (9, .ireturn, 1), (10, .aload_n 0, 1), (11, .getfield 49, 3), (14, .iload_n 1, 1), (15, .invokevirtual 110, 3), (18, .astore_n 3, 1), (19, .aload_n 3, 1), (20, .ifnull 13, 3), (23, .iload_n 2, 1), (24, .ifCond .lt 9, 3), (27, .iload_n 2, 1), (28, .bipush 6, 2), (30, .if_icmp .le 7, 3), (33, .iconst (-1), 1), (34, .goto 8, 3), (37, .aload_n 3, 1), (38, .iload_n 2, 1), (39, .invokevirtual 149, 3), (42, .ireturn, 1)]
theorem D_X11_told : dOk cX11_told L_X11_told = true := by decide +kernel
theorem w_X11_told_0 {X : Cx} {d : Nat} {S : Mem} {Q : Res → Mem → Prop} (r0 : Nat) (x1 : Int32) (x2 : Int32) (h : (isK S r0 11) ∧ ((¬ (gI S r0 5) = 0 → (isK S (gR S r0 4) 6) ∧ ∃ e3 : Nat, e3 + 1 ≤ d ∧ C X e3 MX6_find [vR (gR S r0 4), vI x1] S (RR fun p6 S7 => ((p6 = 0 → V X d MX11_told 33 [(0, vR r0), (1, vI x1), (2, vI x2), (3, vR p6)] [] S7 Q) ∧ (¬ p6 = 0 → ((x2 < 0 → V X d MX11_told 33 [(0, vR r0), (1, vI x1), (2, vI x2), (3, vR p6)] [] S7 Q) ∧ (¬ x2 < 0 → ((x2 ≤ 6 → (isK S7 p6 10) ∧ ∃ e12 : Nat, e12 + 1 ≤ d ∧ C X e12 MX10_fact [vR p6, vI x2] S7 (RI fun y15 S16 => V X d MX11_told 42 [(0, vR r0), (1, vI x1), (2, vI x2), (3, vR p6)] [vI y15] S16 Q)) ∧ (¬ x2 ≤ 6 → V X d MX11_told 33 [(0, vR r0), (1, vI x1), (2, vI x2), (3, vR p6)] [] S7 Q)))))))) ∧ ((gI S r0 5) = 0 → Q (.inl (some (vI (-2)))) S))) : V X d MX11_told 0 [(0, vR r0), (1, vI x1), (2, vI x2)] [] S Q := by
  refine V_aload_n (pc2 := 1) (dk D_X11_told 0 rfl) rfl (V_lg 0 rfl) rfl ?_
  obtain ⟨h1, h⟩ := h
  refine V_getI kc11 (pc2 := 4) 5 (dk D_X11_told 1 rfl) fl_11_77 (by decide) (fun _ => rfl) rfl h1 ?_
  refine V_ifne (tgt := 10) (pc2 := 7) (dk D_X11_told 2 rfl) (by decide) rfl (fun q2 => ?_) (fun q2 => ?_)
  · have h := h.1 q2
    refine V_aload_n (pc2 := 11) (dk D_X11_told 5 rfl) rfl (V_lg 0 rfl) rfl ?_
    refine V_getR kc11 (pc2 := 14) 4 (dk D_X11_told 6 rfl) fl_11_49 (by decide) (fun _ => rfl) rfl h1 ?_
    refine V_iload_n (pc2 := 15) (dk D_X11_told 7 rfl) rfl (V_lg 1 rfl) rfl ?_
    obtain ⟨h8, h⟩ := h
    obtain ⟨e3, he4, hc5⟩ := h
    refine V_callV (as := [_]) (st := []) (M' := MX6_find) (ci := 6) (pc2 := 18) (dk D_X11_told 8 rfl) ml_11_110 mv_X6_find rfl rfl (by decide) rfl (Nat.le_of_ble_eq_true rfl) rfl he4 h8 hc5 (RR.k fun p6 S7 h => ?_)
    refine V_astore_n (pc2 := 19) (lv2 := [(0, _), (1, _), (2, _), (3, _)]) (dk D_X11_told 9 rfl) rfl (by decide) rfl rfl ?_
    refine V_aload_n (pc2 := 20) (dk D_X11_told 10 rfl) rfl (V_lg 3 rfl) rfl ?_
    refine V_ifnull (tgt := 33) (pc2 := 23) (dk D_X11_told 11 rfl) (by decide) rfl (fun q9 => ?_) (fun q9 => ?_)
    · have h := h.1 q9
      exact h
    · have h := h.2 q9
      refine V_iload_n (pc2 := 24) (dk D_X11_told 12 rfl) rfl (V_lg 2 rfl) rfl ?_
      refine V_iflt (tgt := 33) (pc2 := 27) (dk D_X11_told 13 rfl) (by decide) rfl (fun q10 => ?_) (fun q10 => ?_)
      · have h := h.1 q10
        exact h
      · have h := h.2 q10
        refine V_iload_n (pc2 := 28) (dk D_X11_told 14 rfl) rfl (V_lg 2 rfl) rfl ?_
        refine V_bipush (x := 6) (pc2 := 30) (dk D_X11_told 15 rfl) (by decide) rfl ?_
        refine V_cmple (tgt := 37) (pc2 := 33) (dk D_X11_told 16 rfl) (by decide) rfl (fun q11 => ?_) (fun q11 => ?_)
        · have h := h.1 q11
          refine V_aload_n (pc2 := 38) (dk D_X11_told 19 rfl) rfl (V_lg 3 rfl) rfl ?_
          refine V_iload_n (pc2 := 39) (dk D_X11_told 20 rfl) rfl (V_lg 2 rfl) rfl ?_
          obtain ⟨h17, h⟩ := h
          obtain ⟨e12, he13, hc14⟩ := h
          refine V_callV (as := [_]) (st := []) (M' := MX10_fact) (ci := 10) (pc2 := 42) (dk D_X11_told 21 rfl) ml_11_149 mv_X10_fact rfl rfl (by decide) rfl (Nat.le_of_ble_eq_true rfl) rfl he13 h17 hc14 (RI.k fun y15 S16 h => ?_)
          exact h
        · have h := h.2 q11
          exact h
  · have h := h.2 q2
    refine V_bipush (x := (-2)) (pc2 := 9) (dk D_X11_told 3 rfl) (by decide) rfl ?_
    exact V_ireturn (dk D_X11_told 4 rfl) rfl h
def L_X11_local : List (Nat × Instr × Nat) := [(0, .aload_n 0, 1), (1, .getfield 77, 3), (4, .ifCond .ne 6, 3), (7, .bipush (-2), 2), (9, .ireturn, 1), (10, .aload_n 0, 1), (11, .getfield 49, 3), (14, .iload_n 1, 1), (15, .invokevirtual 110, 3), (18, .astore 4, 2), (20, .aload 4, 2), (22, .ifnonnull 5, 3), (25, .iconst (-1), 1), (26, .ireturn, 1), (27, .aload 4, 2), (29, .getfield 150, 3), (32, .ifCond .ne 30, 3), (35, .iload_n 2, 1), (36, .ifCond .ne 24, 3), (39, .iload_n 3, 1), (40, .ifCond .ne 20, 3), (43, .aload_n 0, 1), (44, .aload 4, 2), (46, .invokevirtual 153, 3), (49, .ifCond .eq 11, 3), (52, .aload 4, 2), (54, .getfield 157, 3), (57, .goto 4, 3), (60, .iconst (-1), 1), (61, .ireturn, 1), (62, .aload 4, 2), (64, .iload_n 2, 1), (65, .invokevirtual 160, 3), (68, .istore 5, 2), (70, .iload_n 3, 1), (71, .ifCond .lt 14, 3), (74, .iload_n 3, 1), (75, .aload 4, 2), (77, .iload 5, 2), (79, .invokevirtual 163, 3), (82, .if_icmp .lt 7, 3), (85, .iconst (-1), 1), (86, .goto 11, 3), (89, .aload 4, 2), (91, .iload 5, 2), (93, .iload_n 3, 1), (94, .invokevirtual 166, 3), (97, .ireturn, 1)]
theorem D_X11_local : dOk cX11_local L_X11_local = true := by decide +kernel
theorem w_X11_local_0 {X : Cx} {d : Nat} {S : Mem} {Q : Res → Mem → Prop} (r0 : Nat) (x1 : Int32) (x2 : Int32) (x3 : Int32) (h : (isK S r0 11) ∧ ((¬ (gI S r0 5) = 0 → (isK S (gR S r0 4) 6) ∧ ∃ e3 : Nat, e3 + 1 ≤ d ∧ C X e3 MX6_find [vR (gR S r0 4), vI x1] S (RR fun p6 S7 => ((¬ p6 = 0 → (isK S7 p6 10) ∧ ((¬ (gI S7 p6 1) = 0 → ∃ e12 : Nat, e12 + 1 ≤ d ∧ C X e12 MX10_frameOf [vR p6, vI x2] S7 (RI fun y15 S16 => ((x3 < 0 → V X d MX11_local 85 [(0, vR r0), (1, vI x1), (2, vI x2), (3, vI x3), (4, vR p6), (5, vI y15)] [] S16 Q) ∧ (¬ x3 < 0 → (isK S16 p6 10) ∧ ∃ e18 : Nat, e18 + 1 ≤ d ∧ C X e18 MX10_variablesOf [vR p6, vI y15] S16 (RI fun y21 S22 => ((x3 < y21 → (isK S22 p6 10) ∧ ∃ e25 : Nat, e25 + 1 ≤ d ∧ C X e25 MX10_variable [vR p6, vI y15, vI x3] S22 (RI fun y28 S29 => V X d MX11_local 97 [(0, vR r0), (1, vI x1), (2, vI x2), (3, vI x3), (4, vR p6), (5, vI y15)] [vI y28] S29 Q)) ∧ (¬ x3 < y21 → V X d MX11_local 85 [(0, vR r0), (1, vI x1), (2, vI x2), (3, vI x3), (4, vR p6), (5, vI y15)] [] S22 Q))))))) ∧ ((gI S7 p6 1) = 0 → ((¬ x2 = 0 → V X d MX11_local 60 [(0, vR r0), (1, vI x1), (2, vI x2), (3, vI x3), (4, vR p6)] [] S7 Q) ∧ (x2 = 0 → ((¬ x3 = 0 → V X d MX11_local 60 [(0, vR r0), (1, vI x1), (2, vI x2), (3, vI x3), (4, vR p6)] [] S7 Q) ∧ (x3 = 0 → (isK S7 r0 11) ∧ ∃ e33 : Nat, e33 + 1 ≤ d ∧ C X e33 MX11_hasArgument [vR r0, vR p6] S7 (RI fun y36 S37 => ((y36 = 0 → V X d MX11_local 60 [(0, vR r0), (1, vI x1), (2, vI x2), (3, vI x3), (4, vR p6)] [] S37 Q) ∧ (¬ y36 = 0 → (isK S37 p6 10) ∧ V X d MX11_local 61 [(0, vR r0), (1, vI x1), (2, vI x2), (3, vI x3), (4, vR p6)] [vI (gI S37 p6 3)] S37 Q)))))))))) ∧ (p6 = 0 → Q (.inl (some (vI (-1)))) S7)))) ∧ ((gI S r0 5) = 0 → Q (.inl (some (vI (-2)))) S))) : V X d MX11_local 0 [(0, vR r0), (1, vI x1), (2, vI x2), (3, vI x3)] [] S Q := by
  refine V_aload_n (pc2 := 1) (dk D_X11_local 0 rfl) rfl (V_lg 0 rfl) rfl ?_
  obtain ⟨h1, h⟩ := h
  refine V_getI kc11 (pc2 := 4) 5 (dk D_X11_local 1 rfl) fl_11_77 (by decide) (fun _ => rfl) rfl h1 ?_
  refine V_ifne (tgt := 10) (pc2 := 7) (dk D_X11_local 2 rfl) (by decide) rfl (fun q2 => ?_) (fun q2 => ?_)
  · have h := h.1 q2
    refine V_aload_n (pc2 := 11) (dk D_X11_local 5 rfl) rfl (V_lg 0 rfl) rfl ?_
    refine V_getR kc11 (pc2 := 14) 4 (dk D_X11_local 6 rfl) fl_11_49 (by decide) (fun _ => rfl) rfl h1 ?_
    refine V_iload_n (pc2 := 15) (dk D_X11_local 7 rfl) rfl (V_lg 1 rfl) rfl ?_
    obtain ⟨h8, h⟩ := h
    obtain ⟨e3, he4, hc5⟩ := h
    refine V_callV (as := [_]) (st := []) (M' := MX6_find) (ci := 6) (pc2 := 18) (dk D_X11_local 8 rfl) ml_11_110 mv_X6_find rfl rfl (by decide) rfl (Nat.le_of_ble_eq_true rfl) rfl he4 h8 hc5 (RR.k fun p6 S7 h => ?_)
    refine V_astore (pc2 := 20) (lv2 := [(0, _), (1, _), (2, _), (3, _), (4, _)]) (dk D_X11_local 9 rfl) (by decide) rfl rfl ?_
    refine V_aload (pc2 := 22) (dk D_X11_local 10 rfl) (V_lg 4 rfl) rfl ?_
    refine V_ifnonnull (tgt := 27) (pc2 := 25) (dk D_X11_local 11 rfl) (by decide) rfl (fun q9 => ?_) (fun q9 => ?_)
    · have h := h.1 q9
      refine V_aload (pc2 := 29) (dk D_X11_local 14 rfl) (V_lg 4 rfl) rfl ?_
      obtain ⟨h10, h⟩ := h
      refine V_getI kc10 (pc2 := 32) 1 (dk D_X11_local 15 rfl) fl_11_150 (by decide) (fun _ => rfl) rfl h10 ?_
      refine V_ifne (tgt := 62) (pc2 := 35) (dk D_X11_local 16 rfl) (by decide) rfl (fun q11 => ?_) (fun q11 => ?_)
      · have h := h.1 q11
        refine V_aload (pc2 := 64) (dk D_X11_local 30 rfl) (V_lg 4 rfl) rfl ?_
        refine V_iload_n (pc2 := 65) (dk D_X11_local 31 rfl) rfl (V_lg 2 rfl) rfl ?_
        obtain ⟨e12, he13, hc14⟩ := h
        refine V_callV (as := [_]) (st := []) (M' := MX10_frameOf) (ci := 10) (pc2 := 68) (dk D_X11_local 32 rfl) ml_11_160 mv_X10_frameOf rfl rfl (by decide) rfl (Nat.le_of_ble_eq_true rfl) rfl he13 h10 hc14 (RI.k fun y15 S16 h => ?_)
        refine V_istore (pc2 := 70) (lv2 := [(0, _), (1, _), (2, _), (3, _), (4, _), (5, _)]) (dk D_X11_local 33 rfl) (by decide) rfl rfl ?_
        refine V_iload_n (pc2 := 71) (dk D_X11_local 34 rfl) rfl (V_lg 3 rfl) rfl ?_
        refine V_iflt (tgt := 85) (pc2 := 74) (dk D_X11_local 35 rfl) (by decide) rfl (fun q17 => ?_) (fun q17 => ?_)
        · have h := h.1 q17
          exact h
        · have h := h.2 q17
          refine V_iload_n (pc2 := 75) (dk D_X11_local 36 rfl) rfl (V_lg 3 rfl) rfl ?_
          refine V_aload (pc2 := 77) (dk D_X11_local 37 rfl) (V_lg 4 rfl) rfl ?_
          refine V_iload (pc2 := 79) (dk D_X11_local 38 rfl) (V_lg 5 rfl) rfl ?_
          obtain ⟨h23, h⟩ := h
          obtain ⟨e18, he19, hc20⟩ := h
          refine V_callV (as := [_]) (st := [_]) (M' := MX10_variablesOf) (ci := 10) (pc2 := 82) (dk D_X11_local 39 rfl) ml_11_163 mv_X10_variablesOf rfl rfl (by decide) rfl (Nat.le_of_ble_eq_true rfl) rfl he19 h23 hc20 (RI.k fun y21 S22 h => ?_)
          refine V_cmplt (tgt := 89) (pc2 := 85) (dk D_X11_local 40 rfl) (by decide) rfl (fun q24 => ?_) (fun q24 => ?_)
          · have h := h.1 q24
            refine V_aload (pc2 := 91) (dk D_X11_local 43 rfl) (V_lg 4 rfl) rfl ?_
            refine V_iload (pc2 := 93) (dk D_X11_local 44 rfl) (V_lg 5 rfl) rfl ?_
            refine V_iload_n (pc2 := 94) (dk D_X11_local 45 rfl) rfl (V_lg 3 rfl) rfl ?_
            obtain ⟨h30, h⟩ := h
            obtain ⟨e25, he26, hc27⟩ := h
            refine V_callV (as := [_, _]) (st := []) (M' := MX10_variable) (ci := 10) (pc2 := 97) (dk D_X11_local 46 rfl) ml_11_166 mv_X10_variable rfl rfl (by decide) rfl (Nat.le_of_ble_eq_true rfl) rfl he26 h30 hc27 (RI.k fun y28 S29 h => ?_)
            exact h
          · have h := h.2 q24
            exact h
      · have h := h.2 q11
        refine V_iload_n (pc2 := 36) (dk D_X11_local 17 rfl) rfl (V_lg 2 rfl) rfl ?_
        refine V_ifne (tgt := 60) (pc2 := 39) (dk D_X11_local 18 rfl) (by decide) rfl (fun q31 => ?_) (fun q31 => ?_)
        · have h := h.1 q31
          exact h
        · have h := h.2 q31
          refine V_iload_n (pc2 := 40) (dk D_X11_local 19 rfl) rfl (V_lg 3 rfl) rfl ?_
          refine V_ifne (tgt := 60) (pc2 := 43) (dk D_X11_local 20 rfl) (by decide) rfl (fun q32 => ?_) (fun q32 => ?_)
          · have h := h.1 q32
            exact h
          · have h := h.2 q32
            refine V_aload_n (pc2 := 44) (dk D_X11_local 21 rfl) rfl (V_lg 0 rfl) rfl ?_
            refine V_aload (pc2 := 46) (dk D_X11_local 22 rfl) (V_lg 4 rfl) rfl ?_
            obtain ⟨h38, h⟩ := h
            obtain ⟨e33, he34, hc35⟩ := h
            refine V_callV (as := [_]) (st := []) (M' := MX11_hasArgument) (ci := 11) (pc2 := 49) (dk D_X11_local 23 rfl) ml_11_153 mv_X11_hasArgument rfl rfl (by decide) rfl (Nat.le_of_ble_eq_true rfl) rfl he34 h38 hc35 (RI.k fun y36 S37 h => ?_)
            refine V_ifeq (tgt := 60) (pc2 := 52) (dk D_X11_local 24 rfl) (by decide) rfl (fun q39 => ?_) (fun q39 => ?_)
            · have h := h.1 q39
              exact h
            · have h := h.2 q39
              refine V_aload (pc2 := 54) (dk D_X11_local 25 rfl) (V_lg 4 rfl) rfl ?_
              obtain ⟨h40, h⟩ := h
              refine V_getI kc10 (pc2 := 57) 3 (dk D_X11_local 26 rfl) fl_11_157 (by decide) (fun _ => rfl) rfl h40 ?_
              refine V_goto (tgt := 61) (dk D_X11_local 27 rfl) (by decide) ?_
              exact h
    · have h := h.2 q9
      refine V_iconst (x := (-1)) (pc2 := 26) (dk D_X11_local 12 rfl) (by decide) rfl ?_
      exact V_ireturn (dk D_X11_local 13 rfl) rfl h
  · have h := h.2 q2
    refine V_bipush (x := (-2)) (pc2 := 9) (dk D_X11_local 3 rfl) (by decide) rfl ?_
    exact V_ireturn (dk D_X11_local 4 rfl) rfl h
def L_X11_lines : List (Nat × Instr × Nat) := [(0, .aload_n 0, 1), (1, .getfield 77, 3), (4, .ifCond .eq 16, 3), (7, .aload_n 0, 1), (8, .getfield 49, 3), (11, .getfield 170, 3), (14, .invokevirtual 174, 3), (17, .goto 5, 3), (20, .bipush (-2), 2), (22, .ireturn, 1)]
theorem D_X11_lines : dOk cX11_lines L_X11_lines = true := by decide +kernel
theorem w_X11_lines_0 {X : Cx} {d : Nat} {S : Mem} {Q : Res → Mem → Prop} (r0 : Nat) (h : (isK S r0 11) ∧ (((gI S r0 5) = 0 → V X d MX11_lines 22 [(0, vR r0)] [vI (-2)] S Q) ∧ (¬ (gI S r0 5) = 0 → (isK S (gR S r0 4) 6) ∧ (isK S (gR S (gR S r0 4) 0) 4) ∧ ∃ e4 : Nat, e4 + 1 ≤ d ∧ C X e4 MX4_total [vR (gR S (gR S r0 4) 0)] S (RI fun y7 S8 => V X d MX11_lines 22 [(0, vR r0)] [vI y7] S8 Q)))) : V X d MX11_lines 0 [(0, vR r0)] [] S Q := by
  refine V_aload_n (pc2 := 1) (dk D_X11_lines 0 rfl) rfl (V_lg 0 rfl) rfl ?_
  obtain ⟨h1, h⟩ := h
  refine V_getI kc11 (pc2 := 4) 5 (dk D_X11_lines 1 rfl) fl_11_77 (by decide) (fun _ => rfl) rfl h1 ?_
  refine V_ifeq (tgt := 20) (pc2 := 7) (dk D_X11_lines 2 rfl) (by decide) rfl (fun q2 => ?_) (fun q2 => ?_)
  · have h := h.1 q2
    refine V_bipush (x := (-2)) (pc2 := 22) (dk D_X11_lines 8 rfl) (by decide) rfl ?_
    exact h
  · have h := h.2 q2
    refine V_aload_n (pc2 := 8) (dk D_X11_lines 3 rfl) rfl (V_lg 0 rfl) rfl ?_
    refine V_getR kc11 (pc2 := 11) 4 (dk D_X11_lines 4 rfl) fl_11_49 (by decide) (fun _ => rfl) rfl h1 ?_
    obtain ⟨h3, h⟩ := h
    refine V_getR kc6 (pc2 := 14) 0 (dk D_X11_lines 5 rfl) fl_11_170 (by decide) (fun _ => rfl) rfl h3 ?_
    obtain ⟨h9, h⟩ := h
    obtain ⟨e4, he5, hc6⟩ := h
    refine V_callV (as := []) (st := []) (M' := MX4_total) (ci := 4) (pc2 := 17) (dk D_X11_lines 6 rfl) ml_11_174 mv_X4_total rfl rfl (by decide) rfl (Nat.le_of_ble_eq_true rfl) rfl he5 h9 hc6 (RI.k fun y7 S8 h => ?_)
    refine V_goto (tgt := 22) (dk D_X11_lines 7 rfl) (by decide) ?_
    exact h
theorem w_X11_lines_22 {X : Cx} {d : Nat} {S : Mem} {Q : Res → Mem → Prop} (r0 : Nat) (t0 : Int32) (h : Q (.inl (some (vI t0))) S) : V X d MX11_lines 22 [(0, vR r0)] [vI t0] S Q := by
  exact V_ireturn (dk D_X11_lines 9 rfl) rfl h
def L_X11_line : List (Nat × Instr × Nat) := [(0, .aload_n 0, 1), (1, .getfield 77, 3), (4, .ifCond .eq 18, 3), (7, .aload_n 0, 1), (8, .getfield 49, 3), (11, .getfield 170, 3), (14, .iload_n 1, 1), (15, .iload_n 2, 1), (16, .invokestatic 179, 3), (19, .goto 5, 3), (22, .bipush (-2), 2), (24, .ireturn, 1)]
theorem D_X11_line : dOk cX11_line L_X11_line = true := by decide +kernel
theorem w_X11_line_0 {X : Cx} {d : Nat} {S : Mem} {Q : Res → Mem → Prop} (r0 : Nat) (x1 : Int32) (x2 : Int32) (h : (isK S r0 11) ∧ (((gI S r0 5) = 0 → V X d MX11_line 24 [(0, vR r0), (1, vI x1), (2, vI x2)] [vI (-2)] S Q) ∧ (¬ (gI S r0 5) = 0 → (isK S (gR S r0 4) 6) ∧ ∃ e4 : Nat, e4 + 1 ≤ d ∧ C X e4 MX11_kept [vR (gR S (gR S r0 4) 0), vI x1, vI x2] S (RI fun y7 S8 => V X d MX11_line 24 [(0, vR r0), (1, vI x1), (2, vI x2)] [vI y7] S8 Q)))) : V X d MX11_line 0 [(0, vR r0), (1, vI x1), (2, vI x2)] [] S Q := by
  refine V_aload_n (pc2 := 1) (dk D_X11_line 0 rfl) rfl (V_lg 0 rfl) rfl ?_
  obtain ⟨h1, h⟩ := h
  refine V_getI kc11 (pc2 := 4) 5 (dk D_X11_line 1 rfl) fl_11_77 (by decide) (fun _ => rfl) rfl h1 ?_
  refine V_ifeq (tgt := 22) (pc2 := 7) (dk D_X11_line 2 rfl) (by decide) rfl (fun q2 => ?_) (fun q2 => ?_)
  · have h := h.1 q2
    refine V_bipush (x := (-2)) (pc2 := 24) (dk D_X11_line 10 rfl) (by decide) rfl ?_
    exact h
  · have h := h.2 q2
    refine V_aload_n (pc2 := 8) (dk D_X11_line 3 rfl) rfl (V_lg 0 rfl) rfl ?_
    refine V_getR kc11 (pc2 := 11) 4 (dk D_X11_line 4 rfl) fl_11_49 (by decide) (fun _ => rfl) rfl h1 ?_
    obtain ⟨h3, h⟩ := h
    refine V_getR kc6 (pc2 := 14) 0 (dk D_X11_line 5 rfl) fl_11_170 (by decide) (fun _ => rfl) rfl h3 ?_
    refine V_iload_n (pc2 := 15) (dk D_X11_line 6 rfl) rfl (V_lg 1 rfl) rfl ?_
    refine V_iload_n (pc2 := 16) (dk D_X11_line 7 rfl) rfl (V_lg 2 rfl) rfl ?_
    obtain ⟨e4, he5, hc6⟩ := h
    refine V_callS (as := [_, _, _]) (st := []) (M' := MX11_kept) (pc2 := 19) (dk D_X11_line 8 rfl) ml_11_179 mv_X11_kept rfl rfl (Nat.le_of_ble_eq_true rfl) rfl he5 hc6 (RI.k fun y7 S8 h => ?_)
    refine V_goto (tgt := 24) (dk D_X11_line 9 rfl) (by decide) ?_
    exact h
theorem w_X11_line_24 {X : Cx} {d : Nat} {S : Mem} {Q : Res → Mem → Prop} (r0 : Nat) (x1 : Int32) (x2 : Int32) (t0 : Int32) (h : Q (.inl (some (vI t0))) S) : V X d MX11_line 24 [(0, vR r0), (1, vI x1), (2, vI x2)] [vI t0] S Q := by
  exact V_ireturn (dk D_X11_line 11 rfl) rfl h
def L_X11_handings : List (Nat × Instr × Nat) := [(0, .aload_n 0, 1), (1, .getfield 77, 3), (4, .ifCond .eq 16, 3), (7, .aload_n 0, 1), (8, .getfield 49, 3), (11, .getfield 183, 3), (14, .invokevirtual 174, 3), (17, .goto 5, 3), (20, .bipush (-2), 2), (22, .ireturn, 1)]
theorem D_X11_handings : dOk cX11_handings L_X11_handings = true := by decide +kernel
theorem w_X11_handings_0 {X : Cx} {d : Nat} {S : Mem} {Q : Res → Mem → Prop} (r0 : Nat) (h : (isK S r0 11) ∧ (((gI S r0 5) = 0 → V X d MX11_handings 22 [(0, vR r0)] [vI (-2)] S Q) ∧ (¬ (gI S r0 5) = 0 → (isK S (gR S r0 4) 6) ∧ (isK S (gR S (gR S r0 4) 1) 4) ∧ ∃ e4 : Nat, e4 + 1 ≤ d ∧ C X e4 MX4_total [vR (gR S (gR S r0 4) 1)] S (RI fun y7 S8 => V X d MX11_handings 22 [(0, vR r0)] [vI y7] S8 Q)))) : V X d MX11_handings 0 [(0, vR r0)] [] S Q := by
  refine V_aload_n (pc2 := 1) (dk D_X11_handings 0 rfl) rfl (V_lg 0 rfl) rfl ?_
  obtain ⟨h1, h⟩ := h
  refine V_getI kc11 (pc2 := 4) 5 (dk D_X11_handings 1 rfl) fl_11_77 (by decide) (fun _ => rfl) rfl h1 ?_
  refine V_ifeq (tgt := 20) (pc2 := 7) (dk D_X11_handings 2 rfl) (by decide) rfl (fun q2 => ?_) (fun q2 => ?_)
  · have h := h.1 q2
    refine V_bipush (x := (-2)) (pc2 := 22) (dk D_X11_handings 8 rfl) (by decide) rfl ?_
    exact h
  · have h := h.2 q2
    refine V_aload_n (pc2 := 8) (dk D_X11_handings 3 rfl) rfl (V_lg 0 rfl) rfl ?_
    refine V_getR kc11 (pc2 := 11) 4 (dk D_X11_handings 4 rfl) fl_11_49 (by decide) (fun _ => rfl) rfl h1 ?_
    obtain ⟨h3, h⟩ := h
    refine V_getR kc6 (pc2 := 14) 1 (dk D_X11_handings 5 rfl) fl_11_183 (by decide) (fun _ => rfl) rfl h3 ?_
    obtain ⟨h9, h⟩ := h
    obtain ⟨e4, he5, hc6⟩ := h
    refine V_callV (as := []) (st := []) (M' := MX4_total) (ci := 4) (pc2 := 17) (dk D_X11_handings 6 rfl) ml_11_174 mv_X4_total rfl rfl (by decide) rfl (Nat.le_of_ble_eq_true rfl) rfl he5 h9 hc6 (RI.k fun y7 S8 h => ?_)
    refine V_goto (tgt := 22) (dk D_X11_handings 7 rfl) (by decide) ?_
    exact h
theorem w_X11_handings_22 {X : Cx} {d : Nat} {S : Mem} {Q : Res → Mem → Prop} (r0 : Nat) (t0 : Int32) (h : Q (.inl (some (vI t0))) S) : V X d MX11_handings 22 [(0, vR r0)] [vI t0] S Q := by
  exact V_ireturn (dk D_X11_handings 9 rfl) rfl h
def L_X11_handing : List (Nat × Instr × Nat) := [(0, .aload_n 0, 1), (1, .getfield 77, 3), (4, .ifCond .eq 18, 3), (7, .aload_n 0, 1), (8, .getfield 49, 3), (11, .getfield 183, 3), (14, .iload_n 1, 1), (15, .iload_n 2, 1), (16, .invokestatic 179, 3), (19, .goto 5, 3), (22, .bipush (-2), 2), (24, .ireturn, 1)]
theorem D_X11_handing : dOk cX11_handing L_X11_handing = true := by decide +kernel
theorem w_X11_handing_0 {X : Cx} {d : Nat} {S : Mem} {Q : Res → Mem → Prop} (r0 : Nat) (x1 : Int32) (x2 : Int32) (h : (isK S r0 11) ∧ (((gI S r0 5) = 0 → V X d MX11_handing 24 [(0, vR r0), (1, vI x1), (2, vI x2)] [vI (-2)] S Q) ∧ (¬ (gI S r0 5) = 0 → (isK S (gR S r0 4) 6) ∧ ∃ e4 : Nat, e4 + 1 ≤ d ∧ C X e4 MX11_kept [vR (gR S (gR S r0 4) 1), vI x1, vI x2] S (RI fun y7 S8 => V X d MX11_handing 24 [(0, vR r0), (1, vI x1), (2, vI x2)] [vI y7] S8 Q)))) : V X d MX11_handing 0 [(0, vR r0), (1, vI x1), (2, vI x2)] [] S Q := by
  refine V_aload_n (pc2 := 1) (dk D_X11_handing 0 rfl) rfl (V_lg 0 rfl) rfl ?_
  obtain ⟨h1, h⟩ := h
  refine V_getI kc11 (pc2 := 4) 5 (dk D_X11_handing 1 rfl) fl_11_77 (by decide) (fun _ => rfl) rfl h1 ?_
  refine V_ifeq (tgt := 22) (pc2 := 7) (dk D_X11_handing 2 rfl) (by decide) rfl (fun q2 => ?_) (fun q2 => ?_)
  · have h := h.1 q2
    refine V_bipush (x := (-2)) (pc2 := 24) (dk D_X11_handing 10 rfl) (by decide) rfl ?_
    exact h
  · have h := h.2 q2
    refine V_aload_n (pc2 := 8) (dk D_X11_handing 3 rfl) rfl (V_lg 0 rfl) rfl ?_
    refine V_getR kc11 (pc2 := 11) 4 (dk D_X11_handing 4 rfl) fl_11_49 (by decide) (fun _ => rfl) rfl h1 ?_
    obtain ⟨h3, h⟩ := h
    refine V_getR kc6 (pc2 := 14) 1 (dk D_X11_handing 5 rfl) fl_11_183 (by decide) (fun _ => rfl) rfl h3 ?_
    refine V_iload_n (pc2 := 15) (dk D_X11_handing 6 rfl) rfl (V_lg 1 rfl) rfl ?_
    refine V_iload_n (pc2 := 16) (dk D_X11_handing 7 rfl) rfl (V_lg 2 rfl) rfl ?_
    obtain ⟨e4, he5, hc6⟩ := h
    refine V_callS (as := [_, _, _]) (st := []) (M' := MX11_kept) (pc2 := 19) (dk D_X11_handing 8 rfl) ml_11_179 mv_X11_kept rfl rfl (Nat.le_of_ble_eq_true rfl) rfl he5 hc6 (RI.k fun y7 S8 h => ?_)
    refine V_goto (tgt := 24) (dk D_X11_handing 9 rfl) (by decide) ?_
    exact h
theorem w_X11_handing_24 {X : Cx} {d : Nat} {S : Mem} {Q : Res → Mem → Prop} (r0 : Nat) (x1 : Int32) (x2 : Int32) (t0 : Int32) (h : Q (.inl (some (vI t0))) S) : V X d MX11_handing 24 [(0, vR r0), (1, vI x1), (2, vI x2)] [vI t0] S Q := by
  exact V_ireturn (dk D_X11_handing 11 rfl) rfl h
def L_X11_failures : List (Nat × Instr × Nat) := [(0, .aload_n 0, 1), (1, .getfield 77, 3), (4, .ifCond .eq 16, 3), (7, .aload_n 0, 1), (8, .getfield 49, 3), (11, .getfield 186, 3), (14, .invokevirtual 190, 3), (17, .goto 5, 3), (20, .bipush (-2), 2), (22, .ireturn, 1)]
theorem D_X11_failures : dOk cX11_failures L_X11_failures = true := by decide +kernel
theorem w_X11_failures_0 {X : Cx} {d : Nat} {S : Mem} {Q : Res → Mem → Prop} (r0 : Nat) (h : (isK S r0 11) ∧ (((gI S r0 5) = 0 → V X d MX11_failures 22 [(0, vR r0)] [vI (-2)] S Q) ∧ (¬ (gI S r0 5) = 0 → (isK S (gR S r0 4) 6) ∧ (isK S (gR S (gR S r0 4) 2) 2) ∧ ∃ e4 : Nat, e4 + 1 ≤ d ∧ C X e4 MX2_listed [vR (gR S (gR S r0 4) 2)] S (RI fun y7 S8 => V X d MX11_failures 22 [(0, vR r0)] [vI y7] S8 Q)))) : V X d MX11_failures 0 [(0, vR r0)] [] S Q := by
  refine V_aload_n (pc2 := 1) (dk D_X11_failures 0 rfl) rfl (V_lg 0 rfl) rfl ?_
  obtain ⟨h1, h⟩ := h
  refine V_getI kc11 (pc2 := 4) 5 (dk D_X11_failures 1 rfl) fl_11_77 (by decide) (fun _ => rfl) rfl h1 ?_
  refine V_ifeq (tgt := 20) (pc2 := 7) (dk D_X11_failures 2 rfl) (by decide) rfl (fun q2 => ?_) (fun q2 => ?_)
  · have h := h.1 q2
    refine V_bipush (x := (-2)) (pc2 := 22) (dk D_X11_failures 8 rfl) (by decide) rfl ?_
    exact h
  · have h := h.2 q2
    refine V_aload_n (pc2 := 8) (dk D_X11_failures 3 rfl) rfl (V_lg 0 rfl) rfl ?_
    refine V_getR kc11 (pc2 := 11) 4 (dk D_X11_failures 4 rfl) fl_11_49 (by decide) (fun _ => rfl) rfl h1 ?_
    obtain ⟨h3, h⟩ := h
    refine V_getR kc6 (pc2 := 14) 2 (dk D_X11_failures 5 rfl) fl_11_186 (by decide) (fun _ => rfl) rfl h3 ?_
    obtain ⟨h9, h⟩ := h
    obtain ⟨e4, he5, hc6⟩ := h
    refine V_callV (as := []) (st := []) (M' := MX2_listed) (ci := 2) (pc2 := 17) (dk D_X11_failures 6 rfl) ml_11_190 mv_X2_listed rfl rfl (by decide) rfl (Nat.le_of_ble_eq_true rfl) rfl he5 h9 hc6 (RI.k fun y7 S8 h => ?_)
    refine V_goto (tgt := 22) (dk D_X11_failures 7 rfl) (by decide) ?_
    exact h
theorem w_X11_failures_22 {X : Cx} {d : Nat} {S : Mem} {Q : Res → Mem → Prop} (r0 : Nat) (t0 : Int32) (h : Q (.inl (some (vI t0))) S) : V X d MX11_failures 22 [(0, vR r0)] [vI t0] S Q := by
  exact V_ireturn (dk D_X11_failures 9 rfl) rfl h
def L_X11_failure : List (Nat × Instr × Nat) := [(0, .aload_n 0, 1), (1, .getfield 77, 3), (4, .ifCond .ne 6, 3), (7, .bipush (-2), 2), (9, .ireturn, 1), (10, .iload_n 1, 1), (11, .ifCond .lt 26, 3), (14, .iload_n 1, 1), (15, .aload_n 0, 1), (16, .getfield 49, 3), (19, .getfield 186, 3), (22, .invokevirtual 190, 3), (25, .if_icmp .ge 12, 3), (28, .iload_n 2, 1), (29, .ifCond .lt 8, 3), (32, .iload_n 2, 1), (33, .iconst 5, 1), (34, .if_icmp .le 5, 3), (37, .iconst (-1), 1), (38, .ireturn, 1), (39, .aload_n 0, 1), (40, .getfield 49, 3), (43, .getfield 186, 3), (46, .iload_n 1, 1), (47, .iload_n 2, 1), (48, .invokevirtual 195, 3), (51, .ireturn, 1)]
theorem D_X11_failure : dOk cX11_failure L_X11_failure = true := by decide +kernel
theorem w_X11_failure_0 {X : Cx} {d : Nat} {S : Mem} {Q : Res → Mem → Prop} (r0 : Nat) (x1 : Int32) (x2 : Int32) (h : (isK S r0 11) ∧ ((¬ (gI S r0 5) = 0 → ((x1 < 0 → V X d MX11_failure 37 [(0, vR r0), (1, vI x1), (2, vI x2)] [] S Q) ∧ (¬ x1 < 0 → (isK S (gR S r0 4) 6) ∧ (isK S (gR S (gR S r0 4) 2) 2) ∧ ∃ e5 : Nat, e5 + 1 ≤ d ∧ C X e5 MX2_listed [vR (gR S (gR S r0 4) 2)] S (RI fun y8 S9 => ((y8 ≤ x1 → V X d MX11_failure 37 [(0, vR r0), (1, vI x1), (2, vI x2)] [] S9 Q) ∧ (¬ y8 ≤ x1 → ((x2 < 0 → V X d MX11_failure 37 [(0, vR r0), (1, vI x1), (2, vI x2)] [] S9 Q) ∧ (¬ x2 < 0 → ((x2 ≤ 5 → (isK S9 r0 11) ∧ (isK S9 (gR S9 r0 4) 6) ∧ (isK S9 (gR S9 (gR S9 r0 4) 2) 2) ∧ ∃ e16 : Nat, e16 + 1 ≤ d ∧ C X e16 MX2_fact [vR (gR S9 (gR S9 r0 4) 2), vI x1, vI x2] S9 (RI fun y19 S20 => Q (.inl (some (vI y19))) S20)) ∧ (¬ x2 ≤ 5 → V X d MX11_failure 37 [(0, vR r0), (1, vI x1), (2, vI x2)] [] S9 Q)))))))))) ∧ ((gI S r0 5) = 0 → Q (.inl (some (vI (-2)))) S))) : V X d MX11_failure 0 [(0, vR r0), (1, vI x1), (2, vI x2)] [] S Q := by
  refine V_aload_n (pc2 := 1) (dk D_X11_failure 0 rfl) rfl (V_lg 0 rfl) rfl ?_
  obtain ⟨h1, h⟩ := h
  refine V_getI kc11 (pc2 := 4) 5 (dk D_X11_failure 1 rfl) fl_11_77 (by decide) (fun _ => rfl) rfl h1 ?_
  refine V_ifne (tgt := 10) (pc2 := 7) (dk D_X11_failure 2 rfl) (by decide) rfl (fun q2 => ?_) (fun q2 => ?_)
  · have h := h.1 q2
    refine V_iload_n (pc2 := 11) (dk D_X11_failure 5 rfl) rfl (V_lg 1 rfl) rfl ?_
    refine V_iflt (tgt := 37) (pc2 := 14) (dk D_X11_failure 6 rfl) (by decide) rfl (fun q3 => ?_) (fun q3 => ?_)
    · have h := h.1 q3
      exact h
    · have h := h.2 q3
      refine V_iload_n (pc2 := 15) (dk D_X11_failure 7 rfl) rfl (V_lg 1 rfl) rfl ?_
      refine V_aload_n (pc2 := 16) (dk D_X11_failure 8 rfl) rfl (V_lg 0 rfl) rfl ?_
      refine V_getR kc11 (pc2 := 19) 4 (dk D_X11_failure 9 rfl) fl_11_49 (by decide) (fun _ => rfl) rfl h1 ?_
      obtain ⟨h4, h⟩ := h
      refine V_getR kc6 (pc2 := 22) 2 (dk D_X11_failure 10 rfl) fl_11_186 (by decide) (fun _ => rfl) rfl h4 ?_
      obtain ⟨h10, h⟩ := h
      obtain ⟨e5, he6, hc7⟩ := h
      refine V_callV (as := []) (st := [_]) (M' := MX2_listed) (ci := 2) (pc2 := 25) (dk D_X11_failure 11 rfl) ml_11_190 mv_X2_listed rfl rfl (by decide) rfl (Nat.le_of_ble_eq_true rfl) rfl he6 h10 hc7 (RI.k fun y8 S9 h => ?_)
      refine V_cmpge (tgt := 37) (pc2 := 28) (dk D_X11_failure 12 rfl) (by decide) rfl (fun q11 => ?_) (fun q11 => ?_)
      · have h := h.1 q11
        exact h
      · have h := h.2 q11
        refine V_iload_n (pc2 := 29) (dk D_X11_failure 13 rfl) rfl (V_lg 2 rfl) rfl ?_
        refine V_iflt (tgt := 37) (pc2 := 32) (dk D_X11_failure 14 rfl) (by decide) rfl (fun q12 => ?_) (fun q12 => ?_)
        · have h := h.1 q12
          exact h
        · have h := h.2 q12
          refine V_iload_n (pc2 := 33) (dk D_X11_failure 15 rfl) rfl (V_lg 2 rfl) rfl ?_
          refine V_iconst (x := 5) (pc2 := 34) (dk D_X11_failure 16 rfl) (by decide) rfl ?_
          refine V_cmple (tgt := 39) (pc2 := 37) (dk D_X11_failure 17 rfl) (by decide) rfl (fun q13 => ?_) (fun q13 => ?_)
          · have h := h.1 q13
            refine V_aload_n (pc2 := 40) (dk D_X11_failure 20 rfl) rfl (V_lg 0 rfl) rfl ?_
            obtain ⟨h14, h⟩ := h
            refine V_getR kc11 (pc2 := 43) 4 (dk D_X11_failure 21 rfl) fl_11_49 (by decide) (fun _ => rfl) rfl h14 ?_
            obtain ⟨h15, h⟩ := h
            refine V_getR kc6 (pc2 := 46) 2 (dk D_X11_failure 22 rfl) fl_11_186 (by decide) (fun _ => rfl) rfl h15 ?_
            refine V_iload_n (pc2 := 47) (dk D_X11_failure 23 rfl) rfl (V_lg 1 rfl) rfl ?_
            refine V_iload_n (pc2 := 48) (dk D_X11_failure 24 rfl) rfl (V_lg 2 rfl) rfl ?_
            obtain ⟨h21, h⟩ := h
            obtain ⟨e16, he17, hc18⟩ := h
            refine V_callV (as := [_, _]) (st := []) (M' := MX2_fact) (ci := 2) (pc2 := 51) (dk D_X11_failure 25 rfl) ml_11_195 mv_X2_fact rfl rfl (by decide) rfl (Nat.le_of_ble_eq_true rfl) rfl he17 h21 hc18 (RI.k fun y19 S20 h => ?_)
            exact V_ireturn (dk D_X11_failure 26 rfl) rfl h
          · have h := h.2 q13
            exact h
  · have h := h.2 q2
    refine V_bipush (x := (-2)) (pc2 := 9) (dk D_X11_failure 3 rfl) (by decide) rfl ?_
    exact V_ireturn (dk D_X11_failure 4 rfl) rfl h
def L_X11_ring : List (Nat × Instr × Nat) := [(0, .aload_n 0, 1), (1, .getfield 77, 3), (4, .ifCond .eq 14, 3), (7, .aload_n 0, 1), (8, .getfield 49, 3), (11, .iload_n 1, 1), (12, .invokevirtual 197, 3), (15, .goto 5, 3), (18, .bipush (-2), 2), (20, .ireturn, 1)]
theorem D_X11_ring : dOk cX11_ring L_X11_ring = true := by decide +kernel
theorem w_X11_ring_0 {X : Cx} {d : Nat} {S : Mem} {Q : Res → Mem → Prop} (r0 : Nat) (x1 : Int32) (h : (isK S r0 11) ∧ (((gI S r0 5) = 0 → V X d MX11_ring 20 [(0, vR r0), (1, vI x1)] [vI (-2)] S Q) ∧ (¬ (gI S r0 5) = 0 → (isK S (gR S r0 4) 6) ∧ ∃ e3 : Nat, e3 + 1 ≤ d ∧ C X e3 MX6_inRing [vR (gR S r0 4), vI x1] S (RI fun y6 S7 => V X d MX11_ring 20 [(0, vR r0), (1, vI x1)] [vI y6] S7 Q)))) : V X d MX11_ring 0 [(0, vR r0), (1, vI x1)] [] S Q := by
  refine V_aload_n (pc2 := 1) (dk D_X11_ring 0 rfl) rfl (V_lg 0 rfl) rfl ?_
  obtain ⟨h1, h⟩ := h
  refine V_getI kc11 (pc2 := 4) 5 (dk D_X11_ring 1 rfl) fl_11_77 (by decide) (fun _ => rfl) rfl h1 ?_
  refine V_ifeq (tgt := 18) (pc2 := 7) (dk D_X11_ring 2 rfl) (by decide) rfl (fun q2 => ?_) (fun q2 => ?_)
  · have h := h.1 q2
    refine V_bipush (x := (-2)) (pc2 := 20) (dk D_X11_ring 8 rfl) (by decide) rfl ?_
    exact h
  · have h := h.2 q2
    refine V_aload_n (pc2 := 8) (dk D_X11_ring 3 rfl) rfl (V_lg 0 rfl) rfl ?_
    refine V_getR kc11 (pc2 := 11) 4 (dk D_X11_ring 4 rfl) fl_11_49 (by decide) (fun _ => rfl) rfl h1 ?_
    refine V_iload_n (pc2 := 12) (dk D_X11_ring 5 rfl) rfl (V_lg 1 rfl) rfl ?_
    obtain ⟨h8, h⟩ := h
    obtain ⟨e3, he4, hc5⟩ := h
    refine V_callV (as := [_]) (st := []) (M' := MX6_inRing) (ci := 6) (pc2 := 15) (dk D_X11_ring 6 rfl) ml_11_197 mv_X6_inRing rfl rfl (by decide) rfl (Nat.le_of_ble_eq_true rfl) rfl he4 h8 hc5 (RI.k fun y6 S7 h => ?_)
    refine V_goto (tgt := 20) (dk D_X11_ring 7 rfl) (by decide) ?_
    exact h
theorem w_X11_ring_20 {X : Cx} {d : Nat} {S : Mem} {Q : Res → Mem → Prop} (r0 : Nat) (x1 : Int32) (t0 : Int32) (h : Q (.inl (some (vI t0))) S) : V X d MX11_ring 20 [(0, vR r0), (1, vI x1)] [vI t0] S Q := by
  exact V_ireturn (dk D_X11_ring 9 rfl) rfl h
def L_X11_count : List (Nat × Instr × Nat) := [(0, .aload_n 0, 1), (1, .getfield 77, 3), (4, .ifCond .ne 6, 3), (7, .bipush (-2), 2), (9, .ireturn, 1), (10, .iload_n 1, 1), (11, .tableswitch 81 0 4 #[33, 41, 49, 57, 65], 33), (44, .aload_n 0, 1), (45, .getfield 19, 3), (48, .invokevirtual 81, 3), (51, .ireturn, 1), (52, .aload_n 0, 1), (53, .getfield 49, 3), (56, .invokevirtual 200, 3), (59, .ireturn, 1), (60, .aload_n 0, 1), (61, .getfield 49, 3), (64, .invokevirtual 203, 3), (67, .ireturn, 1), (68, .aload_n 0, 1), (69, .getfield 49, 3), (72, .invokevirtual 206, 3), (75, .ireturn, 1), (76, .aload_n 0, 1), (77, .getfield 49, 3), (80, .invokevirtual 140, 3), (83, .ifCond .eq 7, 3), (86, .iconst 1, 1), (87, .goto 4, 3), (90, .iconst 0, 1), (91, .ireturn, 1), (92, .iconst (-1), 1), (93, .ireturn, 1)]
theorem D_X11_count : dOk cX11_count L_X11_count = true := by decide +kernel
theorem w_X11_count_0 {X : Cx} {d : Nat} {S : Mem} {Q : Res → Mem → Prop} (r0 : Nat) (x1 : Int32) (h : (isK S r0 11) ∧ ((¬ (gI S r0 5) = 0 → ((x1 = 0 → (isK S (gR S r0 1) 7) ∧ ∃ e5 : Nat, e5 + 1 ≤ d ∧ C X e5 MX7_size [vR (gR S r0 1)] S (RI fun y8 S9 => Q (.inl (some (vI y8))) S9)) ∧ (x1 = 1 → (isK S (gR S r0 4) 6) ∧ ∃ e11 : Nat, e11 + 1 ≤ d ∧ C X e11 MX6_made [vR (gR S r0 4)] S (RI fun y14 S15 => Q (.inl (some (vI y14))) S15)) ∧ (x1 = 2 → (isK S (gR S r0 4) 6) ∧ ∃ e17 : Nat, e17 + 1 ≤ d ∧ C X e17 MX6_alive [vR (gR S r0 4)] S (RI fun y20 S21 => Q (.inl (some (vI y20))) S21)) ∧ (x1 = 3 → (isK S (gR S r0 4) 6) ∧ ∃ e23 : Nat, e23 + 1 ≤ d ∧ C X e23 MX6_steps [vR (gR S r0 4)] S (RI fun y26 S27 => Q (.inl (some (vI y26))) S27)) ∧ (x1 = 4 → (isK S (gR S r0 4) 6) ∧ ∃ e29 : Nat, e29 + 1 ≤ d ∧ C X e29 MX6_isSpent [vR (gR S r0 4)] S (RI fun y32 S33 => ((y32 = 0 → V X d MX11_count 91 [(0, vR r0), (1, vI x1)] [vI 0] S33 Q) ∧ (¬ y32 = 0 → V X d MX11_count 91 [(0, vR r0), (1, vI x1)] [vI 1] S33 Q)))) ∧ (¬ (x1 = 0 ∨ x1 = 1 ∨ x1 = 2 ∨ x1 = 3 ∨ x1 = 4) → Q (.inl (some (vI (-1)))) S))) ∧ ((gI S r0 5) = 0 → Q (.inl (some (vI (-2)))) S))) : V X d MX11_count 0 [(0, vR r0), (1, vI x1)] [] S Q := by
  refine V_aload_n (pc2 := 1) (dk D_X11_count 0 rfl) rfl (V_lg 0 rfl) rfl ?_
  obtain ⟨h1, h⟩ := h
  refine V_getI kc11 (pc2 := 4) 5 (dk D_X11_count 1 rfl) fl_11_77 (by decide) (fun _ => rfl) rfl h1 ?_
  refine V_ifne (tgt := 10) (pc2 := 7) (dk D_X11_count 2 rfl) (by decide) rfl (fun q2 => ?_) (fun q2 => ?_)
  · have h := h.1 q2
    refine V_iload_n (pc2 := 11) (dk D_X11_count 5 rfl) rfl (V_lg 1 rfl) rfl ?_
    refine V_table (dk D_X11_count 6 rfl) [44, 52, 60, 68, 76] 92 (by decide) rfl (by decide) (fun q3 => ?_) (fun j4 hj q3 => ?_)
    · have h := h.2.2.2.2.2 (by rintro (hk | hk | hk | hk | hk) <;> (rw [hk] at q3; revert q3; decide))
      refine V_iconst (x := (-1)) (pc2 := 93) (dk D_X11_count 31 rfl) (by decide) rfl ?_
      exact V_ireturn (dk D_X11_count 32 rfl) rfl h
    · have hj2 : j4 = 0 ∨ j4 = 1 ∨ j4 = 2 ∨ j4 = 3 ∨ j4 = 4 := by simp at hj; omega
      clear hj
      rcases hj2 with rfl | rfl | rfl | rfl | rfl
      · have hx : x1 = 0 := Int32.toInt_inj.mp (by rw [q3]; decide)
        have h := h.1 hx
        refine V_aload_n (pc2 := 45) (dk D_X11_count 7 rfl) rfl (V_lg 0 rfl) rfl ?_
        refine V_getR kc11 (pc2 := 48) 1 (dk D_X11_count 8 rfl) fl_11_19 (by decide) (fun _ => rfl) rfl h1 ?_
        obtain ⟨h10, h⟩ := h
        obtain ⟨e5, he6, hc7⟩ := h
        refine V_callV (as := []) (st := []) (M' := MX7_size) (ci := 7) (pc2 := 51) (dk D_X11_count 9 rfl) ml_11_81 mv_X7_size rfl rfl (by decide) rfl (Nat.le_of_ble_eq_true rfl) rfl he6 h10 hc7 (RI.k fun y8 S9 h => ?_)
        exact V_ireturn (dk D_X11_count 10 rfl) rfl h
      · have hx : x1 = 1 := Int32.toInt_inj.mp (by rw [q3]; decide)
        have h := h.2.1 hx
        refine V_aload_n (pc2 := 53) (dk D_X11_count 11 rfl) rfl (V_lg 0 rfl) rfl ?_
        refine V_getR kc11 (pc2 := 56) 4 (dk D_X11_count 12 rfl) fl_11_49 (by decide) (fun _ => rfl) rfl h1 ?_
        obtain ⟨h16, h⟩ := h
        obtain ⟨e11, he12, hc13⟩ := h
        refine V_callV (as := []) (st := []) (M' := MX6_made) (ci := 6) (pc2 := 59) (dk D_X11_count 13 rfl) ml_11_200 mv_X6_made rfl rfl (by decide) rfl (Nat.le_of_ble_eq_true rfl) rfl he12 h16 hc13 (RI.k fun y14 S15 h => ?_)
        exact V_ireturn (dk D_X11_count 14 rfl) rfl h
      · have hx : x1 = 2 := Int32.toInt_inj.mp (by rw [q3]; decide)
        have h := h.2.2.1 hx
        refine V_aload_n (pc2 := 61) (dk D_X11_count 15 rfl) rfl (V_lg 0 rfl) rfl ?_
        refine V_getR kc11 (pc2 := 64) 4 (dk D_X11_count 16 rfl) fl_11_49 (by decide) (fun _ => rfl) rfl h1 ?_
        obtain ⟨h22, h⟩ := h
        obtain ⟨e17, he18, hc19⟩ := h
        refine V_callV (as := []) (st := []) (M' := MX6_alive) (ci := 6) (pc2 := 67) (dk D_X11_count 17 rfl) ml_11_203 mv_X6_alive rfl rfl (by decide) rfl (Nat.le_of_ble_eq_true rfl) rfl he18 h22 hc19 (RI.k fun y20 S21 h => ?_)
        exact V_ireturn (dk D_X11_count 18 rfl) rfl h
      · have hx : x1 = 3 := Int32.toInt_inj.mp (by rw [q3]; decide)
        have h := h.2.2.2.1 hx
        refine V_aload_n (pc2 := 69) (dk D_X11_count 19 rfl) rfl (V_lg 0 rfl) rfl ?_
        refine V_getR kc11 (pc2 := 72) 4 (dk D_X11_count 20 rfl) fl_11_49 (by decide) (fun _ => rfl) rfl h1 ?_
        obtain ⟨h28, h⟩ := h
        obtain ⟨e23, he24, hc25⟩ := h
        refine V_callV (as := []) (st := []) (M' := MX6_steps) (ci := 6) (pc2 := 75) (dk D_X11_count 21 rfl) ml_11_206 mv_X6_steps rfl rfl (by decide) rfl (Nat.le_of_ble_eq_true rfl) rfl he24 h28 hc25 (RI.k fun y26 S27 h => ?_)
        exact V_ireturn (dk D_X11_count 22 rfl) rfl h
      · have hx : x1 = 4 := Int32.toInt_inj.mp (by rw [q3]; decide)
        have h := h.2.2.2.2.1 hx
        refine V_aload_n (pc2 := 77) (dk D_X11_count 23 rfl) rfl (V_lg 0 rfl) rfl ?_
        refine V_getR kc11 (pc2 := 80) 4 (dk D_X11_count 24 rfl) fl_11_49 (by decide) (fun _ => rfl) rfl h1 ?_
        obtain ⟨h34, h⟩ := h
        obtain ⟨e29, he30, hc31⟩ := h
        refine V_callV (as := []) (st := []) (M' := MX6_isSpent) (ci := 6) (pc2 := 83) (dk D_X11_count 25 rfl) ml_11_140 mv_X6_isSpent rfl rfl (by decide) rfl (Nat.le_of_ble_eq_true rfl) rfl he30 h34 hc31 (RI.k fun y32 S33 h => ?_)
        refine V_ifeq (tgt := 90) (pc2 := 86) (dk D_X11_count 26 rfl) (by decide) rfl (fun q35 => ?_) (fun q35 => ?_)
        · have h := h.1 q35
          refine V_iconst (x := 0) (pc2 := 91) (dk D_X11_count 29 rfl) (by decide) rfl ?_
          exact h
        · have h := h.2 q35
          refine V_iconst (x := 1) (pc2 := 87) (dk D_X11_count 27 rfl) (by decide) rfl ?_
          refine V_goto (tgt := 91) (dk D_X11_count 28 rfl) (by decide) ?_
          exact h
  · have h := h.2 q2
    refine V_bipush (x := (-2)) (pc2 := 9) (dk D_X11_count 3 rfl) (by decide) rfl ?_
    exact V_ireturn (dk D_X11_count 4 rfl) rfl h
def L_X11_digest : List (Nat × Instr × Nat) := [(0, .aload_n 0, 1), (1, .getfield 77, 3), (4, .ifCond .ne 5, 3), (7, .lconst 0, 1), (8, .lreturn, 1), (9, .ldc2_w 209, 3), (12, .lstore_n 1, 1), (13, .iconst 1, 1), (14, .istore_n 3, 1), (15, .iload_n 3, 1), (16, .aload_n 0, 1), (17, .getfield 49, 3), (20, .invokevirtual 200, 3), (23, .if_icmp .gt 35, 3), (26, .aload_n 0, 1), (27, .getfield 49, 3), (30, .iload_n 3, 1), (31, .invokevirtual 110, 3), (34, .astore 4, 2), (36, .aload 4, 2), (38, .ifnonnull 7, 3), (41, .lload_n 1, 1), (42, .goto 9, 3), (45, .aload 4, 2), (47, .lload_n 1, 1), (48, .invokevirtual 211, 3), (51, .lstore_n 1, 1), (52, .iinc 3 1, 3), (55, .goto (-40), 3), (58, .aload_n 0, 1), (59, .getfield 49, 3), (62, .getfield 170, 3), (65, .lload_n 1, 1), (66, .invokevirtual 215, 3), (69, .lstore_n 1, 1), (70, .aload_n 0, 1), (71, .getfield 49, 3), (74, .getfield 183, 3), (77, .lload_n 1, 1), (78, .invokevirtual 215, 3), (81, .lstore_n 1, 1), (82, .ldc2_w 216, 3), (85, .lload_n 1, 1), (86, .lmul, 1), (87, .aload_n 0, 1), (88, .getfield 49, 3), (91, .invokevirtual 206, 3), (94, .i2l, 1), (95, .ladd, 1), (96, .lreturn, 1)]
theorem D_X11_digest : dOk cX11_digest L_X11_digest = true := by decide +kernel
theorem w_X11_digest_0 {X : Cx} {d : Nat} {S : Mem} {Q : Res → Mem → Prop} (r0 : Nat) (h : (isK S r0 11) ∧ ((¬ (gI S r0 5) = 0 → V X d MX11_digest 15 [(0, vR r0), (1, vL 17), (3, vI 1)] [] S Q) ∧ ((gI S r0 5) = 0 → Q (.inl (some (vL 0))) S))) : V X d MX11_digest 0 [(0, vR r0)] [] S Q := by
  refine V_aload_n (pc2 := 1) (dk D_X11_digest 0 rfl) rfl (V_lg 0 rfl) rfl ?_
  obtain ⟨h1, h⟩ := h
  refine V_getI kc11 (pc2 := 4) 5 (dk D_X11_digest 1 rfl) fl_11_77 (by decide) (fun _ => rfl) rfl h1 ?_
  refine V_ifne (tgt := 9) (pc2 := 7) (dk D_X11_digest 2 rfl) (by decide) rfl (fun q2 => ?_) (fun q2 => ?_)
  · have h := h.1 q2
    refine V_ldc2 (x := 17) (pc2 := 12) (dk D_X11_digest 5 rfl) kl_11_209 rfl ?_
    refine V_lstore_n (pc2 := 13) (lv2 := [(0, _), (1, _)]) (dk D_X11_digest 6 rfl) rfl (by decide) rfl rfl ?_
    refine V_iconst (x := 1) (pc2 := 14) (dk D_X11_digest 7 rfl) (by decide) rfl ?_
    refine V_istore_n (pc2 := 15) (lv2 := [(0, _), (1, _), (3, _)]) (dk D_X11_digest 8 rfl) rfl (by decide) rfl rfl ?_
    exact h
  · have h := h.2 q2
    refine V_lconst (x := 0) (pc2 := 8) (dk D_X11_digest 3 rfl) (by decide) rfl ?_
    exact V_lreturn (dk D_X11_digest 4 rfl) rfl h
def L_X11_plays : List (Nat × Instr × Nat) := [(0, .aload_n 0, 1), (1, .getfield 77, 3), (4, .ifCond .eq 17, 3), (7, .aload_n 0, 1), (8, .getfield 49, 3), (11, .invokevirtual 140, 3), (14, .ifCond .ne 7, 3), (17, .iconst 1, 1), (18, .goto 4, 3), (21, .iconst 0, 1), (22, .ireturn, 1)]
theorem D_X11_plays : dOk cX11_plays L_X11_plays = true := by decide +kernel
theorem w_X11_plays_0 {X : Cx} {d : Nat} {S : Mem} {Q : Res → Mem → Prop} (r0 : Nat) (h : (isK S r0 11) ∧ (((gI S r0 5) = 0 → V X d MX11_plays 21 [(0, vR r0)] [] S Q) ∧ (¬ (gI S r0 5) = 0 → (isK S (gR S r0 4) 6) ∧ ∃ e3 : Nat, e3 + 1 ≤ d ∧ C X e3 MX6_isSpent [vR (gR S r0 4)] S (RI fun y6 S7 => ((¬ y6 = 0 → V X d MX11_plays 21 [(0, vR r0)] [] S7 Q) ∧ (y6 = 0 → V X d MX11_plays 22 [(0, vR r0)] [vI 1] S7 Q)))))) : V X d MX11_plays 0 [(0, vR r0)] [] S Q := by
  refine V_aload_n (pc2 := 1) (dk D_X11_plays 0 rfl) rfl (V_lg 0 rfl) rfl ?_
  obtain ⟨h1, h⟩ := h
  refine V_getI kc11 (pc2 := 4) 5 (dk D_X11_plays 1 rfl) fl_11_77 (by decide) (fun _ => rfl) rfl h1 ?_
  refine V_ifeq (tgt := 21) (pc2 := 7) (dk D_X11_plays 2 rfl) (by decide) rfl (fun q2 => ?_) (fun q2 => ?_)
  · have h := h.1 q2
    exact h
  · have h := h.2 q2
    refine V_aload_n (pc2 := 8) (dk D_X11_plays 3 rfl) rfl (V_lg 0 rfl) rfl ?_
    refine V_getR kc11 (pc2 := 11) 4 (dk D_X11_plays 4 rfl) fl_11_49 (by decide) (fun _ => rfl) rfl h1 ?_
    obtain ⟨h8, h⟩ := h
    obtain ⟨e3, he4, hc5⟩ := h
    refine V_callV (as := []) (st := []) (M' := MX6_isSpent) (ci := 6) (pc2 := 14) (dk D_X11_plays 5 rfl) ml_11_140 mv_X6_isSpent rfl rfl (by decide) rfl (Nat.le_of_ble_eq_true rfl) rfl he4 h8 hc5 (RI.k fun y6 S7 h => ?_)
    refine V_ifne (tgt := 21) (pc2 := 17) (dk D_X11_plays 6 rfl) (by decide) rfl (fun q9 => ?_) (fun q9 => ?_)
    · have h := h.1 q9
      exact h
    · have h := h.2 q9
      refine V_iconst (x := 1) (pc2 := 18) (dk D_X11_plays 7 rfl) (by decide) rfl ?_
      refine V_goto (tgt := 22) (dk D_X11_plays 8 rfl) (by decide) ?_
      exact h
theorem w_X11_plays_21 {X : Cx} {d : Nat} {S : Mem} {Q : Res → Mem → Prop} (r0 : Nat) (h : V X d MX11_plays 22 [(0, vR r0)] [vI 0] S Q) : V X d MX11_plays 21 [(0, vR r0)] [] S Q := by
  refine V_iconst (x := 0) (pc2 := 22) (dk D_X11_plays 9 rfl) (by decide) rfl ?_
  exact h
theorem w_X11_plays_22 {X : Cx} {d : Nat} {S : Mem} {Q : Res → Mem → Prop} (r0 : Nat) (t0 : Int32) (h : (t0 = 0 ∨ t0 = 1) ∧ Q (.inl (some (vI t0))) S) : V X d MX11_plays 22 [(0, vR r0)] [vI t0] S Q := by
  obtain ⟨h1, h⟩ := h
  exact V_zreturn (dk D_X11_plays 10 rfl) rfl h1 h
