def L_X3_init : List (Nat × Instr × Nat) := [(0, .aload_n 0, 1), (1, .invokespecial 3, 3), (4, .aload_n 0, 1), (5, .aload_n 1, 1), (6, .putfield 9, 3), (9, .aload_n 0, 1), (10, .aload_n 2, 1), (11, .putfield 15, 3), (14, .aload_n 0, 1), (15, .aload_n 2, 1), (16, .getfield 19, 3), (19, .putfield 25, 3), (22, .return_, 1)]
theorem D_X3_init : dOk cX3_init L_X3_init = true := by decide +kernel
theorem w_X3_init_0 {X : Cx} {d : Nat} {S : Mem} {Q : Res → Mem → Prop} (r0 : Nat) (r1 : Nat) (r2 : Nat) (h : (1 ≤ d) ∧ (r0 ≠ 0) ∧ (isK S r0 3) ∧ ∀ S4 : Mem, S4 = uR S r0 0 r1 → ∀ S5 : Mem, S5 = uR S4 r0 1 r2 → (isK S r2 7) ∧ ∀ S7 : Mem, S7 = uR S5 r0 2 (gR S5 r2 0) → Q (.inl none) S7) : V X d MX3_init 0 [(0, vR r0), (1, vR r1), (2, vR r2)] [] S Q := by
  refine V_aload_n (pc2 := 1) (dk D_X3_init 0 rfl) rfl (V_lg 0 rfl) rfl ?_
  obtain ⟨h1, h⟩ := h
  obtain ⟨h2, h⟩ := h
  refine V_obj (pc2 := 4) (dk D_X3_init 1 rfl) ml_3_3 oi_i oi_c rfl (Nat.le_of_ble_eq_true rfl) h1 h2 ?_
  refine V_aload_n (pc2 := 5) (dk D_X3_init 2 rfl) rfl (V_lg 0 rfl) rfl ?_
  refine V_aload_n (pc2 := 6) (dk D_X3_init 3 rfl) rfl (V_lg 1 rfl) rfl ?_
  obtain ⟨h3, h⟩ := h
  refine V_putR kc3 (pc2 := 9) 0 (dk D_X3_init 4 rfl) fl_3_9 (by decide) (Or.inr ⟨rfl, rfl, rfl⟩) (Or.inl ⟨_, rfl⟩) rfl h3 ?_
  have h := h _ rfl
  refine V_aload_n (pc2 := 10) (dk D_X3_init 5 rfl) rfl (V_lg 0 rfl) rfl ?_
  refine V_aload_n (pc2 := 11) (dk D_X3_init 6 rfl) rfl (V_lg 2 rfl) rfl ?_
  refine V_putR kc3 (pc2 := 14) 1 (dk D_X3_init 7 rfl) fl_3_15 (by decide) (Or.inr ⟨rfl, rfl, rfl⟩) (Or.inl ⟨_, rfl⟩) rfl h3 ?_
  have h := h _ rfl
  refine V_aload_n (pc2 := 15) (dk D_X3_init 8 rfl) rfl (V_lg 0 rfl) rfl ?_
  refine V_aload_n (pc2 := 16) (dk D_X3_init 9 rfl) rfl (V_lg 2 rfl) rfl ?_
  obtain ⟨h6, h⟩ := h
  refine V_getR kc7 (pc2 := 19) 0 (dk D_X3_init 10 rfl) fl_3_19 (by decide) (fun _ => rfl) rfl h6 ?_
  refine V_putR kc3 (pc2 := 22) 2 (dk D_X3_init 11 rfl) fl_3_25 (by decide) (Or.inr ⟨rfl, rfl, rfl⟩) (Or.inl ⟨_, rfl⟩) rfl h3 ?_
  have h := h _ rfl
  exact V_return (dk D_X3_init 12 rfl) rfl h
def L_X3_link : List (Nat × Instr × Nat) := [(0, .iconst 0, 1), (1, .istore_n 1, 1), (2, .iload_n 1, 1), (3, .aload_n 0, 1), (4, .getfield 15, 3), (7, .invokevirtual 26, 3), (10, .if_icmp .ge 27, 3), (13, .aload_n 0, 1), (14, .getfield 15, 3), (17, .iload_n 1, 1), (18, .invokevirtual 30, 3), (21, .astore_n 2, 1), (22, .aload_n 2, 1), (23, .ifnull 8, 3), (26, .aload_n 0, 1), (27, .aload_n 2, 1), (28, .invokevirtual 34, 3), (31, .iinc 1 1, 3), (34, .goto (-32), 3), (37, .aload_n 0, 1), (38, .getfield 15, 3), (41, .invokevirtual 38, 3), (44, .ireturn, 1)]
theorem D_X3_link : dOk cX3_link L_X3_link = true := by decide +kernel
theorem w_X3_link_0 {X : Cx} {d : Nat} {S : Mem} {Q : Res → Mem → Prop} (r0 : Nat) (h : V X d MX3_link 2 [(0, vR r0), (1, vI 0)] [] S Q) : V X d MX3_link 0 [(0, vR r0)] [] S Q := by
  refine V_iconst (x := 0) (pc2 := 1) (dk D_X3_link 0 rfl) (by decide) rfl ?_
  refine V_istore_n (pc2 := 2) (lv2 := [(0, _), (1, _)]) (dk D_X3_link 1 rfl) rfl (by decide) rfl rfl ?_
  exact h
theorem w_X3_link_2 {X : Cx} {d : Nat} {S : Mem} {Q : Res → Mem → Prop} (r0 : Nat) (x1 : Int32) (h : (isK S r0 3) ∧ (isK S (gR S r0 1) 7) ∧ ∃ e2 : Nat, e2 + 1 ≤ d ∧ C X e2 MX7_size [vR (gR S r0 1)] S (RI fun y5 S6 => ((y5 ≤ x1 → (isK S6 r0 3) ∧ (isK S6 (gR S6 r0 1) 7) ∧ ∃ e10 : Nat, e10 + 1 ≤ d ∧ C X e10 MX7_wrongName [vR (gR S6 r0 1)] S6 (RI fun y13 S14 => Q (.inl (some (vI y13))) S14)) ∧ (¬ y5 ≤ x1 → (isK S6 r0 3) ∧ (isK S6 (gR S6 r0 1) 7) ∧ ∃ e17 : Nat, e17 + 1 ≤ d ∧ C X e17 MX7_at [vR (gR S6 r0 1), vI x1] S6 (RR fun p20 S21 => ((p20 = 0 → V X d MX3_link 31 [(0, vR r0), (1, vI x1), (2, vR p20)] [] S21 Q) ∧ (¬ p20 = 0 → (isK S21 r0 3) ∧ ∃ e24 : Nat, e24 + 1 ≤ d ∧ C X e24 MX3_linkActs [vR r0, vR p20] S21 (RV fun  S27 => V X d MX3_link 31 [(0, vR r0), (1, vI x1), (2, vR p20)] [] S27 Q)))))))) : V X d MX3_link 2 [(0, vR r0), (1, vI x1)] [] S Q := by
  refine V_iload_n (pc2 := 3) (dk D_X3_link 2 rfl) rfl (V_lg 1 rfl) rfl ?_
  refine V_aload_n (pc2 := 4) (dk D_X3_link 3 rfl) rfl (V_lg 0 rfl) rfl ?_
  obtain ⟨h1, h⟩ := h
  refine V_getR kc3 (pc2 := 7) 1 (dk D_X3_link 4 rfl) fl_3_15 (by decide) (fun _ => rfl) rfl h1 ?_
  obtain ⟨h7, h⟩ := h
  obtain ⟨e2, he3, hc4⟩ := h
  refine V_callV (as := []) (st := [_]) (M' := MX7_size) (ci := 7) (pc2 := 10) (dk D_X3_link 5 rfl) ml_3_26 mv_X7_size rfl rfl (by decide) rfl (Nat.le_of_ble_eq_true rfl) rfl he3 h7 hc4 (RI.k fun y5 S6 h => ?_)
  refine V_cmpge (tgt := 37) (pc2 := 13) (dk D_X3_link 6 rfl) (by decide) rfl (fun q8 => ?_) (fun q8 => ?_)
  · have h := h.1 q8
    refine V_aload_n (pc2 := 38) (dk D_X3_link 19 rfl) rfl (V_lg 0 rfl) rfl ?_
    obtain ⟨h9, h⟩ := h
    refine V_getR kc3 (pc2 := 41) 1 (dk D_X3_link 20 rfl) fl_3_15 (by decide) (fun _ => rfl) rfl h9 ?_
    obtain ⟨h15, h⟩ := h
    obtain ⟨e10, he11, hc12⟩ := h
    refine V_callV (as := []) (st := []) (M' := MX7_wrongName) (ci := 7) (pc2 := 44) (dk D_X3_link 21 rfl) ml_3_38 mv_X7_wrongName rfl rfl (by decide) rfl (Nat.le_of_ble_eq_true rfl) rfl he11 h15 hc12 (RI.k fun y13 S14 h => ?_)
    exact V_ireturn (dk D_X3_link 22 rfl) rfl h
  · have h := h.2 q8
    refine V_aload_n (pc2 := 14) (dk D_X3_link 7 rfl) rfl (V_lg 0 rfl) rfl ?_
    obtain ⟨h16, h⟩ := h
    refine V_getR kc3 (pc2 := 17) 1 (dk D_X3_link 8 rfl) fl_3_15 (by decide) (fun _ => rfl) rfl h16 ?_
    refine V_iload_n (pc2 := 18) (dk D_X3_link 9 rfl) rfl (V_lg 1 rfl) rfl ?_
    obtain ⟨h22, h⟩ := h
    obtain ⟨e17, he18, hc19⟩ := h
    refine V_callV (as := [_]) (st := []) (M' := MX7_at) (ci := 7) (pc2 := 21) (dk D_X3_link 10 rfl) ml_3_30 mv_X7_at rfl rfl (by decide) rfl (Nat.le_of_ble_eq_true rfl) rfl he18 h22 hc19 (RR.k fun p20 S21 h => ?_)
    refine V_astore_n (pc2 := 22) (lv2 := [(0, _), (1, _), (2, _)]) (dk D_X3_link 11 rfl) rfl (by decide) rfl rfl ?_
    refine V_aload_n (pc2 := 23) (dk D_X3_link 12 rfl) rfl (V_lg 2 rfl) rfl ?_
    refine V_ifnull (tgt := 31) (pc2 := 26) (dk D_X3_link 13 rfl) (by decide) rfl (fun q23 => ?_) (fun q23 => ?_)
    · have h := h.1 q23
      exact h
    · have h := h.2 q23
      refine V_aload_n (pc2 := 27) (dk D_X3_link 14 rfl) rfl (V_lg 0 rfl) rfl ?_
      refine V_aload_n (pc2 := 28) (dk D_X3_link 15 rfl) rfl (V_lg 2 rfl) rfl ?_
      obtain ⟨h28, h⟩ := h
      obtain ⟨e24, he25, hc26⟩ := h
      refine V_callV (as := [_]) (st := []) (M' := MX3_linkActs) (ci := 3) (pc2 := 31) (dk D_X3_link 16 rfl) ml_3_34 mv_X3_linkActs rfl rfl (by decide) rfl (Nat.le_of_ble_eq_true rfl) rfl he25 h28 hc26 (RV.k fun  S27 h => ?_)
      exact h
theorem w_X3_link_31 {X : Cx} {d : Nat} {S : Mem} {Q : Res → Mem → Prop} (r0 : Nat) (x1 : Int32) (r2 : Nat) (h : V X d MX3_link 2 [(0, vR r0), (1, vI (x1 + 1))] [] S Q) : V X d MX3_link 31 [(0, vR r0), (1, vI x1), (2, vR r2)] [] S Q := by
  refine V_iinc (y := _ + 1) (pc2 := 34) (lv2 := [(0, _), (1, _), (2, _)]) (dk D_X3_link 17 rfl) (V_lg 1 rfl) rfl (by decide) rfl rfl ?_
  refine V_goto (tgt := 2) (dk D_X3_link 18 rfl) (by decide) ?_
  refine V_pick [0, 1] (lv2 := [(0, _), (1, _)]) rfl ?_
  exact h
def L_X3_linkActs : List (Nat × Instr × Nat) := [(0, .aload_n 1, 1), (1, .getfield 41, 3), (4, .bipush (-9), 2), (6, .if_icmp .eq 14, 3), (9, .aload_n 0, 1), (10, .getfield 15, 3), (13, .aload_n 1, 1), (14, .getfield 41, 3), (17, .invokevirtual 47, 3), (20, .aload_n 1, 1), (21, .getfield 51, 3), (24, .istore_n 2, 1), (25, .iload_n 2, 1), (26, .aload_n 1, 1), (27, .getfield 54, 3), (30, .if_icmp .ge 65, 3), (33, .aload_n 0, 1), (34, .getfield 25, 3), (37, .iload_n 2, 1), (38, .invokevirtual 57, 3), (41, .istore_n 3, 1), (42, .iload_n 3, 1), (43, .iconst 2, 1), (44, .if_icmp .eq 8, 3), (47, .iload_n 3, 1), (48, .iconst 3, 1), (49, .if_icmp .ne 12, 3), (52, .aload_n 0, 1), (53, .aload_n 1, 1), (54, .iload_n 2, 1), (55, .invokevirtual 63, 3), (58, .goto 31, 3), (61, .iload_n 3, 1), (62, .bipush 24, 2), (64, .if_icmp .eq 9, 3), (67, .iload_n 3, 1), (68, .bipush 23, 2), (70, .if_icmp .ne 19, 3), (73, .aload_n 0, 1), (74, .iload_n 2, 1), (75, .iload_n 3, 1), (76, .bipush 23, 2), (78, .if_icmp .ne 7, 3), (81, .iconst 1, 1), (82, .goto 4, 3), (85, .iconst 0, 1), (86, .invokevirtual 67, 3), (89, .iinc 2 1, 3), (92, .goto (-67), 3), (95, .return_, 1)]
theorem D_X3_linkActs : dOk cX3_linkActs L_X3_linkActs = true := by decide +kernel
theorem w_X3_linkActs_0 {X : Cx} {d : Nat} {S : Mem} {Q : Res → Mem → Prop} (r0 : Nat) (r1 : Nat) (h : (isK S r1 0) ∧ (((gI S r1 8) = (-9) → V X d MX3_linkActs 20 [(0, vR r0), (1, vR r1)] [] S Q) ∧ (¬ (gI S r1 8) = (-9) → (isK S r0 3) ∧ (isK S (gR S r0 1) 7) ∧ ∃ e4 : Nat, e4 + 1 ≤ d ∧ C X e4 MX7_noteWrongName [vR (gR S r0 1), vI (gI S r1 8)] S (RV fun  S7 => V X d MX3_linkActs 20 [(0, vR r0), (1, vR r1)] [] S7 Q)))) : V X d MX3_linkActs 0 [(0, vR r0), (1, vR r1)] [] S Q := by
  refine V_aload_n (pc2 := 1) (dk D_X3_linkActs 0 rfl) rfl (V_lg 1 rfl) rfl ?_
  obtain ⟨h1, h⟩ := h
  refine V_getI kc0 (pc2 := 4) 8 (dk D_X3_linkActs 1 rfl) fl_3_41 (by decide) (fun _ => rfl) rfl h1 ?_
  refine V_bipush (x := (-9)) (pc2 := 6) (dk D_X3_linkActs 2 rfl) (by decide) rfl ?_
  refine V_cmpeq (tgt := 20) (pc2 := 9) (dk D_X3_linkActs 3 rfl) (by decide) rfl (fun q2 => ?_) (fun q2 => ?_)
  · have h := h.1 q2
    exact h
  · have h := h.2 q2
    refine V_aload_n (pc2 := 10) (dk D_X3_linkActs 4 rfl) rfl (V_lg 0 rfl) rfl ?_
    obtain ⟨h3, h⟩ := h
    refine V_getR kc3 (pc2 := 13) 1 (dk D_X3_linkActs 5 rfl) fl_3_15 (by decide) (fun _ => rfl) rfl h3 ?_
    refine V_aload_n (pc2 := 14) (dk D_X3_linkActs 6 rfl) rfl (V_lg 1 rfl) rfl ?_
    refine V_getI kc0 (pc2 := 17) 8 (dk D_X3_linkActs 7 rfl) fl_3_41 (by decide) (fun _ => rfl) rfl h1 ?_
    obtain ⟨h8, h⟩ := h
    obtain ⟨e4, he5, hc6⟩ := h
    refine V_callV (as := [_]) (st := []) (M' := MX7_noteWrongName) (ci := 7) (pc2 := 20) (dk D_X3_linkActs 8 rfl) ml_3_47 mv_X7_noteWrongName rfl rfl (by decide) rfl (Nat.le_of_ble_eq_true rfl) rfl he5 h8 hc6 (RV.k fun  S7 h => ?_)
    exact h
theorem w_X3_linkActs_20 {X : Cx} {d : Nat} {S : Mem} {Q : Res → Mem → Prop} (r0 : Nat) (r1 : Nat) (h : (isK S r1 0) ∧ V X d MX3_linkActs 25 [(0, vR r0), (1, vR r1), (2, vI (gI S r1 6))] [] S Q) : V X d MX3_linkActs 20 [(0, vR r0), (1, vR r1)] [] S Q := by
  refine V_aload_n (pc2 := 21) (dk D_X3_linkActs 9 rfl) rfl (V_lg 1 rfl) rfl ?_
  obtain ⟨h1, h⟩ := h
  refine V_getI kc0 (pc2 := 24) 6 (dk D_X3_linkActs 10 rfl) fl_3_51 (by decide) (fun _ => rfl) rfl h1 ?_
  refine V_istore_n (pc2 := 25) (lv2 := [(0, _), (1, _), (2, _)]) (dk D_X3_linkActs 11 rfl) rfl (by decide) rfl rfl ?_
  exact h
theorem w_X3_linkActs_25 {X : Cx} {d : Nat} {S : Mem} {Q : Res → Mem → Prop} (r0 : Nat) (r1 : Nat) (x2 : Int32) (h : (isK S r1 0) ∧ (((gI S r1 7) ≤ x2 → Q (.inl none) S) ∧ (¬ (gI S r1 7) ≤ x2 → (isK S r0 3) ∧ (isK S (gR S r0 2) 1) ∧ ∃ e4 : Nat, e4 + 1 ≤ d ∧ C X e4 MX1_act [vR (gR S r0 2), vI x2] S (RI fun y7 S8 => ((y7 = 2 → V X d MX3_linkActs 52 [(0, vR r0), (1, vR r1), (2, vI x2), (3, vI y7)] [] S8 Q) ∧ (¬ y7 = 2 → ((¬ y7 = 3 → ((y7 = 24 → V X d MX3_linkActs 73 [(0, vR r0), (1, vR r1), (2, vI x2), (3, vI y7)] [] S8 Q) ∧ (¬ y7 = 24 → ((¬ y7 = 23 → V X d MX3_linkActs 89 [(0, vR r0), (1, vR r1), (2, vI x2), (3, vI y7)] [] S8 Q) ∧ (y7 = 23 → V X d MX3_linkActs 73 [(0, vR r0), (1, vR r1), (2, vI x2), (3, vI y7)] [] S8 Q))))) ∧ (y7 = 3 → V X d MX3_linkActs 52 [(0, vR r0), (1, vR r1), (2, vI x2), (3, vI y7)] [] S8 Q)))))))) : V X d MX3_linkActs 25 [(0, vR r0), (1, vR r1), (2, vI x2)] [] S Q := by
  refine V_iload_n (pc2 := 26) (dk D_X3_linkActs 12 rfl) rfl (V_lg 2 rfl) rfl ?_
  refine V_aload_n (pc2 := 27) (dk D_X3_linkActs 13 rfl) rfl (V_lg 1 rfl) rfl ?_
  obtain ⟨h1, h⟩ := h
  refine V_getI kc0 (pc2 := 30) 7 (dk D_X3_linkActs 14 rfl) fl_3_54 (by decide) (fun _ => rfl) rfl h1 ?_
  refine V_cmpge (tgt := 95) (pc2 := 33) (dk D_X3_linkActs 15 rfl) (by decide) rfl (fun q2 => ?_) (fun q2 => ?_)
  · have h := h.1 q2
    exact V_return (dk D_X3_linkActs 49 rfl) rfl h
  · have h := h.2 q2
    refine V_aload_n (pc2 := 34) (dk D_X3_linkActs 16 rfl) rfl (V_lg 0 rfl) rfl ?_
    obtain ⟨h3, h⟩ := h
    refine V_getR kc3 (pc2 := 37) 2 (dk D_X3_linkActs 17 rfl) fl_3_25 (by decide) (fun _ => rfl) rfl h3 ?_
    refine V_iload_n (pc2 := 38) (dk D_X3_linkActs 18 rfl) rfl (V_lg 2 rfl) rfl ?_
    obtain ⟨h9, h⟩ := h
    obtain ⟨e4, he5, hc6⟩ := h
    refine V_callV (as := [_]) (st := []) (M' := MX1_act) (ci := 1) (pc2 := 41) (dk D_X3_linkActs 19 rfl) ml_3_57 mv_X1_act rfl rfl (by decide) rfl (Nat.le_of_ble_eq_true rfl) rfl he5 h9 hc6 (RI.k fun y7 S8 h => ?_)
    refine V_istore_n (pc2 := 42) (lv2 := [(0, _), (1, _), (2, _), (3, _)]) (dk D_X3_linkActs 20 rfl) rfl (by decide) rfl rfl ?_
    refine V_iload_n (pc2 := 43) (dk D_X3_linkActs 21 rfl) rfl (V_lg 3 rfl) rfl ?_
    refine V_iconst (x := 2) (pc2 := 44) (dk D_X3_linkActs 22 rfl) (by decide) rfl ?_
    refine V_cmpeq (tgt := 52) (pc2 := 47) (dk D_X3_linkActs 23 rfl) (by decide) rfl (fun q10 => ?_) (fun q10 => ?_)
    · have h := h.1 q10
      exact h
    · have h := h.2 q10
      refine V_iload_n (pc2 := 48) (dk D_X3_linkActs 24 rfl) rfl (V_lg 3 rfl) rfl ?_
      refine V_iconst (x := 3) (pc2 := 49) (dk D_X3_linkActs 25 rfl) (by decide) rfl ?_
      refine V_cmpne (tgt := 61) (pc2 := 52) (dk D_X3_linkActs 26 rfl) (by decide) rfl (fun q11 => ?_) (fun q11 => ?_)
      · have h := h.1 q11
        refine V_iload_n (pc2 := 62) (dk D_X3_linkActs 32 rfl) rfl (V_lg 3 rfl) rfl ?_
        refine V_bipush (x := 24) (pc2 := 64) (dk D_X3_linkActs 33 rfl) (by decide) rfl ?_
        refine V_cmpeq (tgt := 73) (pc2 := 67) (dk D_X3_linkActs 34 rfl) (by decide) rfl (fun q12 => ?_) (fun q12 => ?_)
        · have h := h.1 q12
          exact h
        · have h := h.2 q12
          refine V_iload_n (pc2 := 68) (dk D_X3_linkActs 35 rfl) rfl (V_lg 3 rfl) rfl ?_
          refine V_bipush (x := 23) (pc2 := 70) (dk D_X3_linkActs 36 rfl) (by decide) rfl ?_
          refine V_cmpne (tgt := 89) (pc2 := 73) (dk D_X3_linkActs 37 rfl) (by decide) rfl (fun q13 => ?_) (fun q13 => ?_)
          · have h := h.1 q13
            exact h
          · have h := h.2 q13
            exact h
      · have h := h.2 q11
        exact h
theorem w_X3_linkActs_52 {X : Cx} {d : Nat} {S : Mem} {Q : Res → Mem → Prop} (r0 : Nat) (r1 : Nat) (x2 : Int32) (x3 : Int32) (h : (isK S r0 3) ∧ ∃ e1 : Nat, e1 + 1 ≤ d ∧ C X e1 MX3_linkVariable [vR r0, vR r1, vI x2] S (RV fun  S4 => V X d MX3_linkActs 89 [(0, vR r0), (1, vR r1), (2, vI x2), (3, vI x3)] [] S4 Q)) : V X d MX3_linkActs 52 [(0, vR r0), (1, vR r1), (2, vI x2), (3, vI x3)] [] S Q := by
  refine V_aload_n (pc2 := 53) (dk D_X3_linkActs 27 rfl) rfl (V_lg 0 rfl) rfl ?_
  refine V_aload_n (pc2 := 54) (dk D_X3_linkActs 28 rfl) rfl (V_lg 1 rfl) rfl ?_
  refine V_iload_n (pc2 := 55) (dk D_X3_linkActs 29 rfl) rfl (V_lg 2 rfl) rfl ?_
  obtain ⟨h5, h⟩ := h
  obtain ⟨e1, he2, hc3⟩ := h
  refine V_callV (as := [_, _]) (st := []) (M' := MX3_linkVariable) (ci := 3) (pc2 := 58) (dk D_X3_linkActs 30 rfl) ml_3_63 mv_X3_linkVariable rfl rfl (by decide) rfl (Nat.le_of_ble_eq_true rfl) rfl he2 h5 hc3 (RV.k fun  S4 h => ?_)
  refine V_goto (tgt := 89) (dk D_X3_linkActs 31 rfl) (by decide) ?_
  exact h
theorem w_X3_linkActs_73 {X : Cx} {d : Nat} {S : Mem} {Q : Res → Mem → Prop} (r0 : Nat) (r1 : Nat) (x2 : Int32) (x3 : Int32) (h : ((¬ x3 = 23 → V X d MX3_linkActs 86 [(0, vR r0), (1, vR r1), (2, vI x2), (3, vI x3)] [vI 0, vI x2, vR r0] S Q) ∧ (x3 = 23 → V X d MX3_linkActs 86 [(0, vR r0), (1, vR r1), (2, vI x2), (3, vI x3)] [vI 1, vI x2, vR r0] S Q))) : V X d MX3_linkActs 73 [(0, vR r0), (1, vR r1), (2, vI x2), (3, vI x3)] [] S Q := by
  refine V_aload_n (pc2 := 74) (dk D_X3_linkActs 38 rfl) rfl (V_lg 0 rfl) rfl ?_
  refine V_iload_n (pc2 := 75) (dk D_X3_linkActs 39 rfl) rfl (V_lg 2 rfl) rfl ?_
  refine V_iload_n (pc2 := 76) (dk D_X3_linkActs 40 rfl) rfl (V_lg 3 rfl) rfl ?_
  refine V_bipush (x := 23) (pc2 := 78) (dk D_X3_linkActs 41 rfl) (by decide) rfl ?_
  refine V_cmpne (tgt := 85) (pc2 := 81) (dk D_X3_linkActs 42 rfl) (by decide) rfl (fun q1 => ?_) (fun q1 => ?_)
  · have h := h.1 q1
    refine V_iconst (x := 0) (pc2 := 86) (dk D_X3_linkActs 45 rfl) (by decide) rfl ?_
    exact h
  · have h := h.2 q1
    refine V_iconst (x := 1) (pc2 := 82) (dk D_X3_linkActs 43 rfl) (by decide) rfl ?_
    refine V_goto (tgt := 86) (dk D_X3_linkActs 44 rfl) (by decide) ?_
    exact h
theorem w_X3_linkActs_86 {X : Cx} {d : Nat} {S : Mem} {Q : Res → Mem → Prop} (r0 : Nat) (r1 : Nat) (x2 : Int32) (x3 : Int32) (t0 : Nat) (t1 : Int32) (t2 : Int32) (h : (isK S t0 3) ∧ ∃ e1 : Nat, e1 + 1 ≤ d ∧ C X e1 MX3_linkBody [vR t0, vI t1, vI t2] S (RV fun  S4 => V X d MX3_linkActs 89 [(0, vR r0), (1, vR r1), (2, vI x2), (3, vI x3)] [] S4 Q)) : V X d MX3_linkActs 86 [(0, vR r0), (1, vR r1), (2, vI x2), (3, vI x3)] [vI t2, vI t1, vR t0] S Q := by
  obtain ⟨h5, h⟩ := h
  obtain ⟨e1, he2, hc3⟩ := h
  refine V_callV (as := [_, _]) (st := []) (M' := MX3_linkBody) (ci := 3) (pc2 := 89) (dk D_X3_linkActs 46 rfl) ml_3_67 mv_X3_linkBody rfl rfl (by decide) rfl (Nat.le_of_ble_eq_true rfl) rfl he2 h5 hc3 (RV.k fun  S4 h => ?_)
  exact h
theorem w_X3_linkActs_89 {X : Cx} {d : Nat} {S : Mem} {Q : Res → Mem → Prop} (r0 : Nat) (r1 : Nat) (x2 : Int32) (x3 : Int32) (h : V X d MX3_linkActs 25 [(0, vR r0), (1, vR r1), (2, vI (x2 + 1))] [] S Q) : V X d MX3_linkActs 89 [(0, vR r0), (1, vR r1), (2, vI x2), (3, vI x3)] [] S Q := by
  refine V_iinc (y := _ + 1) (pc2 := 92) (lv2 := [(0, _), (1, _), (2, _), (3, _)]) (dk D_X3_linkActs 47 rfl) (V_lg 2 rfl) rfl (by decide) rfl rfl ?_
  refine V_goto (tgt := 25) (dk D_X3_linkActs 48 rfl) (by decide) ?_
  refine V_pick [0, 1, 2] (lv2 := [(0, _), (1, _), (2, _)]) rfl ?_
  exact h
def L_X3_linkVariable : List (Nat × Instr × Nat) := [(0, .iconst (-1), 1), (1, .aload_n 0, 1), (2, .getfield 25, 3), (5, .iload_n 2, 1), (6, .invokevirtual 71, 3), (9, .isub, 1), (10, .istore_n 3, 1), (11, .aload_n 0, 1), (12, .getfield 9, 3), (15, .iload_n 3, 1), (16, .invokevirtual 74, 3), (19, .lstore 4, 2), (21, .aload_n 1, 1), (22, .lload 4, 2), (24, .invokevirtual 80, 3), (27, .istore 6, 2), (29, .iload 6, 2), (31, .bipush (-9), 2), (33, .if_icmp .eq 16, 3), (36, .aload_n 0, 1), (37, .getfield 25, 3), (40, .iload_n 2, 1), (41, .iload 6, 2), (43, .invokevirtual 84, 3), (46, .goto 40, 3), (49, .aload_n 0, 1), (50, .getfield 25, 3), (53, .iload_n 2, 1), (54, .invokevirtual 57, 3), (57, .iconst 2, 1), (58, .if_icmp .ne 28, 3), (61, .aload_n 0, 1), (62, .aload_n 1, 1), (63, .lload 4, 2), (65, .invokevirtual 88, 3), (68, .ifCond .ne 18, 3), (71, .aload_n 0, 1), (72, .getfield 15, 3), (75, .aload_n 0, 1), (76, .getfield 9, 3), (79, .iload_n 3, 1), (80, .invokevirtual 92, 3), (83, .invokevirtual 47, 3), (86, .return_, 1)]
theorem D_X3_linkVariable : dOk cX3_linkVariable L_X3_linkVariable = true := by decide +kernel
theorem w_X3_linkVariable_0 {X : Cx} {d : Nat} {S : Mem} {Q : Res → Mem → Prop} (r0 : Nat) (r1 : Nat) (x2 : Int32) (h : (isK S r0 3) ∧ (isK S (gR S r0 2) 1) ∧ ∃ e2 : Nat, e2 + 1 ≤ d ∧ C X e2 MX1_argument [vR (gR S r0 2), vI x2] S (RI fun y5 S6 => (isK S6 r0 3) ∧ (isK S6 (gR S6 r0 0) 9) ∧ ∃ e9 : Nat, e9 + 1 ≤ d ∧ C X e9 MX9_valueOf [vR (gR S6 r0 0), vI ((-1) - y5)] S6 (RJ fun w12 S13 => (isK S13 r1 0) ∧ ∃ e15 : Nat, e15 + 1 ≤ d ∧ C X e15 MX0_find [vR r1, vL w12] S13 (RI fun y18 S19 => ((y18 = (-9) → (isK S19 r0 3) ∧ (isK S19 (gR S19 r0 2) 1) ∧ ∃ e23 : Nat, e23 + 1 ≤ d ∧ C X e23 MX1_act [vR (gR S19 r0 2), vI x2] S19 (RI fun y26 S27 => ((¬ y26 = 2 → V X d MX3_linkVariable 86 [(0, vR r0), (1, vR r1), (2, vI x2), (3, vI ((-1) - y5)), (4, vL w12), (6, vI y18)] [] S27 Q) ∧ (y26 = 2 → (isK S27 r0 3) ∧ ∃ e30 : Nat, e30 + 1 ≤ d ∧ C X e30 MX3_isStored [vR r0, vR r1, vL w12] S27 (RI fun y33 S34 => ((¬ y33 = 0 → V X d MX3_linkVariable 86 [(0, vR r0), (1, vR r1), (2, vI x2), (3, vI ((-1) - y5)), (4, vL w12), (6, vI y18)] [] S34 Q) ∧ (y33 = 0 → (isK S34 r0 3) ∧ (isK S34 (gR S34 r0 0) 9) ∧ ∃ e38 : Nat, e38 + 1 ≤ d ∧ C X e38 MX9_placeOf [vR (gR S34 r0 0), vI ((-1) - y5)] S34 (RI fun y41 S42 => (isK S42 (gR S34 r0 1) 7) ∧ ∃ e44 : Nat, e44 + 1 ≤ d ∧ C X e44 MX7_noteWrongName [vR (gR S34 r0 1), vI y41] S42 (RV fun  S47 => V X d MX3_linkVariable 86 [(0, vR r0), (1, vR r1), (2, vI x2), (3, vI ((-1) - y5)), (4, vL w12), (6, vI y18)] [] S47 Q))))))))) ∧ (¬ y18 = (-9) → (isK S19 r0 3) ∧ (isK S19 (gR S19 r0 2) 1) ∧ ∃ e50 : Nat, e50 + 1 ≤ d ∧ C X e50 MX1_patch [vR (gR S19 r0 2), vI x2, vI y18] S19 (RV fun  S53 => V X d MX3_linkVariable 86 [(0, vR r0), (1, vR r1), (2, vI x2), (3, vI ((-1) - y5)), (4, vL w12), (6, vI y18)] [] S53 Q))))))) : V X d MX3_linkVariable 0 [(0, vR r0), (1, vR r1), (2, vI x2)] [] S Q := by
  refine V_iconst (x := (-1)) (pc2 := 1) (dk D_X3_linkVariable 0 rfl) (by decide) rfl ?_
  refine V_aload_n (pc2 := 2) (dk D_X3_linkVariable 1 rfl) rfl (V_lg 0 rfl) rfl ?_
  obtain ⟨h1, h⟩ := h
  refine V_getR kc3 (pc2 := 5) 2 (dk D_X3_linkVariable 2 rfl) fl_3_25 (by decide) (fun _ => rfl) rfl h1 ?_
  refine V_iload_n (pc2 := 6) (dk D_X3_linkVariable 3 rfl) rfl (V_lg 2 rfl) rfl ?_
  obtain ⟨h7, h⟩ := h
  obtain ⟨e2, he3, hc4⟩ := h
  refine V_callV (as := [_]) (st := [_]) (M' := MX1_argument) (ci := 1) (pc2 := 9) (dk D_X3_linkVariable 4 rfl) ml_3_71 mv_X1_argument rfl rfl (by decide) rfl (Nat.le_of_ble_eq_true rfl) rfl he3 h7 hc4 (RI.k fun y5 S6 h => ?_)
  refine V_isub (pc2 := 10) (dk D_X3_linkVariable 5 rfl) rfl ?_
  refine V_istore_n (pc2 := 11) (lv2 := [(0, _), (1, _), (2, _), (3, _)]) (dk D_X3_linkVariable 6 rfl) rfl (by decide) rfl rfl ?_
  refine V_aload_n (pc2 := 12) (dk D_X3_linkVariable 7 rfl) rfl (V_lg 0 rfl) rfl ?_
  obtain ⟨h8, h⟩ := h
  refine V_getR kc3 (pc2 := 15) 0 (dk D_X3_linkVariable 8 rfl) fl_3_9 (by decide) (fun _ => rfl) rfl h8 ?_
  refine V_iload_n (pc2 := 16) (dk D_X3_linkVariable 9 rfl) rfl (V_lg 3 rfl) rfl ?_
  obtain ⟨h14, h⟩ := h
  obtain ⟨e9, he10, hc11⟩ := h
  refine V_callV (as := [_]) (st := []) (M' := MX9_valueOf) (ci := 9) (pc2 := 19) (dk D_X3_linkVariable 10 rfl) ml_3_74 mv_X9_valueOf rfl rfl (by decide) rfl (Nat.le_of_ble_eq_true rfl) rfl he10 h14 hc11 (RJ.k fun w12 S13 h => ?_)
  refine V_lstore (pc2 := 21) (lv2 := [(0, _), (1, _), (2, _), (3, _), (4, _)]) (dk D_X3_linkVariable 11 rfl) (by decide) rfl rfl ?_
  refine V_aload_n (pc2 := 22) (dk D_X3_linkVariable 12 rfl) rfl (V_lg 1 rfl) rfl ?_
  refine V_lload (pc2 := 24) (dk D_X3_linkVariable 13 rfl) (V_lg 4 rfl) rfl ?_
  obtain ⟨h20, h⟩ := h
  obtain ⟨e15, he16, hc17⟩ := h
  refine V_callV (as := [_]) (st := []) (M' := MX0_find) (ci := 0) (pc2 := 27) (dk D_X3_linkVariable 14 rfl) ml_3_80 mv_X0_find rfl rfl (by decide) rfl (Nat.le_of_ble_eq_true rfl) rfl he16 h20 hc17 (RI.k fun y18 S19 h => ?_)
  refine V_istore (pc2 := 29) (lv2 := [(0, _), (1, _), (2, _), (3, _), (4, _), (6, _)]) (dk D_X3_linkVariable 15 rfl) (by decide) rfl rfl ?_
  refine V_iload (pc2 := 31) (dk D_X3_linkVariable 16 rfl) (V_lg 5 rfl) rfl ?_
  refine V_bipush (x := (-9)) (pc2 := 33) (dk D_X3_linkVariable 17 rfl) (by decide) rfl ?_
  refine V_cmpeq (tgt := 49) (pc2 := 36) (dk D_X3_linkVariable 18 rfl) (by decide) rfl (fun q21 => ?_) (fun q21 => ?_)
  · have h := h.1 q21
    refine V_aload_n (pc2 := 50) (dk D_X3_linkVariable 25 rfl) rfl (V_lg 0 rfl) rfl ?_
    obtain ⟨h22, h⟩ := h
    refine V_getR kc3 (pc2 := 53) 2 (dk D_X3_linkVariable 26 rfl) fl_3_25 (by decide) (fun _ => rfl) rfl h22 ?_
    refine V_iload_n (pc2 := 54) (dk D_X3_linkVariable 27 rfl) rfl (V_lg 2 rfl) rfl ?_
    obtain ⟨h28, h⟩ := h
    obtain ⟨e23, he24, hc25⟩ := h
    refine V_callV (as := [_]) (st := []) (M' := MX1_act) (ci := 1) (pc2 := 57) (dk D_X3_linkVariable 28 rfl) ml_3_57 mv_X1_act rfl rfl (by decide) rfl (Nat.le_of_ble_eq_true rfl) rfl he24 h28 hc25 (RI.k fun y26 S27 h => ?_)
    refine V_iconst (x := 2) (pc2 := 58) (dk D_X3_linkVariable 29 rfl) (by decide) rfl ?_
    refine V_cmpne (tgt := 86) (pc2 := 61) (dk D_X3_linkVariable 30 rfl) (by decide) rfl (fun q29 => ?_) (fun q29 => ?_)
    · have h := h.1 q29
      exact h
    · have h := h.2 q29
      refine V_aload_n (pc2 := 62) (dk D_X3_linkVariable 31 rfl) rfl (V_lg 0 rfl) rfl ?_
      refine V_aload_n (pc2 := 63) (dk D_X3_linkVariable 32 rfl) rfl (V_lg 1 rfl) rfl ?_
      refine V_lload (pc2 := 65) (dk D_X3_linkVariable 33 rfl) (V_lg 4 rfl) rfl ?_
      obtain ⟨h35, h⟩ := h
      obtain ⟨e30, he31, hc32⟩ := h
      refine V_callV (as := [_, _]) (st := []) (M' := MX3_isStored) (ci := 3) (pc2 := 68) (dk D_X3_linkVariable 34 rfl) ml_3_88 mv_X3_isStored rfl rfl (by decide) rfl (Nat.le_of_ble_eq_true rfl) rfl he31 h35 hc32 (RI.k fun y33 S34 h => ?_)
      refine V_ifne (tgt := 86) (pc2 := 71) (dk D_X3_linkVariable 35 rfl) (by decide) rfl (fun q36 => ?_) (fun q36 => ?_)
      · have h := h.1 q36
        exact h
      · have h := h.2 q36
        refine V_aload_n (pc2 := 72) (dk D_X3_linkVariable 36 rfl) rfl (V_lg 0 rfl) rfl ?_
        obtain ⟨h37, h⟩ := h
        refine V_getR kc3 (pc2 := 75) 1 (dk D_X3_linkVariable 37 rfl) fl_3_15 (by decide) (fun _ => rfl) rfl h37 ?_
        refine V_aload_n (pc2 := 76) (dk D_X3_linkVariable 38 rfl) rfl (V_lg 0 rfl) rfl ?_
        refine V_getR kc3 (pc2 := 79) 0 (dk D_X3_linkVariable 39 rfl) fl_3_9 (by decide) (fun _ => rfl) rfl h37 ?_
        refine V_iload_n (pc2 := 80) (dk D_X3_linkVariable 40 rfl) rfl (V_lg 3 rfl) rfl ?_
        obtain ⟨h43, h⟩ := h
        obtain ⟨e38, he39, hc40⟩ := h
        refine V_callV (as := [_]) (st := [_]) (M' := MX9_placeOf) (ci := 9) (pc2 := 83) (dk D_X3_linkVariable 41 rfl) ml_3_92 mv_X9_placeOf rfl rfl (by decide) rfl (Nat.le_of_ble_eq_true rfl) rfl he39 h43 hc40 (RI.k fun y41 S42 h => ?_)
        obtain ⟨h48, h⟩ := h
        obtain ⟨e44, he45, hc46⟩ := h
        refine V_callV (as := [_]) (st := []) (M' := MX7_noteWrongName) (ci := 7) (pc2 := 86) (dk D_X3_linkVariable 42 rfl) ml_3_47 mv_X7_noteWrongName rfl rfl (by decide) rfl (Nat.le_of_ble_eq_true rfl) rfl he45 h48 hc46 (RV.k fun  S47 h => ?_)
        exact h
  · have h := h.2 q21
    refine V_aload_n (pc2 := 37) (dk D_X3_linkVariable 19 rfl) rfl (V_lg 0 rfl) rfl ?_
    obtain ⟨h49, h⟩ := h
    refine V_getR kc3 (pc2 := 40) 2 (dk D_X3_linkVariable 20 rfl) fl_3_25 (by decide) (fun _ => rfl) rfl h49 ?_
    refine V_iload_n (pc2 := 41) (dk D_X3_linkVariable 21 rfl) rfl (V_lg 2 rfl) rfl ?_
    refine V_iload (pc2 := 43) (dk D_X3_linkVariable 22 rfl) (V_lg 5 rfl) rfl ?_
    obtain ⟨h54, h⟩ := h
    obtain ⟨e50, he51, hc52⟩ := h
    refine V_callV (as := [_, _]) (st := []) (M' := MX1_patch) (ci := 1) (pc2 := 46) (dk D_X3_linkVariable 23 rfl) ml_3_84 mv_X1_patch rfl rfl (by decide) rfl (Nat.le_of_ble_eq_true rfl) rfl he51 h54 hc52 (RV.k fun  S53 h => ?_)
    refine V_goto (tgt := 86) (dk D_X3_linkVariable 24 rfl) (by decide) ?_
    exact h
theorem w_X3_linkVariable_86 {X : Cx} {d : Nat} {S : Mem} {Q : Res → Mem → Prop} (r0 : Nat) (r1 : Nat) (x2 : Int32) (x3 : Int32) (l4 : Int64) (x6 : Int32) (h : Q (.inl none) S) : V X d MX3_linkVariable 86 [(0, vR r0), (1, vR r1), (2, vI x2), (3, vI x3), (4, vL l4), (6, vI x6)] [] S Q := by
  exact V_return (dk D_X3_linkVariable 43 rfl) rfl h
def L_X3_isStored : List (Nat × Instr × Nat) := [(0, .aload_n 1, 1), (1, .getfield 51, 3), (4, .istore 4, 2), (6, .iload 4, 2), (8, .aload_n 1, 1), (9, .getfield 54, 3), (12, .if_icmp .ge 68, 3), (15, .aload_n 1, 1), (16, .getfield 41, 3), (19, .bipush (-9), 2), (21, .if_icmp .eq 59, 3), (24, .aload_n 0, 1), (25, .getfield 25, 3), (28, .iload 4, 2), (30, .invokevirtual 57, 3), (33, .iconst 3, 1), (34, .if_icmp .ne 40, 3), (37, .aload_n 0, 1), (38, .getfield 25, 3), (41, .iload 4, 2), (43, .invokevirtual 71, 3), (46, .ifCond .ge 28, 3), (49, .aload_n 0, 1), (50, .getfield 9, 3), (53, .iconst (-1), 1), (54, .aload_n 0, 1), (55, .getfield 25, 3), (58, .iload 4, 2), (60, .invokevirtual 71, 3), (63, .isub, 1), (64, .invokevirtual 74, 3), (67, .lload_n 2, 1), (68, .lcmp, 1), (69, .ifCond .ne 5, 3), (72, .iconst 1, 1), (73, .ireturn, 1), (74, .iinc 4 1, 3), (77, .goto (-71), 3), (80, .iconst 0, 1), (81, .ireturn, 1)]
theorem D_X3_isStored : dOk cX3_isStored L_X3_isStored = true := by decide +kernel
theorem w_X3_isStored_0 {X : Cx} {d : Nat} {S : Mem} {Q : Res → Mem → Prop} (r0 : Nat) (r1 : Nat) (l2 : Int64) (h : (isK S r1 0) ∧ V X d MX3_isStored 6 [(0, vR r0), (1, vR r1), (2, vL l2), (4, vI (gI S r1 6))] [] S Q) : V X d MX3_isStored 0 [(0, vR r0), (1, vR r1), (2, vL l2)] [] S Q := by
  refine V_aload_n (pc2 := 1) (dk D_X3_isStored 0 rfl) rfl (V_lg 1 rfl) rfl ?_
  obtain ⟨h1, h⟩ := h
  refine V_getI kc0 (pc2 := 4) 6 (dk D_X3_isStored 1 rfl) fl_3_51 (by decide) (fun _ => rfl) rfl h1 ?_
  refine V_istore (pc2 := 6) (lv2 := [(0, _), (1, _), (2, _), (4, _)]) (dk D_X3_isStored 2 rfl) (by decide) rfl rfl ?_
  exact h
theorem w_X3_isStored_6 {X : Cx} {d : Nat} {S : Mem} {Q : Res → Mem → Prop} (r0 : Nat) (r1 : Nat) (l2 : Int64) (x4 : Int32) (h : (isK S r1 0) ∧ (((gI S r1 7) ≤ x4 → V X d MX3_isStored 80 [(0, vR r0), (1, vR r1), (2, vL l2), (4, vI x4)] [] S Q) ∧ (¬ (gI S r1 7) ≤ x4 → (((gI S r1 8) = (-9) → V X d MX3_isStored 80 [(0, vR r0), (1, vR r1), (2, vL l2), (4, vI x4)] [] S Q) ∧ (¬ (gI S r1 8) = (-9) → (isK S r0 3) ∧ (isK S (gR S r0 2) 1) ∧ ∃ e5 : Nat, e5 + 1 ≤ d ∧ C X e5 MX1_act [vR (gR S r0 2), vI x4] S (RI fun y8 S9 => ((¬ y8 = 3 → V X d MX3_isStored 74 [(0, vR r0), (1, vR r1), (2, vL l2), (4, vI x4)] [] S9 Q) ∧ (y8 = 3 → (isK S9 r0 3) ∧ (isK S9 (gR S9 r0 2) 1) ∧ ∃ e13 : Nat, e13 + 1 ≤ d ∧ C X e13 MX1_argument [vR (gR S9 r0 2), vI x4] S9 (RI fun y16 S17 => ((0 ≤ y16 → V X d MX3_isStored 74 [(0, vR r0), (1, vR r1), (2, vL l2), (4, vI x4)] [] S17 Q) ∧ (¬ 0 ≤ y16 → (isK S17 r0 3) ∧ (isK S17 (gR S17 r0 2) 1) ∧ ∃ e21 : Nat, e21 + 1 ≤ d ∧ C X e21 MX1_argument [vR (gR S17 r0 2), vI x4] S17 (RI fun y24 S25 => (isK S25 (gR S17 r0 0) 9) ∧ ∃ e27 : Nat, e27 + 1 ≤ d ∧ C X e27 MX9_valueOf [vR (gR S17 r0 0), vI ((-1) - y24)] S25 (RJ fun w30 S31 => ((¬ (lg_cmp w30 l2) = 0 → V X d MX3_isStored 74 [(0, vR r0), (1, vR r1), (2, vL l2), (4, vI x4)] [] S31 Q) ∧ ((lg_cmp w30 l2) = 0 → Q (.inl (some (vI 1))) S31))))))))))))))) : V X d MX3_isStored 6 [(0, vR r0), (1, vR r1), (2, vL l2), (4, vI x4)] [] S Q := by
  refine V_iload (pc2 := 8) (dk D_X3_isStored 3 rfl) (V_lg 3 rfl) rfl ?_
  refine V_aload_n (pc2 := 9) (dk D_X3_isStored 4 rfl) rfl (V_lg 1 rfl) rfl ?_
  obtain ⟨h1, h⟩ := h
  refine V_getI kc0 (pc2 := 12) 7 (dk D_X3_isStored 5 rfl) fl_3_54 (by decide) (fun _ => rfl) rfl h1 ?_
  refine V_cmpge (tgt := 80) (pc2 := 15) (dk D_X3_isStored 6 rfl) (by decide) rfl (fun q2 => ?_) (fun q2 => ?_)
  · have h := h.1 q2
    exact h
  · have h := h.2 q2
    refine V_aload_n (pc2 := 16) (dk D_X3_isStored 7 rfl) rfl (V_lg 1 rfl) rfl ?_
    refine V_getI kc0 (pc2 := 19) 8 (dk D_X3_isStored 8 rfl) fl_3_41 (by decide) (fun _ => rfl) rfl h1 ?_
    refine V_bipush (x := (-9)) (pc2 := 21) (dk D_X3_isStored 9 rfl) (by decide) rfl ?_
    refine V_cmpeq (tgt := 80) (pc2 := 24) (dk D_X3_isStored 10 rfl) (by decide) rfl (fun q3 => ?_) (fun q3 => ?_)
    · have h := h.1 q3
      exact h
    · have h := h.2 q3
      refine V_aload_n (pc2 := 25) (dk D_X3_isStored 11 rfl) rfl (V_lg 0 rfl) rfl ?_
      obtain ⟨h4, h⟩ := h
      refine V_getR kc3 (pc2 := 28) 2 (dk D_X3_isStored 12 rfl) fl_3_25 (by decide) (fun _ => rfl) rfl h4 ?_
      refine V_iload (pc2 := 30) (dk D_X3_isStored 13 rfl) (V_lg 3 rfl) rfl ?_
      obtain ⟨h10, h⟩ := h
      obtain ⟨e5, he6, hc7⟩ := h
      refine V_callV (as := [_]) (st := []) (M' := MX1_act) (ci := 1) (pc2 := 33) (dk D_X3_isStored 14 rfl) ml_3_57 mv_X1_act rfl rfl (by decide) rfl (Nat.le_of_ble_eq_true rfl) rfl he6 h10 hc7 (RI.k fun y8 S9 h => ?_)
      refine V_iconst (x := 3) (pc2 := 34) (dk D_X3_isStored 15 rfl) (by decide) rfl ?_
      refine V_cmpne (tgt := 74) (pc2 := 37) (dk D_X3_isStored 16 rfl) (by decide) rfl (fun q11 => ?_) (fun q11 => ?_)
      · have h := h.1 q11
        exact h
      · have h := h.2 q11
        refine V_aload_n (pc2 := 38) (dk D_X3_isStored 17 rfl) rfl (V_lg 0 rfl) rfl ?_
        obtain ⟨h12, h⟩ := h
        refine V_getR kc3 (pc2 := 41) 2 (dk D_X3_isStored 18 rfl) fl_3_25 (by decide) (fun _ => rfl) rfl h12 ?_
        refine V_iload (pc2 := 43) (dk D_X3_isStored 19 rfl) (V_lg 3 rfl) rfl ?_
        obtain ⟨h18, h⟩ := h
        obtain ⟨e13, he14, hc15⟩ := h
        refine V_callV (as := [_]) (st := []) (M' := MX1_argument) (ci := 1) (pc2 := 46) (dk D_X3_isStored 20 rfl) ml_3_71 mv_X1_argument rfl rfl (by decide) rfl (Nat.le_of_ble_eq_true rfl) rfl he14 h18 hc15 (RI.k fun y16 S17 h => ?_)
        refine V_ifge (tgt := 74) (pc2 := 49) (dk D_X3_isStored 21 rfl) (by decide) rfl (fun q19 => ?_) (fun q19 => ?_)
        · have h := h.1 q19
          exact h
        · have h := h.2 q19
          refine V_aload_n (pc2 := 50) (dk D_X3_isStored 22 rfl) rfl (V_lg 0 rfl) rfl ?_
          obtain ⟨h20, h⟩ := h
          refine V_getR kc3 (pc2 := 53) 0 (dk D_X3_isStored 23 rfl) fl_3_9 (by decide) (fun _ => rfl) rfl h20 ?_
          refine V_iconst (x := (-1)) (pc2 := 54) (dk D_X3_isStored 24 rfl) (by decide) rfl ?_
          refine V_aload_n (pc2 := 55) (dk D_X3_isStored 25 rfl) rfl (V_lg 0 rfl) rfl ?_
          refine V_getR kc3 (pc2 := 58) 2 (dk D_X3_isStored 26 rfl) fl_3_25 (by decide) (fun _ => rfl) rfl h20 ?_
          refine V_iload (pc2 := 60) (dk D_X3_isStored 27 rfl) (V_lg 3 rfl) rfl ?_
          obtain ⟨h26, h⟩ := h
          obtain ⟨e21, he22, hc23⟩ := h
          refine V_callV (as := [_]) (st := [_, _]) (M' := MX1_argument) (ci := 1) (pc2 := 63) (dk D_X3_isStored 28 rfl) ml_3_71 mv_X1_argument rfl rfl (by decide) rfl (Nat.le_of_ble_eq_true rfl) rfl he22 h26 hc23 (RI.k fun y24 S25 h => ?_)
          refine V_isub (pc2 := 64) (dk D_X3_isStored 29 rfl) rfl ?_
          obtain ⟨h32, h⟩ := h
          obtain ⟨e27, he28, hc29⟩ := h
          refine V_callV (as := [_]) (st := []) (M' := MX9_valueOf) (ci := 9) (pc2 := 67) (dk D_X3_isStored 30 rfl) ml_3_74 mv_X9_valueOf rfl rfl (by decide) rfl (Nat.le_of_ble_eq_true rfl) rfl he28 h32 hc29 (RJ.k fun w30 S31 h => ?_)
          refine V_lload_n (pc2 := 68) (dk D_X3_isStored 31 rfl) rfl (V_lg 2 rfl) rfl ?_
          refine V_lcmp (pc2 := 69) (dk D_X3_isStored 32 rfl) rfl ?_
          refine V_ifne (tgt := 74) (pc2 := 72) (dk D_X3_isStored 33 rfl) (by decide) rfl (fun q33 => ?_) (fun q33 => ?_)
          · have h := h.1 q33
            exact h
          · have h := h.2 q33
            refine V_iconst (x := 1) (pc2 := 73) (dk D_X3_isStored 34 rfl) (by decide) rfl ?_
            exact V_zreturn (dk D_X3_isStored 35 rfl) rfl (Or.inr rfl) h
theorem w_X3_isStored_74 {X : Cx} {d : Nat} {S : Mem} {Q : Res → Mem → Prop} (r0 : Nat) (r1 : Nat) (l2 : Int64) (x4 : Int32) (h : V X d MX3_isStored 6 [(0, vR r0), (1, vR r1), (2, vL l2), (4, vI (x4 + 1))] [] S Q) : V X d MX3_isStored 74 [(0, vR r0), (1, vR r1), (2, vL l2), (4, vI x4)] [] S Q := by
  refine V_iinc (y := _ + 1) (pc2 := 77) (lv2 := [(0, _), (1, _), (2, _), (4, _)]) (dk D_X3_isStored 36 rfl) (V_lg 3 rfl) rfl (by decide) rfl rfl ?_
  refine V_goto (tgt := 6) (dk D_X3_isStored 37 rfl) (by decide) ?_
  exact h
theorem w_X3_isStored_80 {X : Cx} {d : Nat} {S : Mem} {Q : Res → Mem → Prop} (r0 : Nat) (r1 : Nat) (l2 : Int64) (x4 : Int32) (h : Q (.inl (some (vI 0))) S) : V X d MX3_isStored 80 [(0, vR r0), (1, vR r1), (2, vL l2), (4, vI x4)] [] S Q := by
  refine V_iconst (x := 0) (pc2 := 81) (dk D_X3_isStored 38 rfl) (by decide) rfl ?_
  exact V_zreturn (dk D_X3_isStored 39 rfl) rfl (Or.inl rfl) h
def L_X3_linkBody : List (Nat × Instr × Nat) := [(0, .aload_n 0, 1), (1, .getfield 25, 3), (4, .iload_n 1, 1), (5, .invokevirtual 71, 3), (8, .bipush 8, 2), (10, .idiv, 1), (11, .istore_n 3, 1), (12, .aload_n 0, 1), (13, .getfield 15, 3), (16, .aload_n 0, 1), (17, .getfield 9, 3), (20, .iload_n 3, 1), (21, .invokevirtual 74, 3), (24, .invokevirtual 95, 3), (27, .istore 4, 2), (29, .aload_n 0, 1), (30, .getfield 15, 3), (33, .iload 4, 2), (35, .invokevirtual 30, 3), (38, .astore 5, 2), (40, .aload 5, 2), (42, .ifnull 31, 3), (45, .aload 5, 2), (47, .getfield 96, 3), (50, .iload_n 2, 1), (51, .if_icmp .ne 22, 3), (54, .aload 5, 2), (56, .getfield 100, 3), (59, .aload_n 0, 1), (60, .getfield 25, 3), (63, .iload_n 1, 1), (64, .invokevirtual 71, 3), (67, .bipush 8, 2), (69, .irem, 1), (70, .if_icmp .eq 21, 3), (73, .aload_n 0, 1), (74, .getfield 15, 3), (77, .aload_n 0, 1), (78, .getfield 9, 3), (81, .iload_n 3, 1), (82, .invokevirtual 92, 3), (85, .invokevirtual 47, 3), (88, .goto 13, 3), (91, .aload_n 0, 1), (92, .getfield 25, 3), (95, .iload_n 1, 1), (96, .iload 4, 2), (98, .invokevirtual 84, 3), (101, .return_, 1)]
theorem D_X3_linkBody : dOk cX3_linkBody L_X3_linkBody = true := by decide +kernel
theorem w_X3_linkBody_0 {X : Cx} {d : Nat} {S : Mem} {Q : Res → Mem → Prop} (r0 : Nat) (x1 : Int32) (x2 : Int32) (h : (isK S r0 3) ∧ (isK S (gR S r0 2) 1) ∧ ∃ e2 : Nat, e2 + 1 ≤ d ∧ C X e2 MX1_argument [vR (gR S r0 2), vI x1] S (RI fun y5 S6 => (isK S6 r0 3) ∧ (isK S6 (gR S6 r0 0) 9) ∧ ∃ e9 : Nat, e9 + 1 ≤ d ∧ C X e9 MX9_valueOf [vR (gR S6 r0 0), vI (y5 / 8)] S6 (RJ fun w12 S13 => (isK S13 (gR S6 r0 1) 7) ∧ ∃ e15 : Nat, e15 + 1 ≤ d ∧ C X e15 MX7_find [vR (gR S6 r0 1), vL w12] S13 (RI fun y18 S19 => (isK S19 r0 3) ∧ (isK S19 (gR S19 r0 1) 7) ∧ ∃ e22 : Nat, e22 + 1 ≤ d ∧ C X e22 MX7_at [vR (gR S19 r0 1), vI y18] S19 (RR fun p25 S26 => ((p25 = 0 → V X d MX3_linkBody 73 [(0, vR r0), (1, vI x1), (2, vI x2), (3, vI (y5 / 8)), (4, vI y18), (5, vR p25)] [] S26 Q) ∧ (¬ p25 = 0 → (isK S26 p25 0) ∧ ((¬ (gI S26 p25 2) = x2 → V X d MX3_linkBody 73 [(0, vR r0), (1, vI x1), (2, vI x2), (3, vI (y5 / 8)), (4, vI y18), (5, vR p25)] [] S26 Q) ∧ ((gI S26 p25 2) = x2 → (isK S26 r0 3) ∧ (isK S26 (gR S26 r0 2) 1) ∧ ∃ e32 : Nat, e32 + 1 ≤ d ∧ C X e32 MX1_argument [vR (gR S26 r0 2), vI x1] S26 (RI fun y35 S36 => (((gI S26 p25 4) = (y35 - y35 / 8 * 8) → (isK S36 r0 3) ∧ (isK S36 (gR S36 r0 2) 1) ∧ ∃ e40 : Nat, e40 + 1 ≤ d ∧ C X e40 MX1_patch [vR (gR S36 r0 2), vI x1, vI y18] S36 (RV fun  S43 => V X d MX3_linkBody 101 [(0, vR r0), (1, vI x1), (2, vI x2), (3, vI (y5 / 8)), (4, vI y18), (5, vR p25)] [] S43 Q)) ∧ (¬ (gI S26 p25 4) = (y35 - y35 / 8 * 8) → V X d MX3_linkBody 73 [(0, vR r0), (1, vI x1), (2, vI x2), (3, vI (y5 / 8)), (4, vI y18), (5, vR p25)] [] S36 Q)))))))))))) : V X d MX3_linkBody 0 [(0, vR r0), (1, vI x1), (2, vI x2)] [] S Q := by
  refine V_aload_n (pc2 := 1) (dk D_X3_linkBody 0 rfl) rfl (V_lg 0 rfl) rfl ?_
  obtain ⟨h1, h⟩ := h
  refine V_getR kc3 (pc2 := 4) 2 (dk D_X3_linkBody 1 rfl) fl_3_25 (by decide) (fun _ => rfl) rfl h1 ?_
  refine V_iload_n (pc2 := 5) (dk D_X3_linkBody 2 rfl) rfl (V_lg 1 rfl) rfl ?_
  obtain ⟨h7, h⟩ := h
  obtain ⟨e2, he3, hc4⟩ := h
  refine V_callV (as := [_]) (st := []) (M' := MX1_argument) (ci := 1) (pc2 := 8) (dk D_X3_linkBody 3 rfl) ml_3_71 mv_X1_argument rfl rfl (by decide) rfl (Nat.le_of_ble_eq_true rfl) rfl he3 h7 hc4 (RI.k fun y5 S6 h => ?_)
  refine V_bipush (x := 8) (pc2 := 10) (dk D_X3_linkBody 4 rfl) (by decide) rfl ?_
  refine V_idiv (pc2 := 11) (dk D_X3_linkBody 5 rfl) rfl (by decide) ?_
  refine V_istore_n (pc2 := 12) (lv2 := [(0, _), (1, _), (2, _), (3, _)]) (dk D_X3_linkBody 6 rfl) rfl (by decide) rfl rfl ?_
  refine V_aload_n (pc2 := 13) (dk D_X3_linkBody 7 rfl) rfl (V_lg 0 rfl) rfl ?_
  obtain ⟨h8, h⟩ := h
  refine V_getR kc3 (pc2 := 16) 1 (dk D_X3_linkBody 8 rfl) fl_3_15 (by decide) (fun _ => rfl) rfl h8 ?_
  refine V_aload_n (pc2 := 17) (dk D_X3_linkBody 9 rfl) rfl (V_lg 0 rfl) rfl ?_
  refine V_getR kc3 (pc2 := 20) 0 (dk D_X3_linkBody 10 rfl) fl_3_9 (by decide) (fun _ => rfl) rfl h8 ?_
  refine V_iload_n (pc2 := 21) (dk D_X3_linkBody 11 rfl) rfl (V_lg 3 rfl) rfl ?_
  obtain ⟨h14, h⟩ := h
  obtain ⟨e9, he10, hc11⟩ := h
  refine V_callV (as := [_]) (st := [_]) (M' := MX9_valueOf) (ci := 9) (pc2 := 24) (dk D_X3_linkBody 12 rfl) ml_3_74 mv_X9_valueOf rfl rfl (by decide) rfl (Nat.le_of_ble_eq_true rfl) rfl he10 h14 hc11 (RJ.k fun w12 S13 h => ?_)
  obtain ⟨h20, h⟩ := h
  obtain ⟨e15, he16, hc17⟩ := h
  refine V_callV (as := [_]) (st := []) (M' := MX7_find) (ci := 7) (pc2 := 27) (dk D_X3_linkBody 13 rfl) ml_3_95 mv_X7_find rfl rfl (by decide) rfl (Nat.le_of_ble_eq_true rfl) rfl he16 h20 hc17 (RI.k fun y18 S19 h => ?_)
  refine V_istore (pc2 := 29) (lv2 := [(0, _), (1, _), (2, _), (3, _), (4, _)]) (dk D_X3_linkBody 14 rfl) (by decide) rfl rfl ?_
  refine V_aload_n (pc2 := 30) (dk D_X3_linkBody 15 rfl) rfl (V_lg 0 rfl) rfl ?_
  obtain ⟨h21, h⟩ := h
  refine V_getR kc3 (pc2 := 33) 1 (dk D_X3_linkBody 16 rfl) fl_3_15 (by decide) (fun _ => rfl) rfl h21 ?_
  refine V_iload (pc2 := 35) (dk D_X3_linkBody 17 rfl) (V_lg 4 rfl) rfl ?_
  obtain ⟨h27, h⟩ := h
  obtain ⟨e22, he23, hc24⟩ := h
  refine V_callV (as := [_]) (st := []) (M' := MX7_at) (ci := 7) (pc2 := 38) (dk D_X3_linkBody 18 rfl) ml_3_30 mv_X7_at rfl rfl (by decide) rfl (Nat.le_of_ble_eq_true rfl) rfl he23 h27 hc24 (RR.k fun p25 S26 h => ?_)
  refine V_astore (pc2 := 40) (lv2 := [(0, _), (1, _), (2, _), (3, _), (4, _), (5, _)]) (dk D_X3_linkBody 19 rfl) (by decide) rfl rfl ?_
  refine V_aload (pc2 := 42) (dk D_X3_linkBody 20 rfl) (V_lg 5 rfl) rfl ?_
  refine V_ifnull (tgt := 73) (pc2 := 45) (dk D_X3_linkBody 21 rfl) (by decide) rfl (fun q28 => ?_) (fun q28 => ?_)
  · have h := h.1 q28
    exact h
  · have h := h.2 q28
    refine V_aload (pc2 := 47) (dk D_X3_linkBody 22 rfl) (V_lg 5 rfl) rfl ?_
    obtain ⟨h29, h⟩ := h
    refine V_getI kc0 (pc2 := 50) 2 (dk D_X3_linkBody 23 rfl) fl_3_96 (by decide) (fun _ => rfl) rfl h29 ?_
    refine V_iload_n (pc2 := 51) (dk D_X3_linkBody 24 rfl) rfl (V_lg 2 rfl) rfl ?_
    refine V_cmpne (tgt := 73) (pc2 := 54) (dk D_X3_linkBody 25 rfl) (by decide) rfl (fun q30 => ?_) (fun q30 => ?_)
    · have h := h.1 q30
      exact h
    · have h := h.2 q30
      refine V_aload (pc2 := 56) (dk D_X3_linkBody 26 rfl) (V_lg 5 rfl) rfl ?_
      refine V_getI kc0 (pc2 := 59) 4 (dk D_X3_linkBody 27 rfl) fl_3_100 (by decide) (fun _ => rfl) rfl h29 ?_
      refine V_aload_n (pc2 := 60) (dk D_X3_linkBody 28 rfl) rfl (V_lg 0 rfl) rfl ?_
      obtain ⟨h31, h⟩ := h
      refine V_getR kc3 (pc2 := 63) 2 (dk D_X3_linkBody 29 rfl) fl_3_25 (by decide) (fun _ => rfl) rfl h31 ?_
      refine V_iload_n (pc2 := 64) (dk D_X3_linkBody 30 rfl) rfl (V_lg 1 rfl) rfl ?_
      obtain ⟨h37, h⟩ := h
      obtain ⟨e32, he33, hc34⟩ := h
      refine V_callV (as := [_]) (st := [_]) (M' := MX1_argument) (ci := 1) (pc2 := 67) (dk D_X3_linkBody 31 rfl) ml_3_71 mv_X1_argument rfl rfl (by decide) rfl (Nat.le_of_ble_eq_true rfl) rfl he33 h37 hc34 (RI.k fun y35 S36 h => ?_)
      refine V_bipush (x := 8) (pc2 := 69) (dk D_X3_linkBody 32 rfl) (by decide) rfl ?_
      refine V_irem (pc2 := 70) (dk D_X3_linkBody 33 rfl) rfl (by decide) ?_
      refine V_cmpeq (tgt := 91) (pc2 := 73) (dk D_X3_linkBody 34 rfl) (by decide) rfl (fun q38 => ?_) (fun q38 => ?_)
      · have h := h.1 q38
        refine V_aload_n (pc2 := 92) (dk D_X3_linkBody 43 rfl) rfl (V_lg 0 rfl) rfl ?_
        obtain ⟨h39, h⟩ := h
        refine V_getR kc3 (pc2 := 95) 2 (dk D_X3_linkBody 44 rfl) fl_3_25 (by decide) (fun _ => rfl) rfl h39 ?_
        refine V_iload_n (pc2 := 96) (dk D_X3_linkBody 45 rfl) rfl (V_lg 1 rfl) rfl ?_
        refine V_iload (pc2 := 98) (dk D_X3_linkBody 46 rfl) (V_lg 4 rfl) rfl ?_
        obtain ⟨h44, h⟩ := h
        obtain ⟨e40, he41, hc42⟩ := h
        refine V_callV (as := [_, _]) (st := []) (M' := MX1_patch) (ci := 1) (pc2 := 101) (dk D_X3_linkBody 47 rfl) ml_3_84 mv_X1_patch rfl rfl (by decide) rfl (Nat.le_of_ble_eq_true rfl) rfl he41 h44 hc42 (RV.k fun  S43 h => ?_)
        exact h
      · have h := h.2 q38
        exact h
theorem w_X3_linkBody_73 {X : Cx} {d : Nat} {S : Mem} {Q : Res → Mem → Prop} (r0 : Nat) (x1 : Int32) (x2 : Int32) (x3 : Int32) (x4 : Int32) (r5 : Nat) (h : (isK S r0 3) ∧ (isK S (gR S r0 0) 9) ∧ ∃ e2 : Nat, e2 + 1 ≤ d ∧ C X e2 MX9_placeOf [vR (gR S r0 0), vI x3] S (RI fun y5 S6 => (isK S6 (gR S r0 1) 7) ∧ ∃ e8 : Nat, e8 + 1 ≤ d ∧ C X e8 MX7_noteWrongName [vR (gR S r0 1), vI y5] S6 (RV fun  S11 => V X d MX3_linkBody 101 [(0, vR r0), (1, vI x1), (2, vI x2), (3, vI x3), (4, vI x4), (5, vR r5)] [] S11 Q))) : V X d MX3_linkBody 73 [(0, vR r0), (1, vI x1), (2, vI x2), (3, vI x3), (4, vI x4), (5, vR r5)] [] S Q := by
  refine V_aload_n (pc2 := 74) (dk D_X3_linkBody 35 rfl) rfl (V_lg 0 rfl) rfl ?_
  obtain ⟨h1, h⟩ := h
  refine V_getR kc3 (pc2 := 77) 1 (dk D_X3_linkBody 36 rfl) fl_3_15 (by decide) (fun _ => rfl) rfl h1 ?_
  refine V_aload_n (pc2 := 78) (dk D_X3_linkBody 37 rfl) rfl (V_lg 0 rfl) rfl ?_
  refine V_getR kc3 (pc2 := 81) 0 (dk D_X3_linkBody 38 rfl) fl_3_9 (by decide) (fun _ => rfl) rfl h1 ?_
  refine V_iload_n (pc2 := 82) (dk D_X3_linkBody 39 rfl) rfl (V_lg 3 rfl) rfl ?_
  obtain ⟨h7, h⟩ := h
  obtain ⟨e2, he3, hc4⟩ := h
  refine V_callV (as := [_]) (st := [_]) (M' := MX9_placeOf) (ci := 9) (pc2 := 85) (dk D_X3_linkBody 40 rfl) ml_3_92 mv_X9_placeOf rfl rfl (by decide) rfl (Nat.le_of_ble_eq_true rfl) rfl he3 h7 hc4 (RI.k fun y5 S6 h => ?_)
  obtain ⟨h12, h⟩ := h
  obtain ⟨e8, he9, hc10⟩ := h
  refine V_callV (as := [_]) (st := []) (M' := MX7_noteWrongName) (ci := 7) (pc2 := 88) (dk D_X3_linkBody 41 rfl) ml_3_47 mv_X7_noteWrongName rfl rfl (by decide) rfl (Nat.le_of_ble_eq_true rfl) rfl he9 h12 hc10 (RV.k fun  S11 h => ?_)
  refine V_goto (tgt := 101) (dk D_X3_linkBody 42 rfl) (by decide) ?_
  exact h
theorem w_X3_linkBody_101 {X : Cx} {d : Nat} {S : Mem} {Q : Res → Mem → Prop} (r0 : Nat) (x1 : Int32) (x2 : Int32) (x3 : Int32) (x4 : Int32) (r5 : Nat) (h : Q (.inl none) S) : V X d MX3_linkBody 101 [(0, vR r0), (1, vI x1), (2, vI x2), (3, vI x3), (4, vI x4), (5, vR r5)] [] S Q := by
  exact V_return (dk D_X3_linkBody 48 rfl) rfl h
