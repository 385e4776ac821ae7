def L_X8_init : List (Nat × Instr × Nat) := [(0, .aload_n 0, 1), (1, .invokespecial 1, 3), (4, .aload_n 0, 1), (5, .sipush 3000, 3), (8, .newarray .byte, 2), (10, .putfield 9, 3), (13, .return_, 1)]
theorem D_X8_init : dOk cX8_init L_X8_init = true := by decide +kernel
theorem w_X8_init_0 {X : Cx} {d : Nat} {S : Mem} {Q : Res → Mem → Prop} (r0 : Nat) (h : (1 ≤ d) ∧ (r0 ≠ 0) ∧ ∀ S4 : Mem, S4 = nw S 20 3000 3000 → (isK S4 r0 8) ∧ ∀ S6 : Mem, S6 = uR S4 r0 0 (tp S) → Q (.inl none) S6) : V X d MX8_init 0 [(0, vR r0)] [] S Q := by
  refine V_aload_n (pc2 := 1) (dk D_X8_init 0 rfl) rfl (V_lg 0 rfl) rfl ?_
  obtain ⟨h1, h⟩ := h
  obtain ⟨h2, h⟩ := h
  refine V_obj (pc2 := 4) (dk D_X8_init 1 rfl) ml_8_1 oi_i oi_c rfl (Nat.le_of_ble_eq_true rfl) h1 h2 ?_
  refine V_aload_n (pc2 := 5) (dk D_X8_init 2 rfl) rfl (V_lg 0 rfl) rfl ?_
  refine V_sipush (x := 3000) (pc2 := 8) (dk D_X8_init 3 rfl) (by decide) rfl ?_
  have hd3 : decode MX8_init.2.1 8 = .ok (.newarray .byte, 2) := dk D_X8_init 4 rfl
  refine V_newa20 (n := 3000) (pc2 := 10) hd3 ac_20 rfl (litI 3000) (Nat.le_of_ble_eq_true rfl) ?_
  have h := h _ rfl
  obtain ⟨h5, h⟩ := h
  refine V_putR kc8 (pc2 := 13) 0 (dk D_X8_init 5 rfl) fl_8_9 (by decide) (Or.inr ⟨rfl, rfl, rfl⟩) (Or.inr ⟨_, rfl⟩) rfl h5 ?_
  have h := h _ rfl
  exact V_return (dk D_X8_init 6 rfl) rfl h
def L_X8_hasRoom : List (Nat × Instr × Nat) := [(0, .aload_n 0, 1), (1, .getfield 13, 3), (4, .iload_n 1, 1), (5, .iadd, 1), (6, .sipush 3000, 3), (9, .if_icmp .gt 7, 3), (12, .iconst 1, 1), (13, .goto 4, 3), (16, .iconst 0, 1), (17, .ireturn, 1)]
theorem D_X8_hasRoom : dOk cX8_hasRoom L_X8_hasRoom = true := by decide +kernel
theorem w_X8_hasRoom_0 {X : Cx} {d : Nat} {S : Mem} {Q : Res → Mem → Prop} (r0 : Nat) (x1 : Int32) (h : (isK S r0 8) ∧ ((3000 < ((gI S r0 1) + x1) → V X d MX8_hasRoom 17 [(0, vR r0), (1, vI x1)] [vI 0] S Q) ∧ (¬ 3000 < ((gI S r0 1) + x1) → V X d MX8_hasRoom 17 [(0, vR r0), (1, vI x1)] [vI 1] S Q))) : V X d MX8_hasRoom 0 [(0, vR r0), (1, vI x1)] [] S Q := by
  refine V_aload_n (pc2 := 1) (dk D_X8_hasRoom 0 rfl) rfl (V_lg 0 rfl) rfl ?_
  obtain ⟨h1, h⟩ := h
  refine V_getI kc8 (pc2 := 4) 1 (dk D_X8_hasRoom 1 rfl) fl_8_13 (by decide) (fun _ => rfl) rfl h1 ?_
  refine V_iload_n (pc2 := 5) (dk D_X8_hasRoom 2 rfl) rfl (V_lg 1 rfl) rfl ?_
  refine V_iadd (pc2 := 6) (dk D_X8_hasRoom 3 rfl) rfl ?_
  refine V_sipush (x := 3000) (pc2 := 9) (dk D_X8_hasRoom 4 rfl) (by decide) rfl ?_
  refine V_cmpgt (tgt := 16) (pc2 := 12) (dk D_X8_hasRoom 5 rfl) (by decide) rfl (fun q2 => ?_) (fun q2 => ?_)
  · have h := h.1 q2
    refine V_iconst (x := 0) (pc2 := 17) (dk D_X8_hasRoom 8 rfl) (by decide) rfl ?_
    exact h
  · have h := h.2 q2
    refine V_iconst (x := 1) (pc2 := 13) (dk D_X8_hasRoom 6 rfl) (by decide) rfl ?_
    refine V_goto (tgt := 17) (dk D_X8_hasRoom 7 rfl) (by decide) ?_
    exact h
theorem w_X8_hasRoom_17 {X : Cx} {d : Nat} {S : Mem} {Q : Res → Mem → Prop} (r0 : Nat) (x1 : Int32) (t0 : Int32) (h : (t0 = 0 ∨ t0 = 1) ∧ Q (.inl (some (vI t0))) S) : V X d MX8_hasRoom 17 [(0, vR r0), (1, vI x1)] [vI t0] S Q := by
  obtain ⟨h1, h⟩ := h
  exact V_zreturn (dk D_X8_hasRoom 9 rfl) rfl h1 h
def L_X8_add : List (Nat × Instr × Nat) := [(0, .aload_n 0, 1), (1, .getfield 13, 3), (4, .sipush 3000, 3), (7, .if_icmp .ge 24, 3), (10, .aload_n 0, 1), (11, .getfield 9, 3), (14, .aload_n 0, 1), (15, .getfield 13, 3), (18, .iload_n 1, 1), (19, .i2b, 1), (20, .bastore, 1), (21, .aload_n 0, 1), (22, .dup, 1), (23, .getfield 13, 3), (26, .iconst 1, 1), (27, .iadd, 1), (28, .putfield 13, 3), (31, .return_, 1)]
theorem D_X8_add : dOk cX8_add L_X8_add = true := by decide +kernel
theorem w_X8_add_0 {X : Cx} {d : Nat} {S : Mem} {Q : Res → Mem → Prop} (r0 : Nat) (x1 : Int32) (h : (isK S r0 8) ∧ ((3000 ≤ (gI S r0 1) → V X d MX8_add 31 [(0, vR r0), (1, vI x1)] [] S Q) ∧ (¬ 3000 ≤ (gI S r0 1) → (isK S (gR S r0 0) 20) ∧ (vp_in (gI S r0 1) (gN S (gR S r0 0))) ∧ ∀ S5 : Mem, S5 = uI S (gR S r0 0) (((gI S r0 1) : Int32).toNatClampNeg) (((x1 : Int32).toInt8.toInt32) : Int32).toInt8.toInt32 → ∀ S6 : Mem, S6 = uI S5 r0 1 ((gI S5 r0 1) + 1) → V X d MX8_add 31 [(0, vR r0), (1, vI x1)] [] S6 Q))) : V X d MX8_add 0 [(0, vR r0), (1, vI x1)] [] S Q := by
  refine V_aload_n (pc2 := 1) (dk D_X8_add 0 rfl) rfl (V_lg 0 rfl) rfl ?_
  obtain ⟨h1, h⟩ := h
  refine V_getI kc8 (pc2 := 4) 1 (dk D_X8_add 1 rfl) fl_8_13 (by decide) (fun _ => rfl) rfl h1 ?_
  refine V_sipush (x := 3000) (pc2 := 7) (dk D_X8_add 2 rfl) (by decide) rfl ?_
  refine V_cmpge (tgt := 31) (pc2 := 10) (dk D_X8_add 3 rfl) (by decide) rfl (fun q2 => ?_) (fun q2 => ?_)
  · have h := h.1 q2
    exact h
  · have h := h.2 q2
    refine V_aload_n (pc2 := 11) (dk D_X8_add 4 rfl) rfl (V_lg 0 rfl) rfl ?_
    refine V_getR kc8 (pc2 := 14) 0 (dk D_X8_add 5 rfl) fl_8_9 (by decide) (fun _ => rfl) rfl h1 ?_
    refine V_aload_n (pc2 := 15) (dk D_X8_add 6 rfl) rfl (V_lg 0 rfl) rfl ?_
    refine V_getI kc8 (pc2 := 18) 1 (dk D_X8_add 7 rfl) fl_8_13 (by decide) (fun _ => rfl) rfl h1 ?_
    refine V_iload_n (pc2 := 19) (dk D_X8_add 8 rfl) rfl (V_lg 1 rfl) rfl ?_
    refine V_i2b (pc2 := 20) (dk D_X8_add 9 rfl) rfl ?_
    obtain ⟨h3, h⟩ := h
    obtain ⟨h4, h⟩ := h
    refine V_bast (pc2 := 21) (dk D_X8_add 10 rfl) rfl h3 h4 ?_
    have h := h _ rfl
    refine V_aload_n (pc2 := 22) (dk D_X8_add 11 rfl) rfl (V_lg 0 rfl) rfl ?_
    refine V_dup (pc2 := 23) (dk D_X8_add 12 rfl) rfl rfl ?_
    refine V_getI kc8 (pc2 := 26) 1 (dk D_X8_add 13 rfl) fl_8_13 (by decide) (fun _ => rfl) rfl h1 ?_
    refine V_iconst (x := 1) (pc2 := 27) (dk D_X8_add 14 rfl) (by decide) rfl ?_
    refine V_iadd (pc2 := 28) (dk D_X8_add 15 rfl) rfl ?_
    refine V_putI kc8 (pc2 := 31) 1 (dk D_X8_add 16 rfl) fl_8_13 (by decide) (Or.inl rfl) rfl rfl h1 ?_
    have h := h _ rfl
    exact h
theorem w_X8_add_31 {X : Cx} {d : Nat} {S : Mem} {Q : Res → Mem → Prop} (r0 : Nat) (x1 : Int32) (h : Q (.inl none) S) : V X d MX8_add 31 [(0, vR r0), (1, vI x1)] [] S Q := by
  exact V_return (dk D_X8_add 17 rfl) rfl h
def L_X8_size : List (Nat × Instr × Nat) := [(0, .aload_n 0, 1), (1, .getfield 13, 3), (4, .ireturn, 1)]
theorem D_X8_size : dOk cX8_size L_X8_size = true := by decide +kernel
theorem w_X8_size_0 {X : Cx} {d : Nat} {S : Mem} {Q : Res → Mem → Prop} (r0 : Nat) (h : (isK S r0 8) ∧ Q (.inl (some (vI (gI S r0 1)))) S) : V X d MX8_size 0 [(0, vR r0)] [] S Q := by
  refine V_aload_n (pc2 := 1) (dk D_X8_size 0 rfl) rfl (V_lg 0 rfl) rfl ?_
  obtain ⟨h1, h⟩ := h
  refine V_getI kc8 (pc2 := 4) 1 (dk D_X8_size 1 rfl) fl_8_13 (by decide) (fun _ => rfl) rfl h1 ?_
  exact V_ireturn (dk D_X8_size 2 rfl) rfl h
def L_X8_clear : List (Nat × Instr × Nat) := [(0, .aload_n 0, 1), (1, .iconst 0, 1), (2, .putfield 13, 3), (5, .return_, 1)]
theorem D_X8_clear : dOk cX8_clear L_X8_clear = true := by decide +kernel
theorem w_X8_clear_0 {X : Cx} {d : Nat} {S : Mem} {Q : Res → Mem → Prop} (r0 : Nat) (h : (isK S r0 8) ∧ ∀ S2 : Mem, S2 = uI S r0 1 0 → Q (.inl none) S2) : V X d MX8_clear 0 [(0, vR r0)] [] S Q := by
  refine V_aload_n (pc2 := 1) (dk D_X8_clear 0 rfl) rfl (V_lg 0 rfl) rfl ?_
  refine V_iconst (x := 0) (pc2 := 2) (dk D_X8_clear 1 rfl) (by decide) rfl ?_
  obtain ⟨h1, h⟩ := h
  refine V_putI kc8 (pc2 := 5) 1 (dk D_X8_clear 2 rfl) fl_8_13 (by decide) (Or.inl rfl) rfl rfl h1 ?_
  have h := h _ rfl
  exact V_return (dk D_X8_clear 3 rfl) rfl h
