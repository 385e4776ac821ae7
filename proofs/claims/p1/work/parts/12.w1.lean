def L_X1_init : List (Nat × Instr × Nat) := [(0, .aload_n 0, 1), (1, .invokespecial 1, 3), (4, .aload_n 0, 1), (5, .sipush 128, 3), (8, .newarray .byte, 2), (10, .putfield 7, 3), (13, .aload_n 0, 1), (14, .sipush 128, 3), (17, .newarray .int, 2), (19, .putfield 13, 3), (22, .return_, 1)]
theorem D_X1_init : dOk cX1_init L_X1_init = true := by decide +kernel
theorem w_X1_init_0 {X : Cx} {d : Nat} {S : Mem} {Q : Res → Mem → Prop} (r0 : Nat) (h : (1 ≤ d) ∧ (r0 ≠ 0) ∧ ∀ S4 : Mem, S4 = nw S 20 128 128 → (isK S4 r0 1) ∧ ∀ S6 : Mem, S6 = uR S4 r0 0 (tp S) → ∀ S8 : Mem, S8 = nw S6 21 128 128 → ∀ S9 : Mem, S9 = uR S8 r0 1 (tp S6) → Q (.inl none) S9) : V X d MX1_init 0 [(0, vR r0)] [] S Q := by
  refine V_aload_n (pc2 := 1) (dk D_X1_init 0 rfl) rfl (V_lg 0 rfl) rfl ?_
  obtain ⟨h1, h⟩ := h
  obtain ⟨h2, h⟩ := h
  refine V_obj (pc2 := 4) (dk D_X1_init 1 rfl) ml_1_1 oi_i oi_c rfl (Nat.le_of_ble_eq_true rfl) h1 h2 ?_
  refine V_aload_n (pc2 := 5) (dk D_X1_init 2 rfl) rfl (V_lg 0 rfl) rfl ?_
  refine V_sipush (x := 128) (pc2 := 8) (dk D_X1_init 3 rfl) (by decide) rfl ?_
  have hd3 : decode MX1_init.2.1 8 = .ok (.newarray .byte, 2) := dk D_X1_init 4 rfl
  refine V_newa20 (n := 128) (pc2 := 10) hd3 ac_20 rfl (litI 128) (Nat.le_of_ble_eq_true rfl) ?_
  have h := h _ rfl
  obtain ⟨h5, h⟩ := h
  refine V_putR kc1 (pc2 := 13) 0 (dk D_X1_init 5 rfl) fl_1_7 (by decide) (Or.inl rfl) (Or.inr ⟨_, rfl⟩) rfl h5 ?_
  have h := h _ rfl
  refine V_aload_n (pc2 := 14) (dk D_X1_init 6 rfl) rfl (V_lg 0 rfl) rfl ?_
  refine V_sipush (x := 128) (pc2 := 17) (dk D_X1_init 7 rfl) (by decide) rfl ?_
  have hd7 : decode MX1_init.2.1 17 = .ok (.newarray .int, 2) := dk D_X1_init 8 rfl
  refine V_newa21 (n := 128) (pc2 := 19) hd7 ac_21 rfl (litI 128) (Nat.le_of_ble_eq_true rfl) ?_
  have h := h _ rfl
  refine V_putR kc1 (pc2 := 22) 1 (dk D_X1_init 9 rfl) fl_1_13 (by decide) (Or.inl rfl) (Or.inr ⟨_, rfl⟩) rfl (isK_nw h5) ?_
  have h := h _ rfl
  exact V_return (dk D_X1_init 10 rfl) rfl h
def L_X1_clear : List (Nat × Instr × Nat) := [(0, .aload_n 0, 1), (1, .iconst 0, 1), (2, .putfield 17, 3), (5, .return_, 1)]
theorem D_X1_clear : dOk cX1_clear L_X1_clear = true := by decide +kernel
theorem w_X1_clear_0 {X : Cx} {d : Nat} {S : Mem} {Q : Res → Mem → Prop} (r0 : Nat) (h : (isK S r0 1) ∧ ∀ S2 : Mem, S2 = uI S r0 2 0 → Q (.inl none) S2) : V X d MX1_clear 0 [(0, vR r0)] [] S Q := by
  refine V_aload_n (pc2 := 1) (dk D_X1_clear 0 rfl) rfl (V_lg 0 rfl) rfl ?_
  refine V_iconst (x := 0) (pc2 := 2) (dk D_X1_clear 1 rfl) (by decide) rfl ?_
  obtain ⟨h1, h⟩ := h
  refine V_putI kc1 (pc2 := 5) 2 (dk D_X1_clear 2 rfl) fl_1_17 (by decide) (Or.inl rfl) rfl rfl h1 ?_
  have h := h _ rfl
  exact V_return (dk D_X1_clear 3 rfl) rfl h
