def L_X4_init : List (Nat × Instr × Nat) := [(0, .aload_n 0, 1), (1, .invokespecial 3, 3), (4, .aload_n 0, 1), (5, .bipush 32, 2), (7, .newarray .int, 2), (9, .putfield 9, 3), (12, .return_, 1)]
theorem D_X4_init : dOk cX4_init L_X4_init = true := by decide +kernel
theorem w_X4_init_0 {X : Cx} {d : Nat} {S : Mem} {Q : Res → Mem → Prop} (r0 : Nat) (h : (1 ≤ d) ∧ (r0 ≠ 0) ∧ ∀ S4 : Mem, S4 = nw S 21 32 32 → (isK S4 r0 4) ∧ ∀ S6 : Mem, S6 = uR S4 r0 0 (tp S) → Q (.inl none) S6) : V X d MX4_init 0 [(0, vR r0)] [] S Q := by
  refine V_aload_n (pc2 := 1) (dk D_X4_init 0 rfl) rfl (V_lg 0 rfl) rfl ?_
  obtain ⟨h1, h⟩ := h
  obtain ⟨h2, h⟩ := h
  refine V_obj (pc2 := 4) (dk D_X4_init 1 rfl) ml_4_3 oi_i oi_c rfl (Nat.le_of_ble_eq_true rfl) h1 h2 ?_
  refine V_aload_n (pc2 := 5) (dk D_X4_init 2 rfl) rfl (V_lg 0 rfl) rfl ?_
  refine V_bipush (x := 32) (pc2 := 7) (dk D_X4_init 3 rfl) (by decide) rfl ?_
  have hd3 : decode MX4_init.2.1 7 = .ok (.newarray .int, 2) := dk D_X4_init 4 rfl
  refine V_newa21 (n := 32) (pc2 := 9) hd3 ac_21 rfl (litI 32) (Nat.le_of_ble_eq_true rfl) ?_
  have h := h _ rfl
  obtain ⟨h5, h⟩ := h
  refine V_putR kc4 (pc2 := 12) 0 (dk D_X4_init 5 rfl) fl_4_9 (by decide) (Or.inl rfl) (Or.inr ⟨_, rfl⟩) rfl h5 ?_
  have h := h _ rfl
  exact V_return (dk D_X4_init 6 rfl) rfl h
def L_X4_clear : List (Nat × Instr × Nat) := [(0, .aload_n 0, 1), (1, .iconst 0, 1), (2, .putfield 15, 3), (5, .aload_n 0, 1), (6, .iconst 0, 1), (7, .putfield 19, 3), (10, .return_, 1)]
theorem D_X4_clear : dOk cX4_clear L_X4_clear = true := by decide +kernel
theorem w_X4_clear_0 {X : Cx} {d : Nat} {S : Mem} {Q : Res → Mem → Prop} (r0 : Nat) (h : (isK S r0 4) ∧ ∀ S2 : Mem, S2 = uI S r0 1 0 → ∀ S3 : Mem, S3 = uI S2 r0 2 0 → Q (.inl none) S3) : V X d MX4_clear 0 [(0, vR r0)] [] S Q := by
  refine V_aload_n (pc2 := 1) (dk D_X4_clear 0 rfl) rfl (V_lg 0 rfl) rfl ?_
  refine V_iconst (x := 0) (pc2 := 2) (dk D_X4_clear 1 rfl) (by decide) rfl ?_
  obtain ⟨h1, h⟩ := h
  refine V_putI kc4 (pc2 := 5) 1 (dk D_X4_clear 2 rfl) fl_4_15 (by decide) (Or.inl rfl) rfl rfl h1 ?_
  have h := h _ rfl
  refine V_aload_n (pc2 := 6) (dk D_X4_clear 3 rfl) rfl (V_lg 0 rfl) rfl ?_
  refine V_iconst (x := 0) (pc2 := 7) (dk D_X4_clear 4 rfl) (by decide) rfl ?_
  refine V_putI kc4 (pc2 := 10) 2 (dk D_X4_clear 5 rfl) fl_4_19 (by decide) (Or.inl rfl) rfl rfl h1 ?_
  have h := h _ rfl
  exact V_return (dk D_X4_clear 6 rfl) rfl h
