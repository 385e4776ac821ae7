def L_X3_init : List (Nat × Instr × Nat) := [(0, .aload_n 0, 1), (1, .invokespecial 3, 3), (4, .aload_n 0, 1), (5, .aload_n 1, 1), (6, .putfield 9, 3), (9, .aload_n 0, 1), (10, .aload_n 2, 1), (11, .putfield 15, 3), (14, .aload_n 0, 1), (15, .aload_n 2, 1), (16, .getfield 19, 3), (19, .putfield 25, 3), (22, .return_, 1)]
theorem D_X3_init : dOk cX3_init L_X3_init = true := by decide +kernel
theorem w_X3_init_0 {X : Cx} {d : Nat} {S : Mem} {Q : Res → Mem → Prop} (r0 : Nat) (r1 : Nat) (r2 : Nat) (h : (1 ≤ d) ∧ (r0 ≠ 0) ∧ (isK S r0 3) ∧ ∀ S4 : Mem, S4 = uR S r0 0 r1 → ∀ S5 : Mem, S5 = uR S4 r0 1 r2 → (isK S r2 7) ∧ ∀ S7 : Mem, S7 = uR S5 r0 2 (gR S5 r2 0) → Q (.inl none) S7) : V X d MX3_init 0 [(0, vR r0), (1, vR r1), (2, vR r2)] [] S Q := by
  refine V_aload_n (pc2 := 1) (dk D_X3_init 0 rfl) rfl (V_lg 0 rfl) rfl ?_
  obtain ⟨h1, h⟩ := h
  obtain ⟨h2, h⟩ := h
  refine V_obj (pc2 := 4) (dk D_X3_init 1 rfl) ml_3_3 oi_i oi_c rfl (Nat.le_of_ble_eq_true rfl) h1 h2 ?_
  refine V_aload_n (pc2 := 5) (dk D_X3_init 2 rfl) rfl (V_lg 0 rfl) rfl ?_
  refine V_aload_n (pc2 := 6) (dk D_X3_init 3 rfl) rfl (V_lg 1 rfl) rfl ?_
  obtain ⟨h3, h⟩ := h
  refine V_putR kc3 (pc2 := 9) 0 (dk D_X3_init 4 rfl) fl_3_9 (by decide) (Or.inr ⟨rfl, rfl, rfl⟩) (Or.inl ⟨_, rfl⟩) rfl h3 ?_
  have h := h _ rfl
  refine V_aload_n (pc2 := 10) (dk D_X3_init 5 rfl) rfl (V_lg 0 rfl) rfl ?_
  refine V_aload_n (pc2 := 11) (dk D_X3_init 6 rfl) rfl (V_lg 2 rfl) rfl ?_
  refine V_putR kc3 (pc2 := 14) 1 (dk D_X3_init 7 rfl) fl_3_15 (by decide) (Or.inr ⟨rfl, rfl, rfl⟩) (Or.inl ⟨_, rfl⟩) rfl h3 ?_
  have h := h _ rfl
  refine V_aload_n (pc2 := 15) (dk D_X3_init 8 rfl) rfl (V_lg 0 rfl) rfl ?_
  refine V_aload_n (pc2 := 16) (dk D_X3_init 9 rfl) rfl (V_lg 2 rfl) rfl ?_
  obtain ⟨h6, h⟩ := h
  refine V_getR kc7 (pc2 := 19) 0 (dk D_X3_init 10 rfl) fl_3_19 (by decide) (fun _ => rfl) rfl h6 ?_
  refine V_putR kc3 (pc2 := 22) 2 (dk D_X3_init 11 rfl) fl_3_25 (by decide) (Or.inr ⟨rfl, rfl, rfl⟩) (Or.inl ⟨_, rfl⟩) rfl h3 ?_
  have h := h _ rfl
  exact V_return (dk D_X3_init 12 rfl) rfl h
