def L_X7_init : List (Nat × Instr × Nat) := [(0, .aload_n 0, 1), (1, .invokespecial 3, 3), (4, .aload_n 0, 1), (5, .new 9, 3), (8, .dup, 1), (9, .invokespecial 11, 3), (12, .putfield 12, 3), (15, .aload_n 0, 1), (16, .bipush 12, 2), (18, .anewarray 18, 3), (21, .putfield 20, 3), (24, .return_, 1)]
theorem D_X7_init : dOk cX7_init L_X7_init = true := by decide +kernel
theorem w_X7_init_0 {X : Cx} {d : Nat} {S : Mem} {Q : Res → Mem → Prop} (r0 : Nat) (h : (1 ≤ d) ∧ (r0 ≠ 0) ∧ ∀ S3 : Mem, S3 = nw S 1 0 3 → ((tp S) ≠ 0) ∧ ∃ e4 : Nat, e4 + 1 ≤ d ∧ C X e4 MX1_init [vR (tp S)] S3 (RV fun  S7 => (isK S7 r0 7) ∧ ∀ S10 : Mem, S10 = uR S7 r0 0 (tp S) → ∀ S11 : Mem, S11 = nw S10 24 12 12 → ∀ S12 : Mem, S12 = uR S11 r0 1 (tp S10) → Q (.inl none) S12)) : V X d MX7_init 0 [(0, vR r0)] [] S Q := by
  refine V_aload_n (pc2 := 1) (dk D_X7_init 0 rfl) rfl (V_lg 0 rfl) rfl ?_
  obtain ⟨h1, h⟩ := h
  obtain ⟨h2, h⟩ := h
  refine V_obj (pc2 := 4) (dk D_X7_init 1 rfl) ml_7_3 oi_i oi_c rfl (Nat.le_of_ble_eq_true rfl) h1 h2 ?_
  refine V_aload_n (pc2 := 5) (dk D_X7_init 2 rfl) rfl (V_lg 0 rfl) rfl ?_
  refine V_newC kc1 (pc2 := 8) (dk D_X7_init 3 rfl) cl_7_9 it_1 ii_1 (by decide) rfl ?_
  have h := h _ rfl
  refine V_dup (pc2 := 9) (dk D_X7_init 4 rfl) rfl rfl ?_
  obtain ⟨h8, h⟩ := h
  obtain ⟨e4, he5, hc6⟩ := h
  refine V_callIN (as := []) (st := [_, _]) (M' := MX1_init) (pc2 := 12) (dk D_X7_init 5 rfl) ml_7_11 mv_X1_init rfl rfl rfl (Nat.le_of_ble_eq_true rfl) rfl he5 h8 hc6 (RV.k fun  S7 h => ?_)
  obtain ⟨h9, h⟩ := h
  refine V_putR kc7 (pc2 := 15) 0 (dk D_X7_init 6 rfl) fl_7_12 (by decide) (Or.inr ⟨rfl, rfl, rfl⟩) (Or.inl ⟨_, rfl⟩) rfl h9 ?_
  have h := h _ rfl
  refine V_aload_n (pc2 := 16) (dk D_X7_init 7 rfl) rfl (V_lg 0 rfl) rfl ?_
  refine V_bipush (x := 12) (pc2 := 18) (dk D_X7_init 8 rfl) (by decide) rfl ?_
  refine V_anewO (M := MX7_init) (k := 24) (t0 := 4) (n := 12) (pc2 := 21) (by decide) (by decide) rfl rfl (dk D_X7_init 9 rfl) cl_7_18 ao_24 rfl (litI 12) (Nat.le_of_ble_eq_true rfl) ?_
  have h := h _ rfl
  refine V_putR kc7 (pc2 := 24) 1 (dk D_X7_init 10 rfl) fl_7_20 (by decide) (Or.inr ⟨rfl, rfl, rfl⟩) (Or.inr ⟨_, rfl⟩) rfl (isK_nw h9) ?_
  have h := h _ rfl
  exact V_return (dk D_X7_init 11 rfl) rfl h
def L_X7_clear : List (Nat × Instr × Nat) := [(0, .aload_n 0, 1), (1, .getfield 12, 3), (4, .invokevirtual 24, 3), (7, .aload_n 0, 1), (8, .iconst 0, 1), (9, .putfield 27, 3), (12, .aload_n 0, 1), (13, .bipush (-9), 2), (15, .putfield 31, 3), (18, .return_, 1)]
theorem D_X7_clear : dOk cX7_clear L_X7_clear = true := by decide +kernel
theorem w_X7_clear_0 {X : Cx} {d : Nat} {S : Mem} {Q : Res → Mem → Prop} (r0 : Nat) (h : (isK S r0 7) ∧ (isK S (gR S r0 0) 1) ∧ ∃ e2 : Nat, e2 + 1 ≤ d ∧ C X e2 MX1_clear [vR (gR S r0 0)] S (RV fun  S5 => (isK S5 r0 7) ∧ ∀ S8 : Mem, S8 = uI S5 r0 2 0 → ∀ S9 : Mem, S9 = uI S8 r0 3 (-9) → Q (.inl none) S9)) : V X d MX7_clear 0 [(0, vR r0)] [] S Q := by
  refine V_aload_n (pc2 := 1) (dk D_X7_clear 0 rfl) rfl (V_lg 0 rfl) rfl ?_
  obtain ⟨h1, h⟩ := h
  refine V_getR kc7 (pc2 := 4) 0 (dk D_X7_clear 1 rfl) fl_7_12 (by decide) (fun _ => rfl) rfl h1 ?_
  obtain ⟨h6, h⟩ := h
  obtain ⟨e2, he3, hc4⟩ := h
  refine V_callV (as := []) (st := []) (M' := MX1_clear) (ci := 1) (pc2 := 7) (dk D_X7_clear 2 rfl) ml_7_24 mv_X1_clear rfl rfl (by decide) rfl (Nat.le_of_ble_eq_true rfl) rfl he3 h6 hc4 (RV.k fun  S5 h => ?_)
  refine V_aload_n (pc2 := 8) (dk D_X7_clear 3 rfl) rfl (V_lg 0 rfl) rfl ?_
  refine V_iconst (x := 0) (pc2 := 9) (dk D_X7_clear 4 rfl) (by decide) rfl ?_
  obtain ⟨h7, h⟩ := h
  refine V_putI kc7 (pc2 := 12) 2 (dk D_X7_clear 5 rfl) fl_7_27 (by decide) (Or.inl rfl) rfl rfl h7 ?_
  have h := h _ rfl
  refine V_aload_n (pc2 := 13) (dk D_X7_clear 6 rfl) rfl (V_lg 0 rfl) rfl ?_
  refine V_bipush (x := (-9)) (pc2 := 15) (dk D_X7_clear 7 rfl) (by decide) rfl ?_
  refine V_putI kc7 (pc2 := 18) 3 (dk D_X7_clear 8 rfl) fl_7_31 (by decide) (Or.inl rfl) rfl rfl h7 ?_
  have h := h _ rfl
  exact V_return (dk D_X7_clear 9 rfl) rfl h
