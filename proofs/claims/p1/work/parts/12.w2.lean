def L_X2_init : List (Nat × Instr × Nat) := [(0, .aload_n 0, 1), (1, .invokespecial 3, 3), (4, .aload_n 0, 1), (5, .bipush 64, 2), (7, .newarray .int, 2), (9, .putfield 11, 3), (12, .aload_n 0, 1), (13, .bipush 40, 2), (15, .newarray .int, 2), (17, .putfield 15, 3), (20, .aload_n 0, 1), (21, .bipush 40, 2), (23, .newarray .int, 2), (25, .putfield 18, 3), (28, .aload_n 0, 1), (29, .bipush 40, 2), (31, .newarray .int, 2), (33, .putfield 21, 3), (36, .return_, 1)]
theorem D_X2_init : dOk cX2_init L_X2_init = true := by decide +kernel
theorem w_X2_init_0 {X : Cx} {d : Nat} {S : Mem} {Q : Res → Mem → Prop} (r0 : Nat) (h : (1 ≤ d) ∧ (r0 ≠ 0) ∧ ∀ S4 : Mem, S4 = nw S 21 64 64 → (isK S4 r0 2) ∧ ∀ S6 : Mem, S6 = uR S4 r0 0 (tp S) → ∀ S8 : Mem, S8 = nw S6 21 40 40 → ∀ S9 : Mem, S9 = uR S8 r0 5 (tp S6) → ∀ S11 : Mem, S11 = nw S9 21 40 40 → ∀ S12 : Mem, S12 = uR S11 r0 6 (tp S9) → ∀ S14 : Mem, S14 = nw S12 21 40 40 → ∀ S15 : Mem, S15 = uR S14 r0 7 (tp S12) → Q (.inl none) S15) : V X d MX2_init 0 [(0, vR r0)] [] S Q := by
  refine V_aload_n (pc2 := 1) (dk D_X2_init 0 rfl) rfl (V_lg 0 rfl) rfl ?_
  obtain ⟨h1, h⟩ := h
  obtain ⟨h2, h⟩ := h
  refine V_obj (pc2 := 4) (dk D_X2_init 1 rfl) ml_2_3 oi_i oi_c rfl (Nat.le_of_ble_eq_true rfl) h1 h2 ?_
  refine V_aload_n (pc2 := 5) (dk D_X2_init 2 rfl) rfl (V_lg 0 rfl) rfl ?_
  refine V_bipush (x := 64) (pc2 := 7) (dk D_X2_init 3 rfl) (by decide) rfl ?_
  have hd3 : decode MX2_init.2.1 7 = .ok (.newarray .int, 2) := dk D_X2_init 4 rfl
  refine V_newa21 (n := 64) (pc2 := 9) hd3 ac_21 rfl (litI 64) (Nat.le_of_ble_eq_true rfl) ?_
  have h := h _ rfl
  obtain ⟨h5, h⟩ := h
  refine V_putR kc2 (pc2 := 12) 0 (dk D_X2_init 5 rfl) fl_2_11 (by decide) (Or.inl rfl) (Or.inr ⟨_, rfl⟩) rfl h5 ?_
  have h := h _ rfl
  refine V_aload_n (pc2 := 13) (dk D_X2_init 6 rfl) rfl (V_lg 0 rfl) rfl ?_
  refine V_bipush (x := 40) (pc2 := 15) (dk D_X2_init 7 rfl) (by decide) rfl ?_
  have hd7 : decode MX2_init.2.1 15 = .ok (.newarray .int, 2) := dk D_X2_init 8 rfl
  refine V_newa21 (n := 40) (pc2 := 17) hd7 ac_21 rfl (litI 40) (Nat.le_of_ble_eq_true rfl) ?_
  have h := h _ rfl
  refine V_putR kc2 (pc2 := 20) 5 (dk D_X2_init 9 rfl) fl_2_15 (by decide) (Or.inr ⟨rfl, rfl, rfl⟩) (Or.inr ⟨_, rfl⟩) rfl (isK_nw h5) ?_
  have h := h _ rfl
  refine V_aload_n (pc2 := 21) (dk D_X2_init 10 rfl) rfl (V_lg 0 rfl) rfl ?_
  refine V_bipush (x := 40) (pc2 := 23) (dk D_X2_init 11 rfl) (by decide) rfl ?_
  have hd10 : decode MX2_init.2.1 23 = .ok (.newarray .int, 2) := dk D_X2_init 12 rfl
  refine V_newa21 (n := 40) (pc2 := 25) hd10 ac_21 rfl (litI 40) (Nat.le_of_ble_eq_true rfl) ?_
  have h := h _ rfl
  refine V_putR kc2 (pc2 := 28) 6 (dk D_X2_init 13 rfl) fl_2_18 (by decide) (Or.inr ⟨rfl, rfl, rfl⟩) (Or.inr ⟨_, rfl⟩) rfl (isK_nw (isK_nw h5)) ?_
  have h := h _ rfl
  refine V_aload_n (pc2 := 29) (dk D_X2_init 14 rfl) rfl (V_lg 0 rfl) rfl ?_
  refine V_bipush (x := 40) (pc2 := 31) (dk D_X2_init 15 rfl) (by decide) rfl ?_
  have hd13 : decode MX2_init.2.1 31 = .ok (.newarray .int, 2) := dk D_X2_init 16 rfl
  refine V_newa21 (n := 40) (pc2 := 33) hd13 ac_21 rfl (litI 40) (Nat.le_of_ble_eq_true rfl) ?_
  have h := h _ rfl
  refine V_putR kc2 (pc2 := 36) 7 (dk D_X2_init 17 rfl) fl_2_21 (by decide) (Or.inr ⟨rfl, rfl, rfl⟩) (Or.inr ⟨_, rfl⟩) rfl (isK_nw (isK_nw (isK_nw h5))) ?_
  have h := h _ rfl
  exact V_return (dk D_X2_init 18 rfl) rfl h
def L_X2_clear : List (Nat × Instr × Nat) := [(0, .aload_n 0, 1), (1, .iconst 1, 1), (2, .putfield 24, 3), (5, .aload_n 0, 1), (6, .iconst 0, 1), (7, .invokevirtual 28, 3), (10, .return_, 1)]
theorem D_X2_clear : dOk cX2_clear L_X2_clear = true := by decide +kernel
theorem w_X2_clear_0 {X : Cx} {d : Nat} {S : Mem} {Q : Res → Mem → Prop} (r0 : Nat) (h : (isK S r0 2) ∧ ∀ S2 : Mem, S2 = uI S r0 1 1 → ∃ e3 : Nat, e3 + 1 ≤ d ∧ C X e3 MX2_comeOut [vR r0, vI 0] S2 (RV fun  S6 => Q (.inl none) S6)) : V X d MX2_clear 0 [(0, vR r0)] [] S Q := by
  refine V_aload_n (pc2 := 1) (dk D_X2_clear 0 rfl) rfl (V_lg 0 rfl) rfl ?_
  refine V_iconst (x := 1) (pc2 := 2) (dk D_X2_clear 1 rfl) (by decide) rfl ?_
  obtain ⟨h1, h⟩ := h
  refine V_putI kc2 (pc2 := 5) 1 (dk D_X2_clear 2 rfl) fl_2_24 (by decide) (Or.inl rfl) rfl rfl h1 ?_
  have h := h _ rfl
  refine V_aload_n (pc2 := 6) (dk D_X2_clear 3 rfl) rfl (V_lg 0 rfl) rfl ?_
  refine V_iconst (x := 0) (pc2 := 7) (dk D_X2_clear 4 rfl) (by decide) rfl ?_
  obtain ⟨e3, he4, hc5⟩ := h
  refine V_callV (as := [_]) (st := []) (M' := MX2_comeOut) (ci := 2) (pc2 := 10) (dk D_X2_clear 5 rfl) ml_2_28 mv_X2_comeOut rfl rfl (by decide) rfl (Nat.le_of_ble_eq_true rfl) rfl he4 h1 hc5 (RV.k fun  S6 h => ?_)
  exact V_return (dk D_X2_clear 6 rfl) rfl h
def L_X2_comeOut : List (Nat × Instr × Nat) := [(0, .aload_n 0, 1), (1, .iload_n 1, 1), (2, .putfield 32, 3), (5, .aload_n 0, 1), (6, .iconst 0, 1), (7, .putfield 35, 3), (10, .return_, 1)]
theorem D_X2_comeOut : dOk cX2_comeOut L_X2_comeOut = true := by decide +kernel
theorem w_X2_comeOut_0 {X : Cx} {d : Nat} {S : Mem} {Q : Res → Mem → Prop} (r0 : Nat) (x1 : Int32) (h : (isK S r0 2) ∧ ∀ S2 : Mem, S2 = uI S r0 2 x1 → ∀ S3 : Mem, S3 = uI S2 r0 3 0 → Q (.inl none) S3) : V X d MX2_comeOut 0 [(0, vR r0), (1, vI x1)] [] S Q := by
  refine V_aload_n (pc2 := 1) (dk D_X2_comeOut 0 rfl) rfl (V_lg 0 rfl) rfl ?_
  refine V_iload_n (pc2 := 2) (dk D_X2_comeOut 1 rfl) rfl (V_lg 1 rfl) rfl ?_
  obtain ⟨h1, h⟩ := h
  refine V_putI kc2 (pc2 := 5) 2 (dk D_X2_comeOut 2 rfl) fl_2_32 (by decide) (Or.inl rfl) rfl rfl h1 ?_
  have h := h _ rfl
  refine V_aload_n (pc2 := 6) (dk D_X2_comeOut 3 rfl) rfl (V_lg 0 rfl) rfl ?_
  refine V_iconst (x := 0) (pc2 := 7) (dk D_X2_comeOut 4 rfl) (by decide) rfl ?_
  refine V_putZ kc2 (pc2 := 10) 3 (dk D_X2_comeOut 5 rfl) fl_2_35 (by decide) (Or.inl rfl) rfl rfl h1 (Or.inl rfl) ?_
  have h := h _ rfl
  exact V_return (dk D_X2_comeOut 6 rfl) rfl h
