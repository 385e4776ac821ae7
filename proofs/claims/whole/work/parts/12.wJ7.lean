def L_J7_copyOf_9075b : List (Nat × Instr × Nat) := [(0, .iload_n 1, 1), (1, .aload_n 0, 1), (2, .arraylength, 1), (3, .if_icmp .ne 11, 3), (6, .aload_n 0, 1), (7, .invokevirtual 310, 3), (10, .checkcast 311, 3), (13, .areturn, 1), (14, .iload_n 1, 1), (15, .newarray .byte, 2), (17, .astore_n 2, 1), (18, .aload_n 0, 1), (19, .iconst 0, 1), (20, .aload_n 2, 1), (21, .iconst 0, 1), (22, .aload_n 0, 1), (23, .arraylength, 1), (24, .iload_n 1, 1), (25, .invokestatic 304, 3), (28, .invokestatic 150, 3), (31, .aload_n 2, 1), (32, .areturn, 1)]
theorem D_J7_copyOf_9075b : dOk cJ7_copyOf_9075b L_J7_copyOf_9075b = true := by decide +kernel
theorem w_J7_copyOf_9075b_0 {X : Cx} {d : Nat} {S : Mem} {Q : Res → Mem → Prop} (r0 : Nat) (x1 : Int32) (h : (isK S r0 20) ∧ (r0 ≠ 27) ∧ ((¬ x1 = (nI (gN S r0)) → ∃ n4 : Nat, x1 = nI n4 ∧ n4 ≤ 1000000 ∧ ∀ S8 : Mem, S8 = nw S 20 n4 n4 → (r0 ≠ 27) ∧ (1 ≤ d) ∧ (1 ≤ d) ∧ (64 ≤ r0) ∧ (64 ≤ (tp S)) ∧ (¬ (if x1 < (nI (gN S8 r0)) then x1 else (nI (gN S8 r0))) < 0) ∧ ((0 : Int32).toNatClampNeg + ((if x1 < (nI (gN S8 r0)) then x1 else (nI (gN S8 r0))) : Int32).toNatClampNeg ≤ gN S8 r0) ∧ ((0 : Int32).toNatClampNeg + ((if x1 < (nI (gN S8 r0)) then x1 else (nI (gN S8 r0))) : Int32).toNatClampNeg ≤ gN S8 (tp S)) ∧ (∀ i, i < ((if x1 < (nI (gN S8 r0)) then x1 else (nI (gN S8 r0))) : Int32).toNatClampNeg → fits (kel 20) (.int (gI S8 r0 ((0 : Int32).toNatClampNeg + i))) = true) ∧ ∀ S18 : Mem, S18 = rwI S8 (tp S) (va_cpy (gI S8 r0) (gI S8 (tp S)) (0 : Int32).toNatClampNeg (0 : Int32).toNatClampNeg ((if x1 < (nI (gN S8 r0)) then x1 else (nI (gN S8 r0))) : Int32).toNatClampNeg) → Q (.inl (some (vR (tp S)))) S18) ∧ (x1 = (nI (gN S r0)) → False))) : V X d MJ7_copyOf_9075b 0 [(0, vR r0), (1, vI x1)] [] S Q := by
  refine V_iload_n (pc2 := 1) (dk D_J7_copyOf_9075b 0 rfl) rfl (V_lg 1 rfl) rfl ?_
  refine V_aload_n (pc2 := 2) (dk D_J7_copyOf_9075b 1 rfl) rfl (V_lg 0 rfl) rfl ?_
  obtain ⟨h1, h⟩ := h
  obtain ⟨h2, h⟩ := h
  refine V_alen (k := 20) (pc2 := 3) (dk D_J7_copyOf_9075b 2 rfl) rfl (by decide) (by decide) h1 h2 ?_
  refine V_cmpne (tgt := 14) (pc2 := 6) (dk D_J7_copyOf_9075b 3 rfl) (by decide) rfl (fun q3 => ?_) (fun q3 => ?_)
  · have h := h.1 q3
    refine V_iload_n (pc2 := 15) (dk D_J7_copyOf_9075b 8 rfl) rfl (V_lg 1 rfl) rfl ?_
    obtain ⟨n4, hx5, hb6, h⟩ := h
    have hd7 : decode MJ7_copyOf_9075b.2.1 15 = .ok (.newarray .byte, 2) := dk D_J7_copyOf_9075b 9 rfl
    refine V_newa20 (n := n4) (pc2 := 17) hd7 ac_20 rfl hx5 hb6 ?_
    have h := h _ rfl
    refine V_astore_n (pc2 := 18) (lv2 := [(0, _), (1, _), (2, _)]) (dk D_J7_copyOf_9075b 10 rfl) rfl (by decide) rfl rfl ?_
    refine V_aload_n (pc2 := 19) (dk D_J7_copyOf_9075b 11 rfl) rfl (V_lg 0 rfl) rfl ?_
    refine V_iconst (x := 0) (pc2 := 20) (dk D_J7_copyOf_9075b 12 rfl) (by decide) rfl ?_
    refine V_aload_n (pc2 := 21) (dk D_J7_copyOf_9075b 13 rfl) rfl (V_lg 2 rfl) rfl ?_
    refine V_iconst (x := 0) (pc2 := 22) (dk D_J7_copyOf_9075b 14 rfl) (by decide) rfl ?_
    refine V_aload_n (pc2 := 23) (dk D_J7_copyOf_9075b 15 rfl) rfl (V_lg 0 rfl) rfl ?_
    obtain ⟨h9, h⟩ := h
    refine V_alen (k := 20) (pc2 := 24) (dk D_J7_copyOf_9075b 16 rfl) rfl (by decide) (by decide) (isK_nw h1) h9 ?_
    refine V_iload_n (pc2 := 25) (dk D_J7_copyOf_9075b 17 rfl) rfl (V_lg 1 rfl) rfl ?_
    obtain ⟨h10, h⟩ := h
    refine V_min (pc2 := 28) (dk D_J7_copyOf_9075b 18 rfl) ml_16_304 mn_s mx_i mn_c rfl (Nat.le_of_ble_eq_true rfl) h10 ?_
    obtain ⟨h11, h⟩ := h
    obtain ⟨h12, h⟩ := h
    obtain ⟨h13, h⟩ := h
    obtain ⟨h14, h⟩ := h
    obtain ⟨h15, h⟩ := h
    obtain ⟨h16, h⟩ := h
    obtain ⟨h17, h⟩ := h
    refine V_acpI (k := 20) (pc2 := 31) (Or.inl rfl) (dk D_J7_copyOf_9075b 19 rfl) ml_16_150 sy_n sy_s sy_i rfl (Nat.le_of_ble_eq_true rfl) h11 (isK_nw h1) h12 isK_new h13 (by decide) (by decide) h14 h15 h16 h17 ?_
    have h := h _ rfl
    refine V_aload_n (pc2 := 32) (dk D_J7_copyOf_9075b 20 rfl) rfl (V_lg 2 rfl) rfl ?_
    exact V_areturn (dk D_J7_copyOf_9075b 21 rfl) rfl (Or.inr ⟨_, rfl⟩) h
  · have h := h.2 q3
    exact False.elim h
def L_J7_copyOf_59c91 : List (Nat × Instr × Nat) := [(0, .iload_n 1, 1), (1, .aload_n 0, 1), (2, .arraylength, 1), (3, .if_icmp .ne 11, 3), (6, .aload_n 0, 1), (7, .invokevirtual 316, 3), (10, .checkcast 317, 3), (13, .areturn, 1), (14, .iload_n 1, 1), (15, .newarray .int, 2), (17, .astore_n 2, 1), (18, .aload_n 0, 1), (19, .iconst 0, 1), (20, .aload_n 2, 1), (21, .iconst 0, 1), (22, .aload_n 0, 1), (23, .arraylength, 1), (24, .iload_n 1, 1), (25, .invokestatic 304, 3), (28, .invokestatic 150, 3), (31, .aload_n 2, 1), (32, .areturn, 1)]
theorem D_J7_copyOf_59c91 : dOk cJ7_copyOf_59c91 L_J7_copyOf_59c91 = true := by decide +kernel
theorem w_J7_copyOf_59c91_0 {X : Cx} {d : Nat} {S : Mem} {Q : Res → Mem → Prop} (r0 : Nat) (x1 : Int32) (h : (isK S r0 21) ∧ ((¬ x1 = (nI (gN S r0)) → ∃ n3 : Nat, x1 = nI n3 ∧ n3 ≤ 1000000 ∧ ∀ S7 : Mem, S7 = nw S 21 n3 n3 → (1 ≤ d) ∧ (1 ≤ d) ∧ (64 ≤ r0) ∧ (64 ≤ (tp S)) ∧ (¬ (if x1 < (nI (gN S7 r0)) then x1 else (nI (gN S7 r0))) < 0) ∧ ((0 : Int32).toNatClampNeg + ((if x1 < (nI (gN S7 r0)) then x1 else (nI (gN S7 r0))) : Int32).toNatClampNeg ≤ gN S7 r0) ∧ ((0 : Int32).toNatClampNeg + ((if x1 < (nI (gN S7 r0)) then x1 else (nI (gN S7 r0))) : Int32).toNatClampNeg ≤ gN S7 (tp S)) ∧ ∀ S15 : Mem, S15 = rwI S7 (tp S) (va_cpy (gI S7 r0) (gI S7 (tp S)) (0 : Int32).toNatClampNeg (0 : Int32).toNatClampNeg ((if x1 < (nI (gN S7 r0)) then x1 else (nI (gN S7 r0))) : Int32).toNatClampNeg) → Q (.inl (some (vR (tp S)))) S15) ∧ (x1 = (nI (gN S r0)) → False))) : V X d MJ7_copyOf_59c91 0 [(0, vR r0), (1, vI x1)] [] S Q := by
  refine V_iload_n (pc2 := 1) (dk D_J7_copyOf_59c91 0 rfl) rfl (V_lg 1 rfl) rfl ?_
  refine V_aload_n (pc2 := 2) (dk D_J7_copyOf_59c91 1 rfl) rfl (V_lg 0 rfl) rfl ?_
  obtain ⟨h1, h⟩ := h
  refine V_alenI (pc2 := 3) (dk D_J7_copyOf_59c91 2 rfl) rfl h1 ?_
  refine V_cmpne (tgt := 14) (pc2 := 6) (dk D_J7_copyOf_59c91 3 rfl) (by decide) rfl (fun q2 => ?_) (fun q2 => ?_)
  · have h := h.1 q2
    refine V_iload_n (pc2 := 15) (dk D_J7_copyOf_59c91 8 rfl) rfl (V_lg 1 rfl) rfl ?_
    obtain ⟨n3, hx4, hb5, h⟩ := h
    have hd6 : decode MJ7_copyOf_59c91.2.1 15 = .ok (.newarray .int, 2) := dk D_J7_copyOf_59c91 9 rfl
    refine V_newa21 (n := n3) (pc2 := 17) hd6 ac_21 rfl hx4 hb5 ?_
    have h := h _ rfl
    refine V_astore_n (pc2 := 18) (lv2 := [(0, _), (1, _), (2, _)]) (dk D_J7_copyOf_59c91 10 rfl) rfl (by decide) rfl rfl ?_
    refine V_aload_n (pc2 := 19) (dk D_J7_copyOf_59c91 11 rfl) rfl (V_lg 0 rfl) rfl ?_
    refine V_iconst (x := 0) (pc2 := 20) (dk D_J7_copyOf_59c91 12 rfl) (by decide) rfl ?_
    refine V_aload_n (pc2 := 21) (dk D_J7_copyOf_59c91 13 rfl) rfl (V_lg 2 rfl) rfl ?_
    refine V_iconst (x := 0) (pc2 := 22) (dk D_J7_copyOf_59c91 14 rfl) (by decide) rfl ?_
    refine V_aload_n (pc2 := 23) (dk D_J7_copyOf_59c91 15 rfl) rfl (V_lg 0 rfl) rfl ?_
    refine V_alenI (pc2 := 24) (dk D_J7_copyOf_59c91 16 rfl) rfl (isK_nw h1) ?_
    refine V_iload_n (pc2 := 25) (dk D_J7_copyOf_59c91 17 rfl) rfl (V_lg 1 rfl) rfl ?_
    obtain ⟨h8, h⟩ := h
    refine V_min (pc2 := 28) (dk D_J7_copyOf_59c91 18 rfl) ml_16_304 mn_s mx_i mn_c rfl (Nat.le_of_ble_eq_true rfl) h8 ?_
    obtain ⟨h9, h⟩ := h
    obtain ⟨h10, h⟩ := h
    obtain ⟨h11, h⟩ := h
    obtain ⟨h12, h⟩ := h
    obtain ⟨h13, h⟩ := h
    obtain ⟨h14, h⟩ := h
    refine V_acpI (k := 21) (pc2 := 31) (Or.inr rfl) (dk D_J7_copyOf_59c91 19 rfl) ml_16_150 sy_n sy_s sy_i rfl (Nat.le_of_ble_eq_true rfl) h9 (isK_nw h1) h10 isK_new h11 (by decide) (by decide) h12 h13 h14 (fun _ _ => rfl) ?_
    have h := h _ rfl
    refine V_aload_n (pc2 := 32) (dk D_J7_copyOf_59c91 20 rfl) rfl (V_lg 2 rfl) rfl ?_
    exact V_areturn (dk D_J7_copyOf_59c91 21 rfl) rfl (Or.inr ⟨_, rfl⟩) h
  · have h := h.2 q2
    exact False.elim h
def L_J7_copyOf_c38d5 : List (Nat × Instr × Nat) := [(0, .iload_n 1, 1), (1, .aload_n 0, 1), (2, .arraylength, 1), (3, .if_icmp .ne 11, 3), (6, .aload_n 0, 1), (7, .invokevirtual 319, 3), (10, .checkcast 320, 3), (13, .areturn, 1), (14, .iload_n 1, 1), (15, .newarray .long, 2), (17, .astore_n 2, 1), (18, .aload_n 0, 1), (19, .iconst 0, 1), (20, .aload_n 2, 1), (21, .iconst 0, 1), (22, .aload_n 0, 1), (23, .arraylength, 1), (24, .iload_n 1, 1), (25, .invokestatic 304, 3), (28, .invokestatic 150, 3), (31, .aload_n 2, 1), (32, .areturn, 1)]
theorem D_J7_copyOf_c38d5 : dOk cJ7_copyOf_c38d5 L_J7_copyOf_c38d5 = true := by decide +kernel
theorem w_J7_copyOf_c38d5_0 {X : Cx} {d : Nat} {S : Mem} {Q : Res → Mem → Prop} (r0 : Nat) (x1 : Int32) (h : (isK S r0 22) ∧ (r0 ≠ 27) ∧ ((¬ x1 = (nI (gN S r0)) → ∃ n4 : Nat, x1 = nI n4 ∧ n4 ≤ 1000000 ∧ ∀ S8 : Mem, S8 = nw S 22 n4 n4 → (r0 ≠ 27) ∧ (1 ≤ d) ∧ (1 ≤ d) ∧ (64 ≤ r0) ∧ (64 ≤ (tp S)) ∧ (¬ (if x1 < (nI (gN S8 r0)) then x1 else (nI (gN S8 r0))) < 0) ∧ ((0 : Int32).toNatClampNeg + ((if x1 < (nI (gN S8 r0)) then x1 else (nI (gN S8 r0))) : Int32).toNatClampNeg ≤ gN S8 r0) ∧ ((0 : Int32).toNatClampNeg + ((if x1 < (nI (gN S8 r0)) then x1 else (nI (gN S8 r0))) : Int32).toNatClampNeg ≤ gN S8 (tp S)) ∧ ∀ S17 : Mem, S17 = rwL S8 (tp S) (va_cpy (gL S8 r0) (gL S8 (tp S)) (0 : Int32).toNatClampNeg (0 : Int32).toNatClampNeg ((if x1 < (nI (gN S8 r0)) then x1 else (nI (gN S8 r0))) : Int32).toNatClampNeg) → Q (.inl (some (vR (tp S)))) S17) ∧ (x1 = (nI (gN S r0)) → False))) : V X d MJ7_copyOf_c38d5 0 [(0, vR r0), (1, vI x1)] [] S Q := by
  refine V_iload_n (pc2 := 1) (dk D_J7_copyOf_c38d5 0 rfl) rfl (V_lg 1 rfl) rfl ?_
  refine V_aload_n (pc2 := 2) (dk D_J7_copyOf_c38d5 1 rfl) rfl (V_lg 0 rfl) rfl ?_
  obtain ⟨h1, h⟩ := h
  obtain ⟨h2, h⟩ := h
  refine V_alen (k := 22) (pc2 := 3) (dk D_J7_copyOf_c38d5 2 rfl) rfl (by decide) (by decide) h1 h2 ?_
  refine V_cmpne (tgt := 14) (pc2 := 6) (dk D_J7_copyOf_c38d5 3 rfl) (by decide) rfl (fun q3 => ?_) (fun q3 => ?_)
  · have h := h.1 q3
    refine V_iload_n (pc2 := 15) (dk D_J7_copyOf_c38d5 8 rfl) rfl (V_lg 1 rfl) rfl ?_
    obtain ⟨n4, hx5, hb6, h⟩ := h
    have hd7 : decode MJ7_copyOf_c38d5.2.1 15 = .ok (.newarray .long, 2) := dk D_J7_copyOf_c38d5 9 rfl
    refine V_newa22 (n := n4) (pc2 := 17) hd7 ac_22 rfl hx5 hb6 ?_
    have h := h _ rfl
    refine V_astore_n (pc2 := 18) (lv2 := [(0, _), (1, _), (2, _)]) (dk D_J7_copyOf_c38d5 10 rfl) rfl (by decide) rfl rfl ?_
    refine V_aload_n (pc2 := 19) (dk D_J7_copyOf_c38d5 11 rfl) rfl (V_lg 0 rfl) rfl ?_
    refine V_iconst (x := 0) (pc2 := 20) (dk D_J7_copyOf_c38d5 12 rfl) (by decide) rfl ?_
    refine V_aload_n (pc2 := 21) (dk D_J7_copyOf_c38d5 13 rfl) rfl (V_lg 2 rfl) rfl ?_
    refine V_iconst (x := 0) (pc2 := 22) (dk D_J7_copyOf_c38d5 14 rfl) (by decide) rfl ?_
    refine V_aload_n (pc2 := 23) (dk D_J7_copyOf_c38d5 15 rfl) rfl (V_lg 0 rfl) rfl ?_
    obtain ⟨h9, h⟩ := h
    refine V_alen (k := 22) (pc2 := 24) (dk D_J7_copyOf_c38d5 16 rfl) rfl (by decide) (by decide) (isK_nw h1) h9 ?_
    refine V_iload_n (pc2 := 25) (dk D_J7_copyOf_c38d5 17 rfl) rfl (V_lg 1 rfl) rfl ?_
    obtain ⟨h10, h⟩ := h
    refine V_min (pc2 := 28) (dk D_J7_copyOf_c38d5 18 rfl) ml_16_304 mn_s mx_i mn_c rfl (Nat.le_of_ble_eq_true rfl) h10 ?_
    obtain ⟨h11, h⟩ := h
    obtain ⟨h12, h⟩ := h
    obtain ⟨h13, h⟩ := h
    obtain ⟨h14, h⟩ := h
    obtain ⟨h15, h⟩ := h
    obtain ⟨h16, h⟩ := h
    refine V_acpL (pc2 := 31) (dk D_J7_copyOf_c38d5 19 rfl) ml_16_150 sy_n sy_s sy_i rfl (Nat.le_of_ble_eq_true rfl) h11 (isK_nw h1) h12 isK_new h13 (by decide) (by decide) h14 h15 h16 ?_
    have h := h _ rfl
    refine V_aload_n (pc2 := 32) (dk D_J7_copyOf_c38d5 20 rfl) rfl (V_lg 2 rfl) rfl ?_
    exact V_areturn (dk D_J7_copyOf_c38d5 21 rfl) rfl (Or.inr ⟨_, rfl⟩) h
  · have h := h.2 q3
    exact False.elim h
