/-! reading behind writing -/
theorem gI_uI {S : Mem} {a k b j : Nat} {v : Int32} : gI (uI S a k v) b j = if b = a ∧ j = k then v else gI S b j := rfl
theorem gI_uL {S : Mem} {a k : Nat} {v : Int64} : gI (uL S a k v) = gI S := rfl
theorem gL_uL {S : Mem} {a k b j : Nat} {v : Int64} : gL (uL S a k v) b j = if b = a ∧ j = k then v else gL S b j := rfl
theorem gR_uR {S : Mem} {a k b j v : Nat} : gR (uR S a k v) b j = if b = a ∧ j = k then v else gR S b j := rfl
theorem gN_uR {S : Mem} {a k v : Nat} : gN (uR S a k v) = gN S := rfl
theorem tp_uR {S : Mem} {a k v : Nat} : tp (uR S a k v) = tp S := rfl
theorem gI_nw {S : Mem} {k n w b j : Nat} : gI (nw S k n w) b j = if b = tp S then 0 else gI S b j := rfl
theorem gL_nw {S : Mem} {k n w b j : Nat} : gL (nw S k n w) b j = if b = tp S then 0 else gL S b j := rfl
theorem gR_nw {S : Mem} {k n w b j : Nat} : gR (nw S k n w) b j = if b = tp S then 0 else gR S b j := rfl
theorem gK_nw {S : Mem} {k n w b : Nat} : gK (nw S k n w) b = if b = tp S then k else gK S b := rfl
theorem gN_nw {S : Mem} {k n w b : Nat} : gN (nw S k n w) b = if b = tp S then n else gN S b := rfl
theorem tp_nw {S : Mem} {k n w : Nat} : tp (nw S k n w) = tp S + 1 := rfl
theorem sz_nw {S : Mem} {k n w : Nat} : sz (nw S k n w) = sz S + w := rfl
theorem isK_ne {S : Mem} {a b c e : Nat} (h : isK S a c) (h2 : isK S b e) (n : c ≠ e) : a ≠ b := fun q => n (h.2.symm.trans (q ▸ h2.2))
/-- ints within small bounds -/
theorem cl_nI {n : Nat} (h : n < 2147483648) : (nI n).toNatClampNeg = n := nI_clamp h
theorem le_nI {x : Nat} {y : Nat} (hx : x < 2147483648) (hy : y < 2147483648) : (nI x ≤ nI y) = (x ≤ y) := propext (nI_leI hx hy)
theorem lt_nI {x : Nat} {y : Nat} (hx : x < 2147483648) (hy : y < 2147483648) : (nI x < nI y) = (x < y) := propext (nI_ltI hx hy)
theorem eq_nI {x : Nat} {y : Nat} (hx : x < 2147483648) (hy : y < 2147483648) : (nI x = nI y) = (x = y) := propext (nI_eq hx hy)
/-! the class's tape -/
/-- the tape at a holds the n bytes f -/
def Tape (S : Mem) (a n : Nat) (f : Nat → Int32) : Prop := isK S a 8 ∧ isK S (gR S a 0) 20 ∧ gN S (gR S a 0) = 3000 ∧ gI S a 1 = nI n ∧ n ≤ 3000 ∧ ∀ i, i < n → gI S (gR S a 0) i = f i
theorem c_Tape_hasRoom {X : Cx} {S : Mem} {F : Int32 → Mem → Prop} {a n k : Nat} {f : Nat → Int32} (h : Tape S a n f) (hk : k ≤ 100) (q : F (if n + k ≤ 3000 then 1 else 0) S) : C X 0 MX8_hasRoom [vR a, vI (nI k)] S (RI F) := by
  obtain ⟨h1, h2, h3, h4, h5, h6⟩ := h
  refine C_of_V rfl (Nat.le_of_ble_eq_true rfl) rfl (w_X8_hasRoom_0 a (nI k) ⟨h1, fun hc => ?_, fun hc => ?_⟩)
  · rw [h4, nI_add, litI 3000, lt_nI (by omega) (by omega)] at hc
    rw [if_neg (by omega)] at q
    exact w_X8_hasRoom_17 _ _ _ ⟨Or.inl rfl, _, rfl, q⟩
  · rw [h4, nI_add, litI 3000, lt_nI (by omega) (by omega)] at hc
    rw [if_pos (by omega)] at q
    exact w_X8_hasRoom_17 _ _ _ ⟨Or.inr rfl, _, rfl, q⟩
theorem c_Tape_size {X : Cx} {S : Mem} {F : Int32 → Mem → Prop} {a n : Nat} {f : Nat → Int32} (h : Tape S a n f) (q : F (nI n) S) : C X 0 MX8_size [vR a] S (RI F) := by
  obtain ⟨h1, h2, h3, h4, h5, h6⟩ := h
  refine C_of_V rfl (Nat.le_of_ble_eq_true rfl) rfl (w_X8_size_0 a ⟨h1, _, rfl, ?_⟩)
  rw [h4]; exact q
theorem c_Tape_add {X : Cx} {S : Mem} {F : Mem → Prop} {a n : Nat} {f : Nat → Int32} (x : Int32) (h : Tape S a n f) (hn : n < 3000) (q : F (uI (uI S (gR S a 0) n x.toInt8.toInt32) a 1 (nI (n + 1)))) : C X 0 MX8_add [vR a, vI x] S (RV F) := by
  obtain ⟨h1, h2, h3, h4, h5, h6⟩ := h
  have hne : a ≠ gR S a 0 := isK_ne h1 h2 (by decide)
  refine C_of_V rfl (Nat.le_of_ble_eq_true rfl) rfl (w_X8_add_0 a x ⟨h1, fun hc => ?_, fun hc => ⟨h2, ?_, fun S5 e5 S6 e6 => w_X8_add_31 _ _ ⟨rfl, ?_⟩⟩⟩)
  · rw [h4, litI 3000, le_nI (by omega) (by omega)] at hc; omega
  · rw [h4, h3]; exact vp_in_nI hn (by omega)
  · have e7 : x.toInt8.toInt32.toInt8.toInt32 = x.toInt8.toInt32 := by simp
    rw [e6, e5, gI_uI, if_neg (fun z => hne z.1), h4, cl_nI (by omega), e7, nI_1]
    exact q
/-- the tape when a byte has been added -/
theorem Tape.add {S : Mem} {a n : Nat} {f : Nat → Int32} {x : Int32} (h : Tape S a n f) (hn : n < 3000) : Tape (uI (uI S (gR S a 0) n x.toInt8.toInt32) a 1 (nI (n + 1))) a (n + 1) (upd f n x.toInt8.toInt32) := by
  obtain ⟨h1, h2, h3, h4, h5, h6⟩ := h
  have hne : a ≠ gR S a 0 := isK_ne h1 h2 (by decide)
  refine ⟨h1, h2, h3, by rw [gI_uI, if_pos ⟨rfl, rfl⟩], by omega, fun i hi => ?_⟩
  show gI (uI (uI S (gR S a 0) n x.toInt8.toInt32) a 1 (nI (n + 1))) (gR S a 0) i = _
  rw [gI_uI, if_neg (fun z => hne z.1.symm), gI_uI]
  unfold upd
  by_cases c : i = n
  · subst c; rw [if_pos ⟨rfl, rfl⟩, if_pos rfl]
  · rw [if_neg (fun z => c z.2), if_neg c]; exact h6 i (by omega)

