/-! numbers as Nats, for the simplifier -/
theorem vpn {a n : Nat} (h : a < 2147483648) : vp_in (nI a) n = (a < n) := by
  unfold vp_in
  rw [cl_nI h]
  refine propext ⟨fun hh => ?_, fun hh z => ?_⟩
  · exact Nat.lt_of_not_le (fun z => hh (Or.inr z))
  · rcases z with z | z
    · exact absurd z (nI_pos h)
    · omega
theorem nI_sb {a b : Nat} (h : b ≤ a) : nI a - nI b = nI (a - b) := by
  have e : nI a = nI (a - b) + nI b := by rw [nI_add]; congr 1; omega
  rw [e]
  simp
theorem n0_lt {a : Nat} (h : a < 2147483648) : (nI a < 0) = False := propext ⟨fun z => absurd z (nI_pos h), False.elim⟩
theorem n0_le {a : Nat} (h : a < 2147483648) : (0 ≤ nI a) = True := propext ⟨fun _ => trivial, fun _ => nI_pos' h⟩
theorem neg_eq {a b : Nat} (h : a < 2147483648) (hb : b < 2147483648) (h0 : 0 < b) : (nI a = -nI b) = False := by
  refine propext ⟨fun z => ?_, False.elim⟩
  have e : nI (a + b) = nI 0 := by
    rw [← nI_add, z]
    exact Int32.add_left_neg _
  have e2 := congrArg Int32.toUInt32 e
  have e3 : (nI (a + b)).toUInt32.toNat = a + b := by
    show (UInt32.ofNat (a + b)).toNat = _
    rw [UInt32.toNat_ofNat']
    omega
  have e4 : (nI 0).toUInt32.toNat = 0 := rfl
  rw [e2, e4] at e3
  omega
theorem aL_w {σ : Rm} {k i : Nat} {v : Int32} : aL (wI σ k i v) = aL σ := rfl
theorem aI_w {σ : Rm} {k i : Nat} {v : Int64} : aI (wL σ k i v) = aI σ := rfl
theorem sI_w {σ : Rm} {k i : Nat} {v : Int64} : sI (wL σ k i v) = sI σ := rfl
theorem kI_w {κ : Km} {k i : Nat} {v : Int64} : kI (cL κ k i v) = kI κ := rfl
theorem kL_w {κ : Km} {k i : Nat} {v : Int32} : kL (cI κ k i v) = kL κ := rfl
theorem kW_i {κ : Km} {k i : Nat} {v : Int32} : kW (cI κ k i v) = kW κ := rfl
theorem kW_l {κ : Km} {k i : Nat} {v : Int64} : kW (cL κ k i v) = kW κ := rfl
theorem kB_i {κ : Km} {k i : Nat} {v : Int32} : kB (cI κ k i v) = kB κ := rfl
theorem kB_l {κ : Km} {k i : Nat} {v : Int64} : kB (cL κ k i v) = kB κ := rfl
theorem kV_i {κ : Km} {k i : Nat} {v : Int32} : kV (cI κ k i v) = kV κ := rfl
theorem kV_l {κ : Km} {k i : Nat} {v : Int64} : kV (cL κ k i v) = kV κ := rfl
theorem kC_i {κ : Km} {k i : Nat} {v : Int32} : kC (cI κ k i v) = kC κ := rfl
theorem kC_l {κ : Km} {k i : Nat} {v : Int64} : kC (cL κ k i v) = kC κ := rfl
theorem kI_c {κ : Km} {c : Nat} : kI (cC κ c) = kI κ := rfl
theorem kL_c {κ : Km} {c : Nat} : kL (cC κ c) = kL κ := rfl
theorem kW_c {κ : Km} {c : Nat} : kW (cC κ c) = kW κ := rfl
theorem kB_c {κ : Km} {c : Nat} : kB (cC κ c) = kB κ := rfl
theorem kC_c {κ : Km} {c : Nat} : kC (cC κ c) = c := rfl
theorem tst1 {κ : Km} {a m : Nat} (h : kI κ 72 5 = nI m) (hm : m < 3000) (ha : a < m) : ((kI (cI κ 74 3 5) 72 5) - 1 ≤ nI a ∨ nI a < 3000 ∧ vp_in (nI a) 3000) := by
  simp (disch := omega) only [kI_eq, kI_ne, kI_nk, kL_eq, kL_ne, kL_nk, aI_eq, aI_ne, aI_ni, sI_eq, sI_ne, aL_eq, aL_ne, aL_ni, aL_w, aI_w, sI_w, kI_w, kL_w, kW_i, kW_l, kB_i, kB_l, kV_i, kV_l, kC_i, kC_l, kI_c, kL_c, kW_c, kB_c, kC_c, h, litI 1, litI 3000, lt_nI, le_nI, eq_nI, cl_nI, vpn, nI_add, nI_1, nI_sb, n0_lt, n0_le, neg_eq]
  omega
