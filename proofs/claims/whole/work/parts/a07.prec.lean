/-! bodies that are read: what lasts of them -/
abbrev bdS (κ : Km) (b : Nat) : Nat := (kI κ (1000 + 8 * b) 6).toNatClampNeg
abbrev bdE (κ : Km) (b : Nat) : Nat := (kI κ (1000 + 8 * b) 7).toNatClampNeg
/-- the faults of names of a body that show at its end -/
def FSc (N : Nat) (κ : Km) (b p : Nat) : Prop := p = fN (kI κ (1000 + 8 * b) 8) ∨ MsL N κ b (bdS κ b) (bdE κ b) p
def RcC (i : Nat) (κ1 κ2 κ : Km) (n s : Nat) : Prop :=
  (∀ k, iC κ1 ≤ k → k < iC κ2 → kI κ 69 k = kI κ2 69 k ∧ kI κ 70 k = kI κ2 70 k) ∧ (kI κ 69 (iC κ2) = 1 ∧ kI κ 70 (iC κ2) = 0 ∧ kI κ 69 (iC κ2 + 1) = 46) ∧ iC κ1 ≤ iC κ2 ∧ iC κ2 + 2 ≤ iC κ ∧
  (kI κ (1000 + 8 * i) 2 = nI s ∧ kI κ (1000 + 8 * i) 4 = nI n ∧ kI κ (1000 + 8 * i) 5 = kI κ2 (1000 + 8 * i) 5 ∧ kI κ (1000 + 8 * i) 6 = nI (iC κ1) ∧ kI κ (1000 + 8 * i) 7 = nI (iC κ2 + 2) ∧ kI κ (1000 + 8 * i) 8 = kI κ2 (1000 + 8 * i) 8 ∧ kL κ (1001 + 8 * i) = kL κ2 (1001 + 8 * i)) ∧
  kI κ 74 = kI κ2 74 ∧ kI κ 75 = kI κ2 75 ∧ kL κ 76 = kL κ2 76
def RcR (i : Nat) (σ1 σ2 σ : Rm) (n s : Nat) : Prop :=
  (∀ q, rJ σ1 ≤ q → q < rJ σ2 → aI σ 13 q = aI σ2 13 q ∧ aI σ 15 q = aI σ2 15 q ∧ aI σ 16 q = aI σ2 16 q ∧ (aI σ2 13 q ≠ 2 → aI σ 14 q = aI σ2 14 q)) ∧
  (∀ u q t v, u < rU σ2 → q < 12000 → t < 3001 → aI σ2 42 u = nI q → aI σ2 43 u = nI t → FstR σ2 (rV σ2) (aL σ2 9 t) v → q < rJ σ2 ∧ aI σ 14 q = nI v) ∧
  (aI σ 13 (rJ σ2) = 1 ∧ aI σ 14 (rJ σ2) = 0 ∧ aI σ 13 (rJ σ2 + 1) = 26) ∧ rJ σ1 ≤ rJ σ2 ∧ rJ σ2 + 2 ≤ rJ σ ∧
  (∀ u, rA σ1 ≤ u → u < rA σ2 → aI σ 38 u = aI σ2 38 u ∧ aI σ 39 u = aI σ2 39 u ∧ aI σ 40 u = aI σ2 40 u) ∧ rA σ2 ≤ rA σ ∧
  (∀ t, rT σ1 ≤ t → t < rT σ2 → aI σ 27 t = aI σ2 27 t ∧ aI σ 28 t = aI σ2 28 t) ∧ rT σ2 ≤ rT σ ∧
  (∀ c, rC σ1 ≤ c → c < rC σ2 → aI σ 30 c = aI σ2 30 c ∧ aI σ 31 c = aI σ2 31 c ∧ aI σ 32 c = aI σ2 32 c ∧ aI σ 33 c = aI σ2 33 c ∧ aI σ 45 c = aI σ2 45 c) ∧ rC σ2 ≤ rC σ ∧
  (∀ c t, c < rC σ → aI σ 45 c = nI t → t < 1000 → rT σ1 ≤ t → t < rT σ2 → rC σ1 ≤ c ∧ c < rC σ2) ∧
  (aI σ 19 i = nI s ∧ aI σ 20 i = nI n ∧ aI σ 21 i = nI (rV σ2) ∧ aI σ 23 i = nI (rJ σ1)) ∧ aL σ 9 = aL σ2 9 ∧ aI σ 6 = aI σ2 6
/-- a body that is read -/
def Rec (N i : Nat) (κ : Km) (σ : Rm) : Prop := ∃ (κ1 : Km) (σ1 : Rm) (κ2 : Km) (σ2 : Rm) (P n s : Nat), ST N i P 0 κ1 σ1 κ2 σ2 ∧ (oC κ1 = 0 ∧ rE σ1 = 0 ∧ rK σ1 = 0 ∧ rU σ1 = 0 ∧ rV σ1 = n ∧ s ≤ 1 ∧ n ≤ 4 ∧ (s = 1 → n ≤ 1) ∧ iC κ2 ≤ 9500 ∧ rJ σ2 ≤ 9500 ∧ rT σ2 ≤ 600 ∧ rC σ2 ≤ 900 ∧ rU σ2 ≤ 1500 ∧ rA σ2 ≤ 1500) ∧ RcC i κ1 κ2 κ n s ∧ RcR i σ1 σ2 σ n s ∧ kI κ (1000 + 8 * i) 3 = aI σ 22 i
/-- what was read stays -/
def Pst (b : Nat) (κ : Km) (σ : Rm) (κ' : Km) (σ' : Rm) : Prop := iC κ ≤ iC κ' ∧ (∀ k, k < iC κ → kI κ' 69 k = kI κ 69 k ∧ kI κ' 70 k = kI κ 70 k) ∧ (∀ i, i < b → kI κ' (1000 + 8 * i) = kI κ (1000 + 8 * i) ∧ kL κ' (1001 + 8 * i) = kL κ (1001 + 8 * i)) ∧ (kI κ' 74 = kI κ 74 ∧ kI κ' 75 = kI κ 75 ∧ kL κ' 76 = kL κ 76) ∧
  (rJ σ ≤ rJ σ' ∧ rA σ ≤ rA σ' ∧ rT σ ≤ rT σ' ∧ rC σ ≤ rC σ') ∧ (∀ q, q < rJ σ → aI σ' 13 q = aI σ 13 q ∧ aI σ' 14 q = aI σ 14 q ∧ aI σ' 15 q = aI σ 15 q ∧ aI σ' 16 q = aI σ 16 q) ∧ (∀ u, u < rA σ → aI σ' 38 u = aI σ 38 u ∧ aI σ' 39 u = aI σ 39 u ∧ aI σ' 40 u = aI σ 40 u) ∧ (∀ t, t < rT σ → aI σ' 27 t = aI σ 27 t ∧ aI σ' 28 t = aI σ 28 t) ∧
  (∀ c, c < rC σ → aI σ' 30 c = aI σ 30 c ∧ aI σ' 31 c = aI σ 31 c ∧ aI σ' 32 c = aI σ 32 c ∧ aI σ' 33 c = aI σ 33 c ∧ aI σ' 45 c = aI σ 45 c) ∧ (∀ c t, rC σ ≤ c → c < rC σ' → t < 1000 → aI σ' 45 c = nI t → rT σ ≤ t) ∧ (∀ i, i < b → aI σ' 19 i = aI σ 19 i ∧ aI σ' 20 i = aI σ 20 i ∧ aI σ' 21 i = aI σ 21 i ∧ aI σ' 22 i = aI σ 22 i ∧ aI σ' 23 i = aI σ 23 i) ∧ aL σ' 9 = aL σ 9 ∧ aI σ' 6 = aI σ 6
section REC
variable {N b i p : Nat} {κ κ' κ1 κ2 : Km} {σ σ' σ1 σ2 : Rm} {n s : Nat}
theorem RcC.step (h : RcC i κ1 κ2 κ n s) (hi : i < b) (t : Pst b κ σ κ' σ') : RcC i κ1 κ2 κ' n s := by
  obtain ⟨h1, ⟨h2, h3, h4⟩, h5, h6, ⟨h7, h8, h9, h10, h11, h12, h13⟩, h14, h15, h16⟩ := h
  obtain ⟨t1, t2, t3, ⟨t4, t5, t6⟩, -⟩ := t
  obtain ⟨b1, b2⟩ := t3 i hi
  refine ⟨fun k l1 l2 => ?_, ⟨?_, ?_, ?_⟩, h5, by omega, ?_, by rw [t4]; exact h14, by rw [t5]; exact h15, by rw [t6]; exact h16⟩
  · have e := t2 k (by omega)
    rw [e.1, e.2]; exact h1 k l1 l2
  · rw [(t2 _ (by omega)).1]; exact h2
  · rw [(t2 _ (by omega)).2]; exact h3
  · rw [(t2 _ (by omega)).1]; exact h4
  · rw [b1, b2]
    exact ⟨h7, h8, h9, h10, h11, h12, h13⟩
theorem RcR.step (h : RcR i σ1 σ2 σ n s) (hi : i < b) (t : Pst b κ σ κ' σ') : RcR i σ1 σ2 σ' n s := by
  obtain ⟨h1, h2, ⟨h3, h4, h5⟩, h6, h7, h8, h9, h10, h11, h12, h13, h14, ⟨h15, h16, h17, h18⟩, h19, h20⟩ := h
  obtain ⟨-, -, -, -, ⟨t1, t2, t3, t4⟩, t5, t6, t7, t8, t9, t10, t11, t12⟩ := t
  obtain ⟨b1, b2, b3, b4, b5⟩ := t10 i hi
  refine ⟨fun q l1 l2 => ?_, fun u q t v l1 l2 l3 l4 l5 l6 => ?_, ⟨?_, ?_, ?_⟩, h6, by omega, fun u l1 l2 => ?_, by omega, fun t l1 l2 => ?_, by omega, fun c l1 l2 => ?_, by omega, fun c t l1 l2 l3 l4 l5 => ?_, ⟨b1.trans h15, b2.trans h16, b3.trans h17, b5.trans h18⟩, t11.trans h19, t12.trans h20⟩
  · obtain ⟨e1, e2, e3, e4⟩ := t5 q (by omega)
    rw [e1, e2, e3, e4]; exact h1 q l1 l2
  · obtain ⟨g1, g2⟩ := h2 u q t v l1 l2 l3 l4 l5 l6
    exact ⟨g1, by rw [(t5 q (by omega)).2.1]; exact g2⟩
  · rw [(t5 _ (by omega)).1]; exact h3
  · rw [(t5 _ (by omega)).2.1]; exact h4
  · rw [(t5 _ (by omega)).1]; exact h5
  · obtain ⟨e1, e2, e3⟩ := t6 u (by omega)
    rw [e1, e2, e3]; exact h8 u l1 l2
  · obtain ⟨e1, e2⟩ := t7 t (by omega)
    rw [e1, e2]; exact h10 t l1 l2
  · obtain ⟨e1, e2, e3, e4, e5⟩ := t8 c (by omega)
    rw [e1, e2, e3, e4, e5]; exact h12 c l1 l2
  · by_cases cc : c < rC σ
    · exact h14 c t cc (by rw [← (t8 c cc).2.2.2.2]; exact l2) l3 l4 l5
    · have := t9 c t (by omega) l1 l3 l2
      omega
theorem Rec.step (h : Rec N i κ σ) (hi : i < b) (t : Pst b κ σ κ' σ') : Rec N i κ' σ' := by
  obtain ⟨κ1, σ1, κ2, σ2, P, n, s, h1, h2, h3, h4, h5⟩ := h
  exact ⟨κ1, σ1, κ2, σ2, P, n, s, h1, h2, h3.step hi t, h4.step hi t, by rw [(t.2.2.1 i hi).1, (t.2.2.2.2.2.2.2.2.2.2.1 i hi).2.2.2.1]; exact h5⟩
theorem MsL.to {i0 i1 : Nat} (h : MsL N κ b i0 i1 p) (hr : ∀ k, i0 ≤ k → k < i1 → kI κ' 69 k = kI κ 69 k ∧ kI κ' 70 k = kI κ 70 k) (hv : cV κ' b = cV κ b) (hn : kL κ' (1001 + 8 * b) = kL κ (1001 + 8 * b)) (h75 : kI κ' 75 = kI κ 75) (h76 : kL κ' 76 = kL κ 76) : MsL N κ' b i0 i1 p := by
  obtain ⟨k, t, k1, k2, k3, k4, k5, ⟨k6, k7⟩, k8⟩ := h
  refine ⟨k, t, k1, k2, by rw [(hr k k1 k2).1]; exact k3, k4, by rw [(hr k k1 k2).2]; exact k5, ⟨fun v l => ?_, fun j u l1 l2 l3 l4 l5 => ?_⟩, by unfold plT; rw [h75]; exact k8⟩
  · rw [hn, h76]; exact k6 v (by omega)
  · rw [h76]
    rw [(hr j l1 l2).1] at l3
    rw [(hr j l1 l2).2] at l5
    exact k7 j u l1 l2 l3 l4 l5
theorem MsL.ext {i0 i1 : Nat} (h01 : i0 ≤ i1) (e1 : kI κ 69 i1 = 1) (e2 : kI κ 69 (i1 + 1) = 46) : MsL N κ b i0 (i1 + 2) p ↔ MsL N κ b i0 i1 p := by
  have ne : ∀ k, i1 ≤ k → k < i1 + 2 → kI κ 69 k ≠ 2 ∧ kI κ 69 k ≠ 3 := fun k l1 l2 => by
    by_cases c : k = i1
    · rw [c, e1]; decide
    · rw [show k = i1 + 1 by omega, e2]; decide
  constructor
  · rintro ⟨k, t, k1, k2, k3, k4, k5, ⟨k6, k7⟩, k8⟩
    have : k < i1 := Nat.lt_of_not_le (fun z => (ne k z k2).1 k3)
    exact ⟨k, t, k1, this, k3, k4, k5, ⟨k6, fun j u l1 l2 => k7 j u l1 (by omega)⟩, k8⟩
  · rintro ⟨k, t, k1, k2, k3, k4, k5, ⟨k6, k7⟩, k8⟩
    exact ⟨k, t, k1, by omega, k3, k4, k5, ⟨k6, fun j u l1 l2 l3 => k7 j u l1 (Nat.lt_of_not_le (fun z => (ne j z l2).2 l3)) l3⟩, k8⟩
theorem Rec.be (h : Rec N i κ σ) : bdE κ i ≤ iC κ ∧ bdS κ i ≤ bdE κ i ∧ kI κ (1000 + 8 * i) 6 = nI (bdS κ i) ∧ kI κ (1000 + 8 * i) 7 = nI (bdE κ i) := by
  obtain ⟨κ1, σ1, κ2, σ2, P, n, s, h1, h2, ⟨-, -, c1, c2, ⟨-, -, -, c3, c4, -⟩, -⟩, -⟩ := h
  unfold bdE bdS
  rw [c3, c4, cl_nI (by omega), cl_nI (by omega)]
  exact ⟨c2, by omega, rfl, rfl⟩
theorem FSc.step (h : Rec N i κ σ) (hi : i < b) (t : Pst b κ σ κ' σ') : FSc N κ' i p ↔ FSc N κ i p := by
  obtain ⟨t1, t2, t3, ⟨t4, t5, t6⟩, -⟩ := t
  obtain ⟨b1, b2⟩ := t3 i hi
  obtain ⟨r1, r2, -⟩ := h.be
  have eV : cV κ' i = cV κ i := by unfold cV; rw [b1]
  have eS : bdS κ' i = bdS κ i := by unfold bdS; rw [b1]
  have eE : bdE κ' i = bdE κ i := by unfold bdE; rw [b1]
  unfold FSc
  rw [b1, eS, eE]
  exact ⟨fun z => z.elim Or.inl (fun z => Or.inr (z.to (fun k l1 l2 => ⟨(t2 k (by omega)).1.symm, (t2 k (by omega)).2.symm⟩) eV.symm b2.symm t5.symm t6.symm)), fun z => z.elim Or.inl (fun z => Or.inr (z.to (fun k l1 l2 => t2 k (by omega)) eV b2 t5 t6))⟩
end REC
