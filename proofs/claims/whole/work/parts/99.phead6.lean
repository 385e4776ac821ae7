/-! the head of a body, from its name on -/
section HD6
variable {X : Cx} {N b P : Nat} {κ κ1 κ2 κ' : Km} {σ σ1 σ2 σ' : Rm}
/-- names of bodies: the class finds one just when the reference does -/
theorem bn_iff {t : Nat} (tk : TkA κ σ N) (bn : BN κ σ N b) (ht : t ≤ N) (h2 : kI κ 74 t = 2) : (∃ i, i < b ∧ kL κ (1000 + 8 * i) 1 = kL κ 76 t) ↔ ∃ i, i < b ∧ aL σ 26 i = aL σ 9 t := by
  have nmt := tk.nm ht h2
  constructor
  · rintro ⟨i, i1, i2⟩
    obtain ⟨u, u1, u2, u3, u4⟩ := bn i i1
    exact ⟨i, i1, u4.trans (((tk.nm u1 u2).iff nmt).mp (u3.symm.trans i2))⟩
  · rintro ⟨i, i1, i2⟩
    obtain ⟨u, u1, u2, u3, u4⟩ := bn i i1
    exact ⟨i, i1, u3.trans (((tk.nm u1 u2).iff nmt).mpr (u4.symm.trans i2))⟩
/-- a fresh body: no names yet -/
theorem NF.nil (w : kW κ (1001 + 8 * b) = 12) (e5 : kI κ (1000 + 8 * b) 5 = 0) (e8 : kI κ (1000 + 8 * b) 8 = -9) (e25 : sI σ 25 = 0) (h3 : kI κ 67 3 = -9 ∨ ∃ f, f < 3001 ∧ kI κ 67 3 = nI f) (h37 : sI σ 37 = -9 ∨ ∃ f, f < 3001 ∧ sI σ 37 = nI f) (hf : fN (sI σ 37) = min (fN (kI κ 67 3)) P) : NF κ σ b P := by
  have l3 : fN (kI κ 67 3) ≤ 5000 := by
    rcases h3 with h | ⟨f, hf, h⟩
    · rw [h, fN_neg]; exact Nat.le_refl _
    · rw [h, fN_nI (by omega)]; omega
  refine ⟨[], [], rfl, fun t ht => absurd ht List.not_mem_nil, List.Pairwise.nil, e5, w, fun v t _ hd => ?_, e8, e25, by decide, fun v t hE => ?_, h3, h37, ?_, fun z => absurd rfl z⟩
  · simp at hd
  · simp at hE
  · have q : q13 κ [] = 5000 := rfl
    rw [q, hf]
    omega
/-- the head was read by both -/
def HB (N b P n s : Nat) (κ : Km) (σ : Rm) (κ' : Km) (σ' : Rm) : Prop := Ps κ' σ' N b P ∧ (pC κ + 4 + n ≤ pC κ' ∧ oC κ' = 0 ∧ iC κ' = iC κ ∧ rJ σ' = rJ σ ∧ rU σ' = 0 ∧ rA σ' = rA σ ∧ rT σ' = rT σ ∧ rC σ' = rC σ ∧ rV σ' = n ∧ rK σ' = 0 ∧ rE σ' = 0) ∧ KH b κ κ' ∧ kI κ' 77 5 = kI κ 77 5 ∧ kI κ' 67 2 = nI (b + 1) ∧ sI σ' 18 = nI (b + 1) ∧ (kI κ' (1000 + 8 * b) 2 = nI s ∧ kI κ' (1000 + 8 * b) 4 = nI n ∧ kI κ' (1000 + 8 * b) 6 = nI (iC κ)) ∧ (∃ f, f < 3001 ∧ kI κ' (1000 + 8 * b) 3 = nI f ∧ ∀ i, aI σ' 22 i = if i = b then nI f else aI σ 22 i) ∧ (∀ i, aI σ' 19 i = if i = b then nI s else aI σ 19 i) ∧ (∀ i, aI σ' 20 i = if i = b then nI n else aI σ 20 i) ∧ (∀ i, aI σ' 23 i = if i = b then nI (rJ σ) else aI σ 23 i) ∧ aI σ' 21 = aI σ 21 ∧ BN κ' σ' N (b + 1) ∧ AF qB σ σ' ∧ (kI κ' 67 3 = -9 → kI κ 67 3 = -9)
end HD6
