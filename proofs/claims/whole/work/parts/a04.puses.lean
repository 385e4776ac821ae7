/-! the reference resolves the uses of a body -/
section USE
variable {X : Cx} {σ σ1 : Rm} {x1 x2 x3 x4 x5 : Int32} {Q : Res → Rm → Prop} {e : Nat}
/-- the reference's readBody among the uses -/
abbrev LU (x1 x2 x3 x4 x5 x6 : Int32) : Lv := [(0, vR 92), (1, vI x1), (2, vI x2), (3, vI x3), (4, vI x4), (5, vI x5), (6, vI x6)]
abbrev LU8 (x1 x2 x3 x4 x5 x6 x7 x8 : Int32) : Lv := [(0, vR 92), (1, vI x1), (2, vI x2), (3, vI x3), (4, vI x4), (5, vI x5), (6, vI x6), (7, vI x7), (8, vI x8)]
/-- the number of a name among n ones: y, and whether it is blamed -/
def LnR (σ : Rm) (n t : Nat) (y : Int32) (σ1 : Rm) : Prop := (∃ v, FstR σ n (aL σ 9 t) v ∧ y = nI v ∧ σ1 = σ) ∨ ((∀ u, u < n → aL σ 24 u ≠ aL σ 9 t) ∧ y = -9 ∧ σ1 = bl σ t)
theorem use_one {u t q n : Nat} (he : 1 ≤ e) (hu : u < 1600) (h43 : aI σ 43 u = nI t) (ht : t < 3001) (h42 : aI σ 42 u = nI q) (hq : q < 12000) (h25 : sI σ 25 = nI n) (hn : n < 1600)
    (k : ∀ y σ1, LnR σ n t y σ1 → A X 92 e MX13_readBody 397 (LU x1 x2 x3 x4 x5 (nI (u + 1))) [] (wI σ1 14 q y) Q) : ∀ (m i : Nat) (y : Int32), i + m = n → ((y = -9 ∧ ∀ w, w < i → aL σ 24 w ≠ aL σ 9 t) ∨ ∃ v, v < i ∧ FstR σ n (aL σ 9 t) v ∧ y = nI v) → A X 92 e MX13_readBody 413 (LU8 x1 x2 x3 x4 x5 (nI u) y (nI i)) [] σ Q := by
  have fin : ∀ (y : Int32) (x8 : Int32) (σ1 : Rm), LnR σ n t y σ1 → A X 92 e MX13_readBody 485 (LU8 x1 x2 x3 x4 x5 (nI u) y x8) [] σ1 Q := fun y x8 σ1 ln => by
    have e42 : aI σ1 42 u = nI q := by
      rcases ln with ⟨v, -, -, rfl⟩ | ⟨-, -, rfl⟩
      · exact h42
      · rw [bl_a (by decide)]; exact h42
    refine a_readBody_485 _ _ _ _ _ _ _ _ ?_
    rw [vpn (by omega), cl_nI (by omega), e42, vpn (by omega), cl_nI (by omega)]
    refine ⟨hu, hq, ?_⟩
    rintro s3 rfl
    rw [nI_1]
    exact k y σ1 ln
  intro m
  induction m with
  | zero =>
    intro i y hi hy
    refine a_readBody_413 _ _ _ _ _ _ _ _ ?_
    rw [h25, le_nI (by omega) (by omega), vpn (by omega), cl_nI (by omega), h43]
    refine ⟨fun _ => ⟨fun c => ⟨hu, 0, by omega, ac_blame (by omega) (fin _ _ _ ?_)⟩, fun c => fin _ _ _ ?_⟩, fun z => absurd (by omega) z⟩
    · rcases hy with ⟨h1, h2⟩ | ⟨v, h1, h2, h3⟩
      · exact Or.inr ⟨fun w hw => h2 w (by omega), h1, rfl⟩
      · rw [h3] at c
        exact absurd c (neg9 (by omega))
    · rcases hy with ⟨h1, h2⟩ | ⟨v, h1, h2, h3⟩
      · exact absurd h1 c
      · exact Or.inl ⟨v, h2, h3, rfl⟩
  | succ m ih =>
    intro i y hi hy
    refine a_readBody_413 _ _ _ _ _ _ _ _ ?_
    rw [h25, le_nI (by omega) (by omega), vpn (by omega), vpn (by omega), cl_nI (by omega), cl_nI (by omega), h43, vpn (by omega), cl_nI (by omega), lg0]
    refine ⟨fun z => absurd z (by omega), fun _ => ⟨fun c => ⟨by omega, hu, by omega, fun c2 => a_readBody_459 _ _ _ _ _ _ _ _ _ ?_, fun c2 => a_readBody_457 _ _ _ _ _ _ _ _ (a_readBody_459 _ _ _ _ _ _ _ _ _ ?_)⟩, fun c => a_readBody_457 _ _ _ _ _ _ _ _ (a_readBody_459 _ _ _ _ _ _ _ _ _ ?_)⟩⟩
    · rw [nI_1]
      refine ih (i + 1) _ (by omega) (Or.inr ⟨i, by omega, ⟨by omega, c2, fun w hw => ?_⟩, rfl⟩)
      rcases hy with ⟨h1, h2⟩ | ⟨v, h1, h2, h3⟩
      · exact h2 w hw
      · rw [h3] at c
        exact absurd c (neg9 (by omega))
    · rw [nI_1]
      refine ih (i + 1) _ (by omega) (Or.inl ⟨c, fun w hw => ?_⟩)
      rcases hy with ⟨h1, h2⟩ | ⟨v, h1, h2, h3⟩
      · by_cases e : w = i
        · rw [e]; exact c2
        · exact h2 w (by omega)
      · rw [h3] at c
        exact absurd c (neg9 (by omega))
    · rw [nI_1]
      refine ih (i + 1) _ (by omega) ?_
      rcases hy with ⟨h1, h2⟩ | ⟨v, h1, h2, h3⟩
      · exact absurd h1 c
      · exact Or.inr ⟨v, by omega, h2, h3⟩
end USE
