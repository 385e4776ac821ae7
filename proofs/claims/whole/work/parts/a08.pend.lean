/-! the end of a body, both -/
section BEND
variable {X : Cx} {N b P n s : Nat} {κ κ1 κ2 κ3 κ4 κ5 : Km} {σ σ1 σ2 σ6 : Rm}
/-- the class ends a body -/
def EdC (b : Nat) (κ2 κ5 : Km) : Prop := kI κ5 68 2 = nI (iC κ2 + 2) ∧ (kI κ5 69 (iC κ2) = 1 ∧ kI κ5 70 (iC κ2) = 0 ∧ kI κ5 69 (iC κ2 + 1) = 46) ∧ (∀ k, k < iC κ2 → kI κ5 69 k = kI κ2 69 k ∧ kI κ5 70 k = kI κ2 70 k) ∧ (∃ w, kW κ5 69 = w ∧ kW κ5 70 = w ∧ iC κ2 + 2 ≤ w ∧ 128 ≤ w ∧ w ≤ 20000) ∧ KF (fun h => h = 68 ∨ h = 69 ∨ h = 70 ∨ h = 1000 + 8 * b) κ2 κ5 ∧ RG κ2 κ5 ∧ (∀ k, k ≠ 7 → kI κ5 (1000 + 8 * b) k = kI κ2 (1000 + 8 * b) k) ∧ kI κ5 (1000 + 8 * b) 7 = nI (iC κ2 + 2) ∧ kL κ5 (1000 + 8 * b) = kL κ2 (1000 + 8 * b)
theorem ed_c (a1 : AdC κ2 κ3 1 0) (a2 : AdC κ3 κ4 46 0) (hi : iC κ2 ≤ 9500) : EdC b κ2 (cI κ4 (1000 + 8 * b) 7 (kI κ4 68 2)) := by
  obtain ⟨d1, d2, d3, d4, d5, d6, d7⟩ := a1
  obtain ⟨g1, g2, g3, g4, g5, g6, g7⟩ := a2
  have e3 : iC κ3 = iC κ2 + 1 := by unfold iC at *; rw [d1, cl_nI (by omega)]
  rw [e3] at g1 g2 g3 g4 g5
  have n68 : ∀ h, h ≠ 1000 + 8 * b → kI (cI κ4 (1000 + 8 * b) 7 (kI κ4 68 2)) h = kI κ4 h := fun h hh => kI_ne hh
  unfold EdC
  rw [n68 68 (by omega), n68 69 (by omega), n68 70 (by omega)]
  refine ⟨g1, ⟨?_, ?_, g2⟩, fun k hk => ?_, g5, ?_, d7.trans (g7.trans RG.cI), fun k hk => ?_, ?_, ?_⟩
  · rw [(g4 _ (by omega)).1]; exact d2
  · rw [(g4 _ (by omega)).2]; exact d3
  · rw [(g4 _ (by omega)).1, (g4 _ (by omega)).2]; exact d4 k hk
  · exact ((d6.weak (fun h hh => by omega)).trans (g6.weak (fun h hh => by omega))).trans (KF.cI (by omega))
  · rw [kI_nk hk, (g6.1 _ (by omega)).1, (d6.1 _ (by omega)).1]
  · rw [kI_eq]; exact g1
  · show kL κ4 (1000 + 8 * b) = _
    rw [(g6.1 _ (by omega)).2.1, (d6.1 _ (by omega)).2.1]
/-- the reference ends a body -/
def EdR (b : Nat) (σ2 σ6 : Rm) : Prop := AF (fun k => (13 ≤ k ∧ k ≤ 17) ∨ k = 21 ∨ k = 37) σ2 σ6 ∧ sI σ6 17 = nI (rJ σ2 + 2) ∧ (aI σ6 13 (rJ σ2) = 1 ∧ aI σ6 14 (rJ σ2) = 0 ∧ aI σ6 13 (rJ σ2 + 1) = 26) ∧ (∀ q, q < rJ σ2 → aI σ6 13 q = aI σ2 13 q ∧ aI σ6 15 q = aI σ2 15 q ∧ aI σ6 16 q = aI σ2 16 q ∧ ((∀ u, u < rU σ2 → aI σ2 42 u ≠ nI q) → aI σ6 14 q = aI σ2 14 q)) ∧
  (∀ u q t v, u < rU σ2 → q < 12000 → t < 3001 → aI σ2 42 u = nI q → aI σ2 43 u = nI t → FstR σ2 (rV σ2) (aL σ2 9 t) v → aI σ6 14 q = nI v) ∧ (∀ i, aI σ6 21 i = if i = b then nI (rV σ2) else aI σ2 21 i) ∧ (sI σ6 37 = -9 ∨ ∃ f, f < 3001 ∧ sI σ6 37 = nI f) ∧ Lst (fun p => p = fN (sI σ2 37) ∨ MsR σ2 (rV σ2) 0 (rU σ2) p) (fN (sI σ6 37))
abbrev em2 (b : Nat) (σ : Rm) : Rm := wI (em (em σ 1 0 0) 26 0 0) 21 b (sI (em (em σ 1 0 0) 26 0 0) 25)
theorem em2_f {σ : Rm} (hj : rJ σ ≤ 9500) : rJ (em σ 1 0 0) = rJ σ + 1 ∧ AF (fun k => (13 ≤ k ∧ k ≤ 17) ∨ k = 21) σ (em2 b σ) ∧ sI (em2 b σ) 17 = nI (rJ σ + 2) ∧ (aI (em2 b σ) 13 (rJ σ) = 1 ∧ aI (em2 b σ) 14 (rJ σ) = 0 ∧ aI (em2 b σ) 13 (rJ σ + 1) = 26) ∧ (∀ q, q < rJ σ → aI (em2 b σ) 13 q = aI σ 13 q ∧ aI (em2 b σ) 14 q = aI σ 14 q ∧ aI (em2 b σ) 15 q = aI σ 15 q ∧ aI (em2 b σ) 16 q = aI σ 16 q) ∧ (∀ i, aI (em2 b σ) 21 i = if i = b then sI σ 25 else aI σ 21 i) := by
  have e1 : rJ (em σ 1 0 0) = rJ σ + 1 := by unfold rJ; rw [em_17, cl_nI (by omega)]
  have a : AF (fun k => (13 ≤ k ∧ k ≤ 17) ∨ k = 21) σ (em2 b σ) := by
    have w : ∀ (τ : Rm) (x y z : Int32), AF (fun k => (13 ≤ k ∧ k ≤ 17) ∨ k = 21) τ (em τ x y z) := fun τ x y z => ((((AF.wI (by decide)).trans (AF.wI (by decide))).trans (AF.wI (by decide))).trans (AF.wI (by decide))).trans (AF.wI (by decide))
    exact ((w _ _ _ _).trans (w _ _ _ _)).trans (AF.wI (Or.inr rfl))
  refine ⟨e1, a, ?_, ⟨?_, ?_, ?_⟩, fun q hq => ⟨?_, ?_, ?_, ?_⟩, fun i => ?_⟩
  · rw [sI_ne (by decide), em_17, e1]
  · rw [aI_ne (by decide), (em_ne (by omega)).1]; exact em_at.1
  · rw [aI_ne (by decide), (em_ne (by omega)).2.1]; exact em_at.2.1
  · rw [aI_ne (by decide), ← e1]; exact em_at.1
  · rw [aI_ne (by decide), (em_ne (by omega)).1, (em_ne (by omega)).1]
  · rw [aI_ne (by decide), (em_ne (by omega)).2.1, (em_ne (by omega)).2.1]
  · rw [aI_ne (by decide), (em_ne (by omega)).2.2.1, (em_ne (by omega)).2.2.1]
  · rw [aI_ne (by decide), (em_ne (by omega)).2.2.2, (em_ne (by omega)).2.2.2]
  · by_cases c : i = b
    · rw [if_pos c, c, aI_eq, em_s (by decide), em_s (by decide)]
    · rw [if_neg c, aI_ni c, em_a (by decide), em_a (by decide)]
theorem ed_uh {i0 i1 j0 a0 a1 v0 : Nat} (h : Ps κ2 σ2 N b P) (us : UsA N κ2 σ2 i0 i1 j0 (rJ σ2) 0 (rU σ2) a0 a1 v0 (rV σ2)) (hj : rJ σ2 ≤ 9500) (hU : rU σ2 ≤ 1500) (hV : rV σ2 ≤ 1500) : UsH (em2 b σ2) (rU σ2) (rV σ2) := by
  obtain ⟨e1, a, -⟩ := em2_f (b := b) (σ := σ2) hj
  have hN := h.p3.2
  obtain ⟨E, D, n1, n2, n3, n4, n5, n6, n7, n8, nE, n9, n10, n11, n12⟩ := h.1.2.2.2.2
  have s : ∀ k, ¬ ((13 ≤ k ∧ k ≤ 17) ∨ k = 21) → sI (em2 b σ2) k = sI σ2 k := fun k hk => congrFun (a k hk).1 0
  refine ⟨?_, hU, ?_, by omega, fun u hu => ?_, fun u w h1 h2 => ?_, ?_⟩
  · rw [s 44 (by decide)]; exact h.2.2.2.2.2.2.2.2.2.2.2.2.2.2.1
  · rw [s 25 (by decide)]
    show sI σ2 25 = nI (sI σ2 25).toNatClampNeg
    rw [n8, cl_nI (by omega)]
  · obtain ⟨t, k, q, t1, t2, t3, q1, q2, q3, q4, -⟩ := us.2.1 u (Nat.zero_le _) hu
    obtain ⟨f, f1, f2, f3, f4⟩ := h.1.1.pl2 t1
    rw [(a 43 (by decide)).1, (a 42 (by decide)).1, (a 6 (by decide)).1]
    exact ⟨t, q, f, t2, by omega, q3, by omega, f2, f3⟩
  · obtain ⟨q, r, r1, r2, r3, r4, r5⟩ := us.2.2.2.2.2.2.1 u w (Nat.zero_le _) h1 h2
    rw [(a 42 (by decide)).1]
    exact ⟨q, r, r1, by omega, r4, r5⟩
  · rw [s 37 (by decide)]; exact n11
theorem ed_r {i0 i1 j0 a0 a1 v0 : Nat} (h : Ps κ2 σ2 N b P) (us : UsA N κ2 σ2 i0 i1 j0 (rJ σ2) 0 (rU σ2) a0 a1 v0 (rV σ2)) (hj : rJ σ2 ≤ 9500) (uq : UsQ (em2 b σ2) (rV σ2) 0 (rU σ2) σ6) : EdR b σ2 σ6 := by
  obtain ⟨e1, a, e17, ⟨e2, e3, e4⟩, e5, e6⟩ := em2_f (b := b) (σ := σ2) hj
  obtain ⟨u1, u2, u3, u4, u5⟩ := uq
  have a42 := (a 42 (by decide)).1
  have a43 := (a 43 (by decide)).1
  have a6 := (a 6 (by decide)).1
  have l24 := (a 24 (by decide)).2
  have l9 := (a 9 (by decide)).2
  have s37 : sI (em2 b σ2) 37 = sI σ2 37 := congrFun (a 37 (by decide)).1 0
  have hU : ∀ u, u < rU σ2 → ∃ q, q < rJ σ2 ∧ aI σ2 42 u = nI q := fun u hu => by
    obtain ⟨t, k, q, t1, t2, t3, q1, q2, q3, q4, -⟩ := us.2.1 u (Nat.zero_le _) hu
    exact ⟨q, q2, q3⟩
  have e25 : sI σ2 25 = nI (rV σ2) := by
    obtain ⟨E, D, n1, n2, n3, n4, n5, n6, n7, n8, nE, n9, n10, n11, n12⟩ := h.1.2.2.2.2
    show sI σ2 25 = nI (sI σ2 25).toNatClampNeg
    rw [n8, cl_nI (by omega)]
  have k13 := (u1 13 (by decide)).1
  have k15 := (u1 15 (by decide)).1
  have k16 := (u1 16 (by decide)).1
  have k21 := (u1 21 (by decide)).1
  have k17 : sI σ6 17 = sI (em2 b σ2) 17 := congrFun (u1 17 (by decide)).1 0
  refine ⟨(a.weak (fun k hk => hk.elim Or.inl (fun z => Or.inr (Or.inl z)))).trans (u1.weak (fun k hk => by omega)), k17.trans e17, ⟨by rw [k13]; exact e2, ?_, by rw [k13]; exact e4⟩, fun q hq => ?_, fun u q t v l1 l2 l3 l4 l5 l6 => u3 u q t v (Nat.zero_le _) l1 l2 l3 (by rw [a42]; exact l4) (by rw [a43]; exact l5) (by unfold FstR at l6 ⊢; rw [l24, l9]; exact l6), fun i => by rw [k21, e6, e25], u4, u5.cong (fun p hp => ?_)⟩
  · rw [u2 _ (fun u _ hu => ?_)]
    · exact e3
    · obtain ⟨q, q1, q2⟩ := hU u hu
      rw [a42, q2]
      exact nI_ne (by omega) (by omega) (by omega)
  · obtain ⟨g1, g2, g3, g4⟩ := e5 q hq
    rw [k13, k15, k16, g1, g3, g4]
    exact ⟨rfl, rfl, rfl, fun hu => by rw [u2 q (fun u _ l => by rw [a42]; exact hu u l)]; exact g2⟩
  · unfold MsR
    rw [s37, a43, a6, l24, l9]
end BEND
