/-! segments of code: what is read becomes good places -/
/-- the number of a token's name among the variables of a body -/
def VnR (κ : Km) (b t v : Nat) : Prop := v < cV κ b ∧ kL κ (1001 + 8 * b) v = kL κ 76 t ∧ ∀ u, u < v → kL κ (1001 + 8 * b) u ≠ kL κ 76 t
/-- how names are linked at the end -/
def Fnc (σF : Rm) (vr br : Nat → Nat → Prop) (b : Nat) : Prop := b < 12 ∧ (∀ t v w, vr t v → vr t w → v = w) ∧ (∀ t v w, br t v → br t w → v = w) ∧ ∀ t v, vr t v → v < nvB σF b
/-- the final code agrees with a segment -/
def Ext (κF : Km) (σF : Rm) (vr br : Nat → Nat → Prop) (b : Nat) (κ : Km) (σ : Rm) (κ' : Km) (σ' : Rm) : Prop :=
  (∀ k, iC κ ≤ k → k < iC κ' → kI κF 69 k = kI κ' 69 k ∧ nI k < kI κF 68 2 ∧ (kI κ' 69 k ≠ 2 → kI κ' 69 k ≠ 3 → kI κ' 69 k ≠ 23 → kI κ' 69 k ≠ 24 → kI κF 70 k = kI κ' 70 k) ∧
    (kI κ' 69 k = 2 ∨ kI κ' 69 k = 3 → ∀ t, t < 3001 → kI κ' 70 k = -1 - nI t → ∃ v, vr t v ∧ kI κF 70 k = nI v) ∧
    (kI κ' 69 k = 23 ∨ kI κ' 69 k = 24 → ∀ t m, t < 3001 → m < 8 → kI κ' 70 k = nI (8 * t + m) → ∃ c, br t c ∧ kI κF 70 k = nI c)) ∧
  (∀ q, rJ σ ≤ q → q < rJ σ' → aI σF 13 q = aI σ' 13 q ∧ aI σF 15 q = aI σ' 15 q ∧ aI σF 16 q = aI σ' 16 q ∧ (aI σ' 13 q ≠ 2 → aI σ' 13 q ≠ 16 → aI σ' 13 q ≠ 20 → aI σF 14 q = aI σ' 14 q)) ∧
  (∀ u, rU σ ≤ u → u < rU σ' → ∀ q t, q < 12000 → t < 3001 → aI σ' 42 u = nI q → aI σ' 43 u = nI t → ∃ v, vr t v ∧ aI σF 14 q = nI v) ∧
  (∀ u, rA σ ≤ u → u < rA σ' → ∀ q t m, q < 12000 → t < 3001 → m < 8 → aI σ' 38 u = nI q → aI σ' 39 u = nI t → aI σ' 40 u = nI m → ∃ c, br t c ∧ aI σF 14 q = nI c ∧ BdK σF c (if aI σF 13 q = 16 then 1 else 0) m) ∧
  (∀ t, rT σ ≤ t → t < rT σ' → aI σF 27 t = aI σ' 27 t ∧ aI σF 28 t = aI σ' 28 t) ∧
  (∀ c, rC σ ≤ c → c < rC σ' → aI σF 30 c = aI σ' 30 c ∧ aI σF 31 c = aI σ' 31 c ∧ aI σF 32 c = aI σ' 32 c ∧ aI σF 33 c = aI σ' 33 c ∧ aI σF 45 c = aI σ' 45 c ∧ nI c < sI σF 34) ∧
  (∀ c t, c < 1000 → nI c < sI σF 34 → rT σ ≤ t → t < rT σ' → aI σF 45 c = nI t → rC σ ≤ c ∧ c < rC σ') ∧
  rV σ' = cV κ' b ∧ ∀ t v, VnR κ' b t v → vr t v
/-- catches belong to tries of the same segment -/
def Tc (σ σ' : Rm) : Prop := ∀ c, rC σ ≤ c → c < rC σ' → ∃ t, aI σ' 45 c = nI t ∧ rT σ ≤ t ∧ t < rT σ' ∧ t < 1000
theorem Tc.refl {σ : Rm} : Tc σ σ := fun c h1 h2 => absurd h1 (by omega)
theorem Tc.same {σ σ' : Rm} (h : rC σ' = rC σ) : Tc σ σ' := fun c h1 h2 => absurd h1 (by omega)
theorem Tc.trans {κ κ1 κ2 : Km} {σ σ1 σ2 : Rm} (a : Tc σ σ1) (b : Tc σ1 σ2) (ta : Tw κ σ κ1 σ1) (tb : Tw κ1 σ1 κ2 σ2) : Tc σ σ2 := by
  intro c h1 h2
  by_cases hc : c < rC σ1
  · obtain ⟨t, t1, t2, t3, t4⟩ := a c h1 hc
    exact ⟨t, (tb.2.2.2.2.2.2.2.2.2.2.2 c hc).2.2.2.2.trans t1, t2, Nat.lt_of_lt_of_le t3 tb.2.2.1, t4⟩
  · obtain ⟨t, t1, t2, t3, t4⟩ := b c (by omega) h2
    exact ⟨t, t1, Nat.le_trans ta.2.2.1 t2, t3, t4⟩
theorem VnR.tn {κ κ' : Km} {σ σ' : Rm} {b t v : Nat} (h : VnR κ b t v) (tn : Tn b κ σ κ' σ') (e : kL κ' 76 = kL κ 76) : VnR κ' b t v := by
  obtain ⟨h1, h2, h3⟩ := h
  refine ⟨Nat.lt_of_lt_of_le h1 tn.1, ?_, fun u hu => ?_⟩
  · rw [tn.2.2.1 v h1, e]; exact h2
  · rw [tn.2.2.1 u (by omega), e]; exact h3 u hu
/-- variables of the class are not more than names of the reference -/
theorem NF.cv {κ : Km} {σ : Rm} {b P : Nat} (h : NF κ σ b P) : cV κ b ≤ rV σ := by
  obtain ⟨E, D, h1, h2, h3, h4, h5, h6, h7, h8, h9, h10⟩ := h
  have l : D.length ≤ E.length := by rw [h1]; exact List.length_filter_le _ _
  have e1 : cV κ b = min 12 D.length := by unfold cV; rw [h4, cl_nI (by omega)]
  have e2 : rV σ = E.length := by unfold rV; rw [h8, cl_nI (by omega)]
  omega
theorem rT_lt {σ : Rm} : rT σ < 2147483648 := by
  unfold rT
  have := Int32.toNatClampNeg_lt (sI σ 29)
  omega
section EXT
variable {κF : Km} {σF : Rm} {vr br : Nat → Nat → Prop} {b : Nat} {κ κ1 κ2 : Km} {σ σ1 σ2 : Rm}
theorem Ext.left (h : Ext κF σF vr br b κ σ κ2 σ2) (ta : Tr b κ σ κ1 σ1) (tb : Tr b κ1 σ1 κ2 σ2) (ca : Tc σ σ1) (cb : Tc σ1 σ2) (nf : cV κ1 b ≤ rV σ1) : Ext κF σF vr br b κ σ κ1 σ1 := by
  obtain ⟨h1, h2, h3, h4, h5, h6, h7, h8, h9⟩ := h
  obtain ⟨b1, b2, b3, b4, b5, b6, b7, b8, b9, b10, b11, b12⟩ := tb.2.2.1
  have tn := tb.2.2.2
  refine ⟨fun k l1 l2 => ?_, fun k l1 l2 => ?_, fun k l1 l2 => ?_, fun k l1 l2 => ?_, fun k l1 l2 => ?_, fun k l1 l2 => ?_, fun c t hc hs l1 l2 e => ?_, ?_, fun t v hv => ?_⟩
  · have e := b7 k l2
    rw [← e.1, ← e.2]
    exact h1 k l1 (Nat.lt_of_lt_of_le l2 b1)
  · have e := b8 k l2
    rw [← e.1, ← e.2.1, ← e.2.2.1, ← e.2.2.2]
    exact h2 k l1 (Nat.lt_of_lt_of_le l2 b2)
  · have e := b9 k l2
    rw [← e.1, ← e.2]
    exact h3 k l1 (Nat.lt_of_lt_of_le l2 b5)
  · have e := b10 k l2
    rw [← e.1, ← e.2.1, ← e.2.2]
    exact h4 k l1 (Nat.lt_of_lt_of_le l2 b6)
  · have e := b11 k l2
    rw [← e.1, ← e.2]
    exact h5 k l1 (Nat.lt_of_lt_of_le l2 b3)
  · have e := b12 k l2
    rw [← e.1, ← e.2.1, ← e.2.2.1, ← e.2.2.2.1, ← e.2.2.2.2]
    exact h6 k l1 (Nat.lt_of_lt_of_le l2 b4)
  · obtain ⟨g1, g2⟩ := h7 c t hc hs l1 (Nat.lt_of_lt_of_le l2 b3) e
    refine ⟨g1, ?_⟩
    by_cases z : c < rC σ1
    · exact z
    · obtain ⟨t', t1, t2, t3, t4⟩ := cb c (by omega) g2
      have e2 : nI t = nI t' := by rw [← e, (h6 c g1 g2).2.2.2.2.1, t1]
      have l3 : rT σ1 < 1000 := by omega
      have e3 := (nI_eq (a := t) (b := t') (by omega) (by omega)).mp e2
      omega
  · have := tn.2.1
    omega
  · exact h9 t v (hv.tn tn (tb.1.1.1 76 (by unfold hP hE; omega)).2.1)
theorem Ext.right (h : Ext κF σF vr br b κ σ κ2 σ2) (ta : Tr b κ σ κ1 σ1) (tb : Tr b κ1 σ1 κ2 σ2) (ca : Tc σ σ1) (cb : Tc σ1 σ2) : Ext κF σF vr br b κ1 σ1 κ2 σ2 := by
  obtain ⟨h1, h2, h3, h4, h5, h6, h7, h8, h9⟩ := h
  obtain ⟨a1, a2, a3, a4, a5, a6, a7, a8, a9, a10, a11, a12⟩ := ta.2.2.1
  obtain ⟨b1, b2, b3, b4, b5, b6, b7, b8, b9, b10, b11, b12⟩ := tb.2.2.1
  refine ⟨fun k l1 l2 => h1 k (Nat.le_trans a1 l1) l2, fun k l1 l2 => h2 k (Nat.le_trans a2 l1) l2, fun k l1 l2 => h3 k (Nat.le_trans a5 l1) l2, fun k l1 l2 => h4 k (Nat.le_trans a6 l1) l2, fun k l1 l2 => h5 k (Nat.le_trans a3 l1) l2, fun k l1 l2 => h6 k (Nat.le_trans a4 l1) l2, fun c t hc hs l1 l2 e => ?_, h8, h9⟩
  obtain ⟨g1, g2⟩ := h7 c t hc hs (Nat.le_trans a3 l1) l2 e
  refine ⟨?_, g2⟩
  by_cases z : c < rC σ1
  · obtain ⟨t', t1, t2, t3, t4⟩ := ca c g1 z
    have e2 : nI t = nI t' := by rw [← e, (h6 c g1 g2).2.2.2.2.1, (b12 c z).2.2.2.2, t1]
    by_cases l3 : t < 2147483648
    · have e3 := (nI_eq (a := t) (b := t') l3 (by omega)).mp e2
      omega
    · have := rT_lt (σ := σ2)
      omega
  · omega
end EXT
/-- pending items that may stand around -/
def GC (κF : Km) (σF : Rm) (A : Pt → Prop) (b : Nat) (L : List Itm) : Prop := L.length ≤ 24 ∧ HL κF σF (Good2 κF σF A) b L
/-- a segment inside a statement: from d0 operands to d1 -/
def SG (B d0 d1 b : Nat) (κ : Km) (σ : Rm) (κ' : Km) (σ' : Rm) : Prop := ∀ (κF : Km) (σF : Rm) (vr br : Nat → Nat → Prop), Fnc σF vr br b → Ext κF σF vr br b κ σ κ' σ' → ∀ (A : Pt → Prop) (L : List Itm) (n : Nat), n ≤ B → GC κF σF A b L → Good2 κF σF A (b, iC κ', rJ σ', L, n + d1, 1) → Good2 κF σF A (b, iC κ, rJ σ, L, n + d0, 1)
def SG1 (B d0 d1 b : Nat) (κ : Km) (σ : Rm) (κ' : Km) (σ' : Rm) : Prop := ∀ (κF : Km) (σF : Rm) (vr br : Nat → Nat → Prop), Fnc σF vr br b → Ext κF σF vr br b κ σ κ' σ' → ∀ (A : Pt → Prop) (L : List Itm) (n : Nat), n ≤ B → GC κF σF A b L → Good2 κF σF A (b, iC κ', rJ σ', L, n + d1, 1) → Good1 κF σF A (b, iC κ, rJ σ, L, n + d0, 1)
theorem SG1.two {B d0 d1 b : Nat} {κ κ' : Km} {σ σ' : Rm} (h : SG1 B d0 d1 b κ σ κ' σ') : SG B d0 d1 b κ σ κ' σ' := fun κF σF vr br hf he A L n hn hg g => (h κF σF vr br hf he A L n hn hg g).two
/-- names in the acts of a range, as they lie at the end: LOADs and uses, STOREs and names, CALLs, NEWs and asks -/
def UsA (N : Nat) (κ' : Km) (σ' : Rm) (i0 i1 j0 j1 u0 u1 a0 a1 v0 v1 : Nat) : Prop :=
  (∀ k, i0 ≤ k → k < i1 → kI κ' 69 k = 2 → ∃ t u, t ≤ N ∧ kI κ' 70 k = -1 - nI t ∧ kI κ' 74 t = 2 ∧ u0 ≤ u ∧ u < u1 ∧ aI σ' 43 u = nI t) ∧
  (∀ u, u0 ≤ u → u < u1 → ∃ t k q, t ≤ N ∧ aI σ' 43 u = nI t ∧ kI κ' 74 t = 2 ∧ j0 ≤ q ∧ q < j1 ∧ aI σ' 42 u = nI q ∧ aI σ' 13 q = 2 ∧ i0 ≤ k ∧ k < i1 ∧ kI κ' 69 k = 2 ∧ kI κ' 70 k = -1 - nI t) ∧
  (∀ k, i0 ≤ k → k < i1 → kI κ' 69 k = 3 → ∃ t v, t ≤ N ∧ kI κ' 70 k = -1 - nI t ∧ kI κ' 74 t = 2 ∧ v < v1 ∧ aL σ' 24 v = aL σ' 9 t) ∧
  (∀ v, v0 ≤ v → v < v1 → ∃ t k, t ≤ N ∧ i0 ≤ k ∧ k < i1 ∧ kI κ' 69 k = 3 ∧ kI κ' 70 k = -1 - nI t ∧ kI κ' 74 t = 2 ∧ aL σ' 24 v = aL σ' 9 t) ∧
  (∀ k, i0 ≤ k → k < i1 → (kI κ' 69 k = 23 ∨ kI κ' 69 k = 24) → ∃ t m u q, t ≤ N ∧ m < 8 ∧ kI κ' 70 k = nI (8 * t + m) ∧ kI κ' 74 t = 2 ∧ a0 ≤ u ∧ u < a1 ∧ aI σ' 39 u = nI t ∧ aI σ' 40 u = nI m ∧ j0 ≤ q ∧ q < j1 ∧ aI σ' 38 u = nI q ∧ ((kI κ' 69 k = 23 ∧ aI σ' 13 q = 16) ∨ (kI κ' 69 k = 24 ∧ aI σ' 13 q = 20))) ∧
  (∀ u, a0 ≤ u → u < a1 → ∃ t m k q, t ≤ N ∧ m < 8 ∧ aI σ' 39 u = nI t ∧ aI σ' 40 u = nI m ∧ kI κ' 74 t = 2 ∧ j0 ≤ q ∧ q < j1 ∧ aI σ' 38 u = nI q ∧ i0 ≤ k ∧ k < i1 ∧ kI κ' 70 k = nI (8 * t + m) ∧ ((kI κ' 69 k = 23 ∧ aI σ' 13 q = 16) ∨ (kI κ' 69 k = 24 ∧ aI σ' 13 q = 20))) ∧
  (∀ u w, u0 ≤ u → u < w → w < u1 → ∃ q r, q < r ∧ j0 ≤ q ∧ r < j1 ∧ aI σ' 42 u = nI q ∧ aI σ' 42 w = nI r) ∧
  (∀ u w, a0 ≤ u → u < w → w < a1 → ∃ q r, q < r ∧ j0 ≤ q ∧ r < j1 ∧ aI σ' 38 u = nI q ∧ aI σ' 38 w = nI r)
section USA
variable {N b : Nat} {κ κ1 κ2 : Km} {σ σ1 σ2 : Rm} {i0 i1 i2 j0 j1 j2 u0 u1 u2 a0 a1 a2 v0 v1 v2 : Nat}
theorem UsA.nil {v : Nat} : UsA N κ σ i0 i0 j0 j1 u0 u0 a0 a0 v v := ⟨fun k h1 h2 => absurd h1 (by omega), fun k h1 h2 => absurd h1 (by omega), fun k h1 h2 => absurd h1 (by omega), fun k h1 h2 => absurd h1 (by omega), fun k h1 h2 => absurd h1 (by omega), fun k h1 h2 => absurd h1 (by omega), fun u w h1 h2 h3 => absurd h1 (by omega), fun u w h1 h2 h3 => absurd h1 (by omega)⟩
theorem UsA.v {v : Nat} (h : UsA N κ σ i0 i1 j0 j1 u0 u1 a0 a1 0 0) : UsA N κ σ i0 i1 j0 j1 u0 u1 a0 a1 v v := by
  obtain ⟨h1, h2, h3, h4, h5, h6, h78⟩ := h
  refine ⟨h1, h2, fun k l1 l2 e => ?_, fun k l1 l2 => absurd l1 (by omega), h5, h6, h78⟩
  obtain ⟨t, w, -, -, -, z, -⟩ := h3 k l1 l2 e
  exact absurd z (by omega)
theorem UsA.to {p1 q1 w1 b1 z1 : Nat} (x : UsA N κ σ i0 i1 j0 j1 u0 u1 a0 a1 v0 v1) (h : i1 = p1 ∧ u1 = w1 ∧ a1 = b1 ∧ v1 = z1 ∧ j1 ≤ q1) : UsA N κ σ i0 p1 j0 q1 u0 w1 a0 b1 v0 z1 := by
  obtain ⟨rfl, rfl, rfl, rfl, hj⟩ := h
  obtain ⟨x1, x2, x3, x4, x5, x6, x7, x8⟩ := x
  refine ⟨x1, fun k l1 l2 => ?_, x3, x4, fun k l1 l2 e => ?_, fun k l1 l2 => ?_, fun u w l1 l2 l3 => ?_, fun u w l1 l2 l3 => ?_⟩
  · obtain ⟨t, k', q, c1, c2, c3, c4, c5, c6⟩ := x2 k l1 l2
    exact ⟨t, k', q, c1, c2, c3, c4, by omega, c6⟩
  · obtain ⟨t, m, u, q, c1, c2, c3, c4, c5, c6, c7, c8, c9, c10, c11⟩ := x5 k l1 l2 e
    exact ⟨t, m, u, q, c1, c2, c3, c4, c5, c6, c7, c8, c9, by omega, c11⟩
  · obtain ⟨t, m, k', q, c1, c2, c3, c4, c5, c6, c7, c8⟩ := x6 k l1 l2
    exact ⟨t, m, k', q, c1, c2, c3, c4, c5, c6, by omega, c8⟩
  · obtain ⟨q, r, c1, c2, c3, c4⟩ := x7 u w l1 l2 l3
    exact ⟨q, r, c1, c2, by omega, c4⟩
  · obtain ⟨q, r, c1, c2, c3, c4⟩ := x8 u w l1 l2 l3
    exact ⟨q, r, c1, c2, by omega, c4⟩
theorem UsA.app {p1 q1 w1 b1 z1 : Nat} (x : UsA N κ σ i0 i1 j0 j1 u0 u1 a0 a1 v0 v1) (y : UsA N κ σ p1 i2 q1 j2 w1 u2 b1 a2 z1 v2) (h : p1 = i1 ∧ w1 = u1 ∧ b1 = a1 ∧ z1 = v1 ∧ j0 ≤ q1 ∧ j1 ≤ q1 ∧ j1 ≤ j2 ∧ i0 ≤ i1 ∧ i1 ≤ i2 ∧ u0 ≤ u1 ∧ u1 ≤ u2 ∧ a0 ≤ a1 ∧ a1 ≤ a2 ∧ v0 ≤ v1 ∧ v1 ≤ v2) : UsA N κ σ i0 i2 j0 j2 u0 u2 a0 a2 v0 v2 := by
  obtain ⟨rfl, rfl, rfl, rfl, g1, g0, g2, g3, g4, g5, g6, g7, g8, g9, g10⟩ := h
  obtain ⟨x1, x2, x3, x4, x5, x6, x7, x8⟩ := x
  obtain ⟨y1, y2, y3, y4, y5, y6, y7, y8⟩ := y
  refine ⟨fun k l1 l2 e => ?_, fun k l1 l2 => ?_, fun k l1 l2 e => ?_, fun k l1 l2 => ?_, fun k l1 l2 e => ?_, fun k l1 l2 => ?_, fun u w l1 l2 l3 => ?_, fun u w l1 l2 l3 => ?_⟩
  · by_cases c : k < p1
    · obtain ⟨t, u, c1, c2, c3, c4, c5, c6⟩ := x1 k l1 c e
      exact ⟨t, u, c1, c2, c3, c4, by omega, c6⟩
    · obtain ⟨t, u, c1, c2, c3, c4, c5, c6⟩ := y1 k (by omega) l2 e
      exact ⟨t, u, c1, c2, c3, by omega, c5, c6⟩
  · by_cases c : k < w1
    · obtain ⟨t, k', q, c1, c2, c3, c4, c5, c6, c7, c8, c9, c10⟩ := x2 k l1 c
      exact ⟨t, k', q, c1, c2, c3, c4, by omega, c6, c7, c8, by omega, c10⟩
    · obtain ⟨t, k', q, c1, c2, c3, c4, c5, c6, c7, c8, c9, c10⟩ := y2 k (by omega) l2
      exact ⟨t, k', q, c1, c2, c3, by omega, c5, c6, c7, by omega, c9, c10⟩
  · by_cases c : k < p1
    · obtain ⟨t, v, c1, c2, c3, c4, c5⟩ := x3 k l1 c e
      exact ⟨t, v, c1, c2, c3, by omega, c5⟩
    · exact y3 k (by omega) l2 e
  · by_cases c : k < z1
    · obtain ⟨t, k', c1, c2, c3, c4⟩ := x4 k l1 c
      exact ⟨t, k', c1, c2, by omega, c4⟩
    · obtain ⟨t, k', c1, c2, c3, c4⟩ := y4 k (by omega) l2
      exact ⟨t, k', c1, by omega, c3, c4⟩
  · by_cases c : k < p1
    · obtain ⟨t, m, u, q, c1, c2, c3, c4, c5, c6, c7, c8, c9, c10, c11⟩ := x5 k l1 c e
      exact ⟨t, m, u, q, c1, c2, c3, c4, c5, by omega, c7, c8, c9, by omega, c11⟩
    · obtain ⟨t, m, u, q, c1, c2, c3, c4, c5, c6, c7, c8, c9, c10, c11⟩ := y5 k (by omega) l2 e
      exact ⟨t, m, u, q, c1, c2, c3, c4, by omega, c6, c7, c8, by omega, c10, c11⟩
  · by_cases c : k < b1
    · obtain ⟨t, m, k', q, c1, c2, c3, c4, c5, c6, c7, c8, c9, c10, c11⟩ := x6 k l1 c
      exact ⟨t, m, k', q, c1, c2, c3, c4, c5, c6, by omega, c8, c9, by omega, c11⟩
    · obtain ⟨t, m, k', q, c1, c2, c3, c4, c5, c6, c7, c8, c9, c10, c11⟩ := y6 k (by omega) l2
      exact ⟨t, m, k', q, c1, c2, c3, c4, c5, by omega, c7, c8, by omega, c10, c11⟩
  · by_cases c : w < w1
    · obtain ⟨q, r, c1, c2, c3, c4⟩ := x7 u w l1 l2 c
      exact ⟨q, r, c1, c2, by omega, c4⟩
    · by_cases c' : u < w1
      · obtain ⟨-, -, q, -, -, -, q1', q2', q3', -⟩ := x2 u l1 c'
        obtain ⟨-, -, r, -, -, -, r1', r2', r3', -⟩ := y2 w (by omega) l3
        exact ⟨q, r, by omega, q1', r2', q3', r3'⟩
      · obtain ⟨q, r, c1, c2, c3, c4⟩ := y7 u w (by omega) l2 l3
        exact ⟨q, r, c1, by omega, c3, c4⟩
  · by_cases c : w < b1
    · obtain ⟨q, r, c1, c2, c3, c4⟩ := x8 u w l1 l2 c
      exact ⟨q, r, c1, c2, by omega, c4⟩
    · by_cases c' : u < b1
      · obtain ⟨-, -, -, q, -, -, -, -, -, q1', q2', q3', -⟩ := x6 u l1 c'
        obtain ⟨-, -, -, r, -, -, -, -, -, r1', r2', r3', -⟩ := y6 w (by omega) l3
        exact ⟨q, r, by omega, q1', r2', q3', r3'⟩
      · obtain ⟨q, r, c1, c2, c3, c4⟩ := y8 u w (by omega) l2 l3
        exact ⟨q, r, c1, by omega, c3, c4⟩
/-- an act that names nothing -/
theorem UsA.act {i : Nat} {a : Int32} (x : UsA N κ σ i0 i1 j0 j1 u0 u1 a0 a1 v0 v1) (e : kI κ 69 i = a) (ha : a ≠ 2 ∧ a ≠ 3 ∧ a ≠ 23 ∧ a ≠ 24) (h : i = i1 ∧ j1 ≤ j2 ∧ i0 ≤ i1 ∧ u0 ≤ u1 ∧ a0 ≤ a1 ∧ v0 ≤ v1 ∧ j0 ≤ j1) : UsA N κ σ i0 (i1 + 1) j0 j2 u0 u1 a0 a1 v0 v1 := by
  have y : UsA N κ σ i1 (i1 + 1) j1 j2 u1 u1 a1 a1 v1 v1 := by
    have f : ∀ k, i1 ≤ k → k < i1 + 1 → kI κ 69 k = a := fun k l1 l2 => by
      have : k = i := by omega
      rw [this]; exact e
    refine ⟨fun k l1 l2 z => absurd ((f k l1 l2).symm.trans z) ha.1, fun k l1 l2 => absurd l1 (by omega), fun k l1 l2 z => absurd ((f k l1 l2).symm.trans z) ha.2.1, fun k l1 l2 => absurd l1 (by omega), fun k l1 l2 z => ?_, fun k l1 l2 => absurd l1 (by omega), fun u w l1 l2 l3 => absurd l1 (by omega), fun u w l1 l2 l3 => absurd l1 (by omega)⟩
    rcases z with z | z
    · exact absurd ((f k l1 l2).symm.trans z) ha.2.2.1
    · exact absurd ((f k l1 l2).symm.trans z) ha.2.2.2
  exact x.app y ⟨rfl, rfl, rfl, rfl, h.2.2.2.2.2.2, Nat.le_refl _, h.2.1, h.2.2.1, by omega, h.2.2.2.1, Nat.le_refl _, h.2.2.2.2.1, Nat.le_refl _, h.2.2.2.2.2.1, Nat.le_refl _⟩
/-- a STORE: its name is known, or new -/
theorem UsA.sto {i t v : Nat} (x : UsA N κ σ i0 i1 j0 j1 u0 u1 a0 a1 v0 v1) (e : kI κ 69 i = 3) (e2 : kI κ 70 i = -1 - nI t) (ht : t ≤ N) (h2 : kI κ 74 t = 2) (hv : v < v2) (ev : aL σ 24 v = aL σ 9 t) (hn : v2 ≤ v1 + 1 ∧ (v2 = v1 + 1 → v = v1)) (h : i = i1 ∧ j1 ≤ j2 ∧ i0 ≤ i1 ∧ u0 ≤ u1 ∧ a0 ≤ a1 ∧ v0 ≤ v1 ∧ j0 ≤ j1 ∧ v1 ≤ v2) : UsA N κ σ i0 (i1 + 1) j0 j2 u0 u1 a0 a1 v0 v2 := by
  have y : UsA N κ σ i1 (i1 + 1) j1 j2 u1 u1 a1 a1 v1 v2 := by
    have f : ∀ k, i1 ≤ k → k < i1 + 1 → k = i := fun k l1 l2 => by omega
    refine ⟨fun k l1 l2 z => ?_, fun k l1 l2 => absurd l1 (by omega), fun k l1 l2 _ => ?_, fun w l1 l2 => ?_, fun k l1 l2 z => ?_, fun k l1 l2 => absurd l1 (by omega), fun u w l1 l2 l3 => absurd l1 (by omega), fun u w l1 l2 l3 => absurd l1 (by omega)⟩
    · rw [f k l1 l2, e] at z; exact absurd z (by decide)
    · rw [f k l1 l2]; exact ⟨t, v, ht, e2, h2, hv, ev⟩
    · have e3 : w = v := by have := hn.2 (by omega); omega
      rw [e3]; exact ⟨t, i, ht, by omega, by omega, e, e2, h2, ev⟩
    · rw [f k l1 l2, e] at z; rcases z with z | z <;> exact absurd z (by decide)
  exact x.app y ⟨rfl, rfl, rfl, rfl, h.2.2.2.2.2.2.1, Nat.le_refl _, h.2.1, h.2.2.1, by omega, h.2.2.2.1, Nat.le_refl _, h.2.2.2.2.1, Nat.le_refl _, h.2.2.2.2.2.1, h.2.2.2.2.2.2.2⟩
theorem UsA.rows (h : UsA N κ1 σ1 i0 i1 j0 j1 u0 u1 a0 a1 v0 v1) (hk : ∀ k, i0 ≤ k → k < i1 → kI κ2 69 k = kI κ1 69 k ∧ ((kI κ1 69 k = 2 ∨ kI κ1 69 k = 3 ∨ kI κ1 69 k = 23 ∨ kI κ1 69 k = 24) → kI κ2 70 k = kI κ1 70 k)) (hj : ∀ q, j0 ≤ q → q < j1 → aI σ2 13 q = aI σ1 13 q) (hu : ∀ u, u0 ≤ u → u < u1 → aI σ2 42 u = aI σ1 42 u ∧ aI σ2 43 u = aI σ1 43 u) (ha : ∀ u, a0 ≤ u → u < a1 → aI σ2 38 u = aI σ1 38 u ∧ aI σ2 39 u = aI σ1 39 u ∧ aI σ2 40 u = aI σ1 40 u) (hv : ∀ v, v < v1 → aL σ2 24 v = aL σ1 24 v) (e74 : kI κ2 74 = kI κ1 74) (e9 : aL σ2 9 = aL σ1 9) : UsA N κ2 σ2 i0 i1 j0 j1 u0 u1 a0 a1 v0 v1 := by
  obtain ⟨x1, x2, x3, x4, x5, x6, x7, x8⟩ := h
  refine ⟨fun k l1 l2 e => ?_, fun k l1 l2 => ?_, fun k l1 l2 e => ?_, fun k l1 l2 => ?_, fun k l1 l2 e => ?_, fun k l1 l2 => ?_, fun u w l1 l2 l3 => ?_, fun u w l1 l2 l3 => ?_⟩
  · have r := hk k l1 l2
    rw [r.1] at e
    obtain ⟨t, u, c1, c2, c3, c4, c5, c6⟩ := x1 k l1 l2 e
    exact ⟨t, u, c1, (r.2 (Or.inl e)).trans c2, by rw [e74]; exact c3, c4, c5, (hu u c4 c5).2.trans c6⟩
  · obtain ⟨t, k', q, c1, c2, c3, c4, c5, c6, c7, c8, c9, c10, c11⟩ := x2 k l1 l2
    have r := hk k' c8 c9
    exact ⟨t, k', q, c1, (hu k l1 l2).2.trans c2, by rw [e74]; exact c3, c4, c5, (hu k l1 l2).1.trans c6, (hj q c4 c5).trans c7, c8, c9, r.1.trans c10, (r.2 (Or.inl c10)).trans c11⟩
  · have r := hk k l1 l2
    rw [r.1] at e
    obtain ⟨t, v, c1, c2, c3, c4, c5⟩ := x3 k l1 l2 e
    exact ⟨t, v, c1, (r.2 (Or.inr (Or.inl e))).trans c2, by rw [e74]; exact c3, c4, by rw [e9, hv v c4]; exact c5⟩
  · obtain ⟨t, k', c1, c2, c3, c4, c5, c6, c7⟩ := x4 k l1 l2
    have r := hk k' c2 c3
    exact ⟨t, k', c1, c2, c3, r.1.trans c4, (r.2 (Or.inr (Or.inl c4))).trans c5, by rw [e74]; exact c6, by rw [e9, hv k l2]; exact c7⟩
  · have r := hk k l1 l2
    rw [r.1] at e
    obtain ⟨t, m, u, q, c1, c2, c3, c4, c5, c6, c7, c8, c9, c10, c11, c12⟩ := x5 k l1 l2 e
    have w := ha u c5 c6
    exact ⟨t, m, u, q, c1, c2, (r.2 (Or.inr (Or.inr e))).trans c3, by rw [e74]; exact c4, c5, c6, w.2.1.trans c7, w.2.2.trans c8, c9, c10, w.1.trans c11, by rw [r.1, hj q c9 c10]; exact c12⟩
  · obtain ⟨t, m, k', q, c1, c2, c3, c4, c5, c6, c7, c8, c9, c10, c11, c12⟩ := x6 k l1 l2
    have r := hk k' c9 c10
    have w := ha k l1 l2
    have e : kI κ1 69 k' = 23 ∨ kI κ1 69 k' = 24 := c12.elim (fun z => Or.inl z.1) (fun z => Or.inr z.1)
    exact ⟨t, m, k', q, c1, c2, w.2.1.trans c3, w.2.2.trans c4, by rw [e74]; exact c5, c6, c7, w.1.trans c8, c9, c10, (r.2 (Or.inr (Or.inr e))).trans c11, by rw [r.1, hj q c6 c7]; exact c12⟩
  · obtain ⟨q, r, c1, c2, c3, c4, c5⟩ := x7 u w l1 l2 l3
    exact ⟨q, r, c1, c2, c3, (hu u l1 (by omega)).1.trans c4, (hu w (by omega) l3).1.trans c5⟩
  · obtain ⟨q, r, c1, c2, c3, c4, c5⟩ := x8 u w l1 l2 l3
    exact ⟨q, r, c1, c2, c3, (ha u l1 (by omega)).1.trans c4, (ha w (by omega) l3).1.trans c5⟩
theorem UsA.step (h : UsA N κ1 σ1 i0 i1 j0 j1 u0 u1 a0 a1 v0 v1) (t : Tr b κ1 σ1 κ2 σ2) (hb : i1 ≤ iC κ1 ∧ j1 ≤ rJ σ1 ∧ u1 ≤ rU σ1 ∧ a1 ≤ rA σ1 ∧ v1 ≤ rV σ1) : UsA N κ2 σ2 i0 i1 j0 j1 u0 u1 a0 a1 v0 v1 := by
  obtain ⟨g1, g2, g3, g4, g5⟩ := hb
  obtain ⟨tf, af, ⟨b1, b2, b3, b4, b5, b6, b7, b8, b9, b10, b11, b12⟩, tn⟩ := t
  exact h.rows (fun k _ l2 => ⟨(b7 k (by omega)).1, fun _ => (b7 k (by omega)).2⟩) (fun q _ l2 => (b8 q (by omega)).1) (fun u _ l2 => b9 u (by omega)) (fun u _ l2 => b10 u (by omega)) (fun v l => tn.2.2.2.2.1 v (by omega)) (tf.1.1 74 (by unfold hP hE; omega)).1 (af 9 (by decide)).2
end USA
/-- catches, and names inside a statement -/
def Tu (N : Nat) (κ : Km) (σ : Rm) (κ' : Km) (σ' : Rm) : Prop := Tc σ σ' ∧ UsA N κ' σ' (iC κ) (iC κ') (rJ σ) (rJ σ') (rU σ) (rU σ') (rA σ) (rA σ') 0 0
/-- catches, and names of statements -/
def Ts (N : Nat) (κ : Km) (σ : Rm) (κ' : Km) (σ' : Rm) : Prop := Tc σ σ' ∧ UsA N κ' σ' (iC κ) (iC κ') (rJ σ) (rJ σ') (rU σ) (rU σ') (rA σ) (rA σ') (rV σ) (rV σ')
theorem Tu.trans {N b : Nat} {κ κ1 κ2 : Km} {σ σ1 σ2 : Rm} (x : Tu N κ σ κ1 σ1) (y : Tu N κ1 σ1 κ2 σ2) (ta : Tr b κ σ κ1 σ1) (tb : Tr b κ1 σ1 κ2 σ2) : Tu N κ σ κ2 σ2 := by
  refine ⟨x.1.trans y.1 ta.2.2.1 tb.2.2.1, (x.2.step tb ⟨Nat.le_refl _, Nat.le_refl _, Nat.le_refl _, Nat.le_refl _, Nat.zero_le _⟩).app y.2 ?_⟩
  obtain ⟨a1, a2, a3, a4, a5, a6, -⟩ := ta.2.2.1
  obtain ⟨b1, b2, b3, b4, b5, b6, -⟩ := tb.2.2.1
  exact ⟨rfl, rfl, rfl, rfl, a2, Nat.le_refl _, b2, a1, b1, a5, b5, a6, b6, Nat.le_refl _, Nat.le_refl _⟩
theorem Ts.trans {N b : Nat} {κ κ1 κ2 : Km} {σ σ1 σ2 : Rm} (x : Ts N κ σ κ1 σ1) (y : Ts N κ1 σ1 κ2 σ2) (ta : Tr b κ σ κ1 σ1) (tb : Tr b κ1 σ1 κ2 σ2) : Ts N κ σ κ2 σ2 := by
  refine ⟨x.1.trans y.1 ta.2.2.1 tb.2.2.1, (x.2.step tb ⟨Nat.le_refl _, Nat.le_refl _, Nat.le_refl _, Nat.le_refl _, Nat.le_refl _⟩).app y.2 ?_⟩
  have e1 := ta.2.2.2.2.2.2.1
  have e2 := tb.2.2.2.2.2.2.1
  obtain ⟨a1, a2, a3, a4, a5, a6, -⟩ := ta.2.2.1
  obtain ⟨b1, b2, b3, b4, b5, b6, -⟩ := tb.2.2.1
  exact ⟨rfl, rfl, rfl, rfl, a2, Nat.le_refl _, b2, a1, b1, a5, b5, a6, b6, e1, e2⟩
/-- nothing is named -/
theorem Tu.same {N : Nat} {κ κ' : Km} {σ σ' : Rm} (h : rC σ' = rC σ) (e1 : iC κ' = iC κ) (e2 : rU σ' = rU σ) (e3 : rA σ' = rA σ) : Tu N κ σ κ' σ' := ⟨Tc.same h, by rw [e1, e2, e3]; exact UsA.nil⟩
/-- one act, that names nothing -/
theorem Tu.one {N : Nat} {κ κ' : Km} {σ σ' : Rm} {a : Int32} (h : rC σ' = rC σ) (e1 : iC κ' = iC κ + 1) (e2 : rU σ' = rU σ) (e3 : rA σ' = rA σ) (e : kI κ' 69 (iC κ) = a) (ha : a ≠ 2 ∧ a ≠ 3 ∧ a ≠ 23 ∧ a ≠ 24) (hj : rJ σ ≤ rJ σ') : Tu N κ σ κ' σ' := ⟨Tc.same h, by rw [e1, e2, e3]; exact (UsA.nil (j1 := rJ σ')).act e ha ⟨rfl, Nat.le_refl _, Nat.le_refl _, Nat.le_refl _, Nat.le_refl _, Nat.le_refl _, hj⟩⟩
/-- both states and what was read between them -/
def ES (N b P B d0 d1 : Nat) (κ : Km) (σ : Rm) (κ' : Km) (σ' : Rm) : Prop := Ps κ' σ' N b P ∧ Tr b κ σ κ' σ' ∧ Tu N κ σ κ' σ' ∧ SG B d0 d1 b κ σ κ' σ'
def ES1 (N b P B d0 d1 : Nat) (κ : Km) (σ : Rm) (κ' : Km) (σ' : Rm) : Prop := Ps κ' σ' N b P ∧ Tr b κ σ κ' σ' ∧ Tu N κ σ κ' σ' ∧ SG1 B d0 d1 b κ σ κ' σ'
theorem ES1.two {N b P B d0 d1 : Nat} {κ κ' : Km} {σ σ' : Rm} (h : ES1 N b P B d0 d1 κ σ κ' σ') : ES N b P B d0 d1 κ σ κ' σ' := ⟨h.1, h.2.1, h.2.2.1, h.2.2.2.two⟩
section ES
variable {N b P B d0 d1 d2 : Nat} {κ κ1 κ2 : Km} {σ σ1 σ2 : Rm}
theorem ES.trans (x : ES N b P B d0 d1 κ σ κ1 σ1) (y : ES N b P B d1 d2 κ1 σ1 κ2 σ2) : ES N b P B d0 d2 κ σ κ2 σ2 := by
  refine ⟨y.1, x.2.1.trans y.2.1, x.2.2.1.trans y.2.2.1 x.2.1 y.2.1, fun κF σF vr br hf he A L n hn hg g => ?_⟩
  exact x.2.2.2 κF σF vr br hf (he.left x.2.1 y.2.1 x.2.2.1.1 y.2.2.1.1 x.1.1.2.2.2.2.cv) A L n hn hg (y.2.2.2 κF σF vr br hf (he.right x.2.1 y.2.1 x.2.2.1.1 y.2.2.1.1) A L n hn hg g)
theorem ES1.trans (x : ES1 N b P B d0 d1 κ σ κ1 σ1) (y : ES N b P B d1 d2 κ1 σ1 κ2 σ2) : ES1 N b P B d0 d2 κ σ κ2 σ2 := by
  refine ⟨y.1, x.2.1.trans y.2.1, x.2.2.1.trans y.2.2.1 x.2.1 y.2.1, fun κF σF vr br hf he A L n hn hg g => ?_⟩
  exact x.2.2.2 κF σF vr br hf (he.left x.2.1 y.2.1 x.2.2.1.1 y.2.2.1.1 x.1.1.2.2.2.2.cv) A L n hn hg (y.2.2.2 κF σF vr br hf (he.right x.2.1 y.2.1 x.2.2.1.1 y.2.2.1.1) A L n hn hg g)
/-- nothing is added -/
def TP (N b P : Nat) (κ : Km) (σ : Rm) (κ' : Km) (σ' : Rm) : Prop := Ps κ' σ' N b P ∧ Tr b κ σ κ' σ' ∧ iC κ' = iC κ ∧ rJ σ' = rJ σ ∧ rC σ' = rC σ ∧ rU σ' = rU σ ∧ rA σ' = rA σ
theorem TP.es (h : TP N b P κ σ κ1 σ1) : ES N b P B d0 d0 κ σ κ1 σ1 := ⟨h.1, h.2.1, Tu.same h.2.2.2.2.1 h.2.2.1 h.2.2.2.2.2.1 h.2.2.2.2.2.2, fun κF σF vr br _ _ A L n _ _ g => by rw [h.2.2.1, h.2.2.2.1] at g; exact g⟩
theorem TP.trans (x : TP N b P κ σ κ1 σ1) (y : TP N b P κ1 σ1 κ2 σ2) : TP N b P κ σ κ2 σ2 := ⟨y.1, x.2.1.trans y.2.1, y.2.2.1.trans x.2.2.1, y.2.2.2.1.trans x.2.2.2.1, y.2.2.2.2.1.trans x.2.2.2.2.1, y.2.2.2.2.2.1.trans x.2.2.2.2.2.1, y.2.2.2.2.2.2.trans x.2.2.2.2.2.2⟩
theorem TP.es1 (x : TP N b P κ σ κ1 σ1) (y : ES1 N b P B d0 d1 κ1 σ1 κ2 σ2) : ES1 N b P B d0 d1 κ σ κ2 σ2 := by
  refine ⟨y.1, x.2.1.trans y.2.1, (Tu.same x.2.2.2.2.1 x.2.2.1 x.2.2.2.2.2.1 x.2.2.2.2.2.2).trans y.2.2.1 x.2.1 y.2.1, fun κF σF vr br hf he A L n hn hg g => ?_⟩
  rw [← x.2.2.1, ← x.2.2.2.1]
  exact y.2.2.2 κF σF vr br hf (he.right x.2.1 y.2.1 (Tc.same x.2.2.2.2.1) y.2.2.1.1) A L n hn hg g
theorem ES.weak (h : ES N b P B d0 d1 κ σ κ1 σ1) {B' : Nat} (hb : B' ≤ B) : ES N b P B' d0 d1 κ σ κ1 σ1 := ⟨h.1, h.2.1, h.2.2.1, fun κF σF vr br hf he A L n hn hg g => h.2.2.2 κF σF vr br hf he A L n (by omega) hg g⟩
theorem ES1.weak (h : ES1 N b P B d0 d1 κ σ κ1 σ1) {B' : Nat} (hb : B' ≤ B) : ES1 N b P B' d0 d1 κ σ κ1 σ1 := ⟨h.1, h.2.1, h.2.2.1, fun κF σF vr br hf he A L n hn hg g => h.2.2.2 κF σF vr br hf he A L n (by omega) hg g⟩
/-- more operands lie beneath -/
theorem ES.up (h : ES N b P B d0 d1 κ σ κ1 σ1) {B' k : Nat} (hb : B' + k ≤ B) : ES N b P B' (d0 + k) (d1 + k) κ σ κ1 σ1 := ⟨h.1, h.2.1, h.2.2.1, fun κF σF vr br hf he A L n hn hg g => by
  have := h.2.2.2 κF σF vr br hf he A L (n + k) (by omega) hg
  rw [show n + k + d1 = n + (d1 + k) by omega, show n + k + d0 = n + (d0 + k) by omega] at this
  exact this g⟩
end ES
