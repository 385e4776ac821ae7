/-! a finally more -/
section FINS
variable {X : Cx} {d e : Nat} {κ0 κ κ' : Km} {σ0 σ σ' : Rm} {b V al S T LT HT sp F0 z v p x n : Nat} {st : Nat → Nat} {fr : Nat → List Frm} {pt : Nat → Nat} {ch : List Nat} {w rz : Nat → Nat} {r fs : List Frm} {f f' : Frm}
def fiK (κ : Km) (v : Nat) : Km := cI κ (1002 + 8 * v) 7 (kI κ (1002 + 8 * v) 7 + 1)
def fiR (σ : Rm) (v : Nat) : Rm := wI σ 53 v (aI σ 53 v + 1)
theorem fiK_h {g : Nat} (h2 : g ≠ 1002 + 8 * v) : kI (fiK κ v) g = kI κ g := by
  unfold fiK
  rw [kI_ne h2]
theorem fiK_v {k : Nat} (h : k ≠ 7) : kI (fiK κ v) (1002 + 8 * v) k = kI κ (1002 + 8 * v) k := by
  unfold fiK
  rw [kI_nk h]
theorem fiK_7 : kI (fiK κ v) (1002 + 8 * v) 7 = kI κ (1002 + 8 * v) 7 + 1 := by
  unfold fiK
  rw [kI_eq]
theorem fiR_k {k : Nat} (h : k ≠ 53) : aI (fiR σ v) k = aI σ k := by
  unfold fiR
  rw [aI_ne h]
theorem fiR_n {n : Nat} (h : n ≠ v) : aI (fiR σ v) 53 n = aI σ 53 n := by
  unfold fiR
  rw [aI_ni h]
theorem fiR_v : aI (fiR σ v) 53 v = aI σ 53 v + 1 := by
  unfold fiR
  rw [aI_eq]
theorem Vo.fin (ko : Vo v κ κ') : Vo v (fiK κ v) (fiK κ' v) := by
  refine ⟨⟨fun h hh => ?_, ko.1.2⟩, ko.2.1, fun k h1 h2 h3 h4 h5 => ?_⟩
  · obtain ⟨e1, e2, e3⟩ := ko.1.1 h hh
    have hv : h ≠ 1002 + 8 * v := fun z => hh (Or.inl z)
    exact ⟨by rw [fiK_h hv, fiK_h hv, e1], e2, e3⟩
  · have e := ko.2.2 k h1 h2 h3 h4 h5
    by_cases c : k = 7
    · rw [c] at e ⊢
      rw [fiK_7, fiK_7, e]
    · rw [fiK_v c, fiK_v c, e]
theorem Ro.fin (ro : Ro p σ σ') : Ro p (fiR σ v) (fiR σ' v) := by
  refine ⟨fun k hk => ?_, ro.2.1, fun k i h1 h2 h3 => ?_⟩
  · by_cases c : k = 53
    · rw [c]
      funext i
      have e := congrFun (ro.s (k := 53) (by decide))
      by_cases c2 : i = v
      · rw [c2, fiR_v, fiR_v, e]
      · rw [fiR_n c2, fiR_n c2, e]
    · rw [fiR_k c, fiR_k c]; exact ro.1 k hk
  · rw [fiR_k (by omega), fiR_k (by omega)]
    exact ro.2.2 k i h1 h2 h3
theorem RelM.fin (h : RelM κ0 σ0 κ σ b V al S T sp z LT HT F0 st fr pt ch) (hv : 1 ≤ v ∧ v ≤ V) : RelM κ0 σ0 (fiK κ v) (fiR σ v) b V al S T sp z LT HT F0 st fr pt ch := by
  obtain ⟨⟨⟨k1, k2, k3⟩, sta, rg0⟩, a4, a5, a6, a7, a8, a9⟩ := h
  have es : ∀ k, k ≠ 53 → sI (fiR σ v) k = sI σ k := fun k h1 => congrFun (fiR_k h1) 0
  have ek : ∀ m k, k = 1 ∨ k = 10 → kI (fiK κ v) (1002 + 8 * m) k = kI κ (1002 + 8 * m) k := fun m k hk => by
    by_cases c : m = v
    · subst c; exact fiK_v (by omega)
    · rw [fiK_h (by omega)]
  refine ⟨⟨⟨fun g hg => ?_, ⟨k2.1, k2.2.cg (Nat.le_refl _) ek (by rw [fiK_h (by omega)]) (fun k hk => fiR_k (by omega))⟩, fun k h1 h2 => ?_⟩, sta, rg0.trans RG.cI⟩, ?_, fun n n1 n2 => ?_, a6.cg (fiR_k (by decide)) (fiR_k (by decide)) (fiR_k (by decide)), ?_, ?_, a9.fr (by rw [fiK_h (by omega)]) (fiK_h (by omega)) rfl (fun k h1 h2 => fiR_k (by omega))⟩
  · have hg' := hg
    unfold hCd at hg'
    rw [fiK_h (by omega)]
    exact k1 g hg
  · rw [fiR_k (by omega)]
    exact k3 k h1 h2
  · unfold Stg
    rw [fiK_h (g := 79) (by omega), es 47 (by decide), es 48 (by decide), es 75 (by decide), es 76 (by decide), es 77 (by decide), es 79 (by decide)]
    exact a4
  · obtain ⟨v1, v2, v3, v4, v5, v6, v7, v8, v9⟩ := a5 n n1 n2
    have e : ∀ k, k ≠ 7 → kI (fiK κ v) (1002 + 8 * n) k = kI κ (1002 + 8 * n) k := fun k hk => by
      by_cases c : n = v
      · rw [c, fiK_v hk]
      · rw [fiK_h (by omega)]
    unfold Vof
    rw [e 0 (by decide), e 1 (by decide), e 2 (by decide), e 3 (by decide), e 4 (by decide), e 5 (by decide), e 6 (by decide), e 11 (by decide), fiR_k (k := 19) (by decide), fiR_k (k := 49) (by decide), fiR_k (k := 50) (by decide), fiR_k (k := 51) (by decide), fiR_k (k := 52) (by decide), fiR_k (k := 54) (by decide), fiR_k (k := 55) (by decide), fiR_k (k := 57) (by decide)]
    refine ⟨v1, v2, v3, v4, v5, v6, v7, ?_, v9⟩
    by_cases c : n = v
    · rw [c] at v8 ⊢
      rw [fiK_7, fiR_v, v8]
    · rw [fiK_h (by omega), fiR_n c]; exact v8
  · obtain ⟨r1, r2, r3, r4, r5, r6⟩ := a7
    refine ⟨r1, r2, r3, r4, r5, fun q hq => ?_⟩
    rw [fiR_k (by decide)]
    exact r6 q hq
  · obtain ⟨⟨g1, a1, a2⟩, ⟨g2, b1, b2⟩, R, c0, c1, c2, c3, c4⟩ := a8
    refine ⟨⟨g1, a1.fr (fiK_h (by omega)) (fiK_h (by omega)) rfl, a2.fr (fiR_k (by decide)) (fiR_k (by decide)) (fiR_k (by decide))⟩, ⟨g2, b1.fr (fiK_h (by omega)) (fiK_h (by omega)) rfl, b2.fr (fiR_k (by decide)) (fiR_k (by decide)) (fiR_k (by decide))⟩, R, ?_⟩
    rw [fiK_h (g := 79) (by omega), fiK_h (g := 91) (by omega), es 87 (by decide), fiR_k (k := 86) (by decide)]
    exact ⟨c0, c1, c2, c3, c4⟩
theorem VK.fin (h : VK κ v fs) : VK (fiK κ v) v fs := h.reg (by decide)
theorem Rn.fin (h : Rn κ0 σ0 κ σ b V al S LT HT sp F0 st fr pt ch w v f r) : Rn κ0 σ0 (fiK κ v) (fiR σ v) b V al S LT HT sp F0 st fr pt ch w v f r := by
  obtain ⟨⟨a1, a2⟩, ⟨b1, b2, b3, b4, b5⟩, ⟨c1, c2, c3⟩, d1, e1, g1⟩ := h
  exact ⟨⟨a1.fin ⟨b1, b2⟩, fun n n1 n2 hn => (a2 n n1 n2 hn).cg (fiK_h (by omega)) (fiK_h (by omega)) rfl (Nat.le_refl _) (fun k h1 h2 _ => fiR_k (by omega)) (Nat.le_refl _)⟩, ⟨b1, b2, b3, b4, by rw [fiK_h (by omega)]; exact b5⟩, ⟨c1.fin, c2.cg (fun k h1 h2 _ => fiR_k (by omega)), by rw [fiR_k (by decide)]; exact c3⟩, d1, e1, g1.cg (fiK_h (by omega)) (fun h h1 h2 => ⟨fiK_h (by omega), rfl⟩) (fun k h1 h2 => fiR_k (by omega))⟩
end FINS
