/-! the pieces, one number at a time -/
section ATOMS
variable {κ0 κ κ' : Km} {σ0 σ σ' : Rm} {b V al S T T' sp z LT HT F0 v p n x x' q s : Nat} {st : Nat → Nat} {fr : Nat → List Frm} {pt : Nat → Nat} {fs : List Frm} {ch : List Nat} {y : Int32}
theorem kI_o {h k h' k' : Nat} {v : Int32} (c : h' ≠ h ∨ k' ≠ k) : kI (cI κ h k v) h' k' = kI κ h' k' := c.elim (fun c => congrFun (kI_ne c) k') kI_nk
theorem aI_o {h k h' k' : Nat} {v : Int32} (c : h' ≠ h ∨ k' ≠ k) : aI (wI σ h k v) h' k' = aI σ h' k' := c.elim (fun c => congrFun (aI_ne c) k') aI_ni
theorem aliv_un {s : Nat} (ha : s < 4 ↔ st n < 4) : ∀ m, aliv (un st n s) m = aliv st m := fun m => by
  unfold aliv
  by_cases c : m = n
  · rw [c, un_eq]
    by_cases d : st n < 4
    · rw [if_pos d, if_pos (ha.mpr d)]
    · rw [if_neg d, if_neg (fun z => d (ha.mp z))]
  · rw [un_ne c]
theorem Bn.sst (h : Bn κ0 σ0 κ σ b V al S T sp z LT HT F0 st fr pt x) (hs : s ≤ 6) (ha : s < 4 ↔ st n < 4) : Bn κ0 σ0 (cI κ (1002 + 8 * n) 1 (nI s)) (wI σ 49 n (nI s)) b V al S T sp z LT HT F0 (un st n s) fr pt x := by
  refine h.upd rfl (fun g h1 h2 h3 h4 h5 h6 => kI_ne (by omega)) (kI_o (Or.inl (by omega))) (fun m k hk => kI_o (Or.inr (by omega))) (kI_o (Or.inl (by omega))) (fun k hk => aI_ne (by omega)) rfl (h.2.1.cg (fun k hk => kI_o (Or.inl (by omega))) rfl (fun k hk => sI_ne (by omega))) (fun m m1 m2 => ?_) (aliv_un ha)
  by_cases c : m = n
  · subst c
    obtain ⟨v1, v2, v3, v4, v5, v6, v7, v8, v9⟩ := h.2.2.1 m m1 m2
    have e : ∀ k, k ≠ 1 → kI (cI κ (1002 + 8 * m) 1 (nI s)) (1002 + 8 * m) k = kI κ (1002 + 8 * m) k := fun k hk => kI_nk hk
    have a : ∀ k, k ≠ 49 → aI (wI σ 49 m (nI s)) k = aI σ k := fun k hk => aI_ne hk
    rw [un_eq]
    unfold Vof
    rw [e 0 (by decide), e 2 (by decide), e 3 (by decide), e 4 (by decide), e 5 (by decide), e 6 (by decide), e 7 (by decide), e 11 (by decide), a 19 (by decide), a 50 (by decide), a 51 (by decide), a 52 (by decide), a 53 (by decide), a 54 (by decide), a 55 (by decide), a 57 (by decide)]
    exact ⟨v1, ⟨kI_eq, aI_eq, hs⟩, v3, v4, v5, v6, v7, v8, v9⟩
  · rw [un_ne c]
    exact (h.2.2.1 m m1 m2).cg (fun k hk => kI_o (Or.inl (by omega))) (fun k h1 h2 => aI_o (Or.inr c)) (aI_ne (by decide))
theorem Bn.res (h : Bn κ0 σ0 κ σ b V al S T sp z LT HT F0 st fr pt x) (hy : y = -9 ∨ ∃ rm, rm ≤ V ∧ y = nI rm) : Bn κ0 σ0 (cI κ (1002 + 8 * n) 5 y) (wI σ 54 n y) b V al S T sp z LT HT F0 st fr pt x := by
  refine h.upd rfl (fun g h1 h2 h3 h4 h5 h6 => kI_ne (by omega)) (kI_o (Or.inl (by omega))) (fun m k hk => kI_o (Or.inr (by omega))) (kI_o (Or.inl (by omega))) (fun k hk => aI_ne (by omega)) rfl (h.2.1.cg (fun k hk => kI_o (Or.inl (by omega))) rfl (fun k hk => sI_ne (by omega))) (fun m m1 m2 => ?_) (fun _ => rfl)
  by_cases c : m = n
  · subst c
    obtain ⟨v1, v2, v3, v4, v5, v6, v7, v8, v9⟩ := h.2.2.1 m m1 m2
    have e : ∀ k, k ≠ 5 → kI (cI κ (1002 + 8 * m) 5 y) (1002 + 8 * m) k = kI κ (1002 + 8 * m) k := fun k hk => kI_nk hk
    have a : ∀ k, k ≠ 54 → aI (wI σ 54 m y) k = aI σ k := fun k hk => aI_ne hk
    unfold Vof
    rw [e 0 (by decide), e 1 (by decide), e 2 (by decide), e 3 (by decide), e 4 (by decide), e 6 (by decide), e 7 (by decide), e 11 (by decide), a 19 (by decide), a 49 (by decide), a 50 (by decide), a 51 (by decide), a 52 (by decide), a 53 (by decide), a 55 (by decide), a 57 (by decide), kI_eq, aI_eq]
    exact ⟨v1, v2, v3, v4, v5, ⟨rfl, hy⟩, v7, v8, v9⟩
  · exact (h.2.2.1 m m1 m2).cg (fun k hk => kI_o (Or.inl (by omega))) (fun k h1 h2 => aI_o (Or.inr c)) (aI_ne (by decide))
theorem Bn.clo (h : Bn κ0 σ0 κ σ b V al S T sp z LT HT F0 st fr pt x) : Bn κ0 σ0 (cI κ (1002 + 8 * n) 11 1) (wI σ 57 n 1) b V al S T sp z LT HT F0 st fr pt x := by
  refine h.upd rfl (fun g h1 h2 h3 h4 h5 h6 => kI_ne (by omega)) (kI_o (Or.inl (by omega))) (fun m k hk => kI_o (Or.inr (by omega))) (kI_o (Or.inl (by omega))) (fun k hk => aI_ne (by omega)) rfl (h.2.1.cg (fun k hk => kI_o (Or.inl (by omega))) rfl (fun k hk => sI_ne (by omega))) (fun m m1 m2 => ?_) (fun _ => rfl)
  by_cases c : m = n
  · subst c
    obtain ⟨v1, v2, v3, v4, v5, v6, v7, v8, v9⟩ := h.2.2.1 m m1 m2
    have e : ∀ k, k ≠ 11 → kI (cI κ (1002 + 8 * m) 11 1) (1002 + 8 * m) k = kI κ (1002 + 8 * m) k := fun k hk => kI_nk hk
    have a : ∀ k, k ≠ 57 → aI (wI σ 57 m 1) k = aI σ k := fun k hk => aI_ne hk
    unfold Vof
    rw [e 0 (by decide), e 1 (by decide), e 2 (by decide), e 3 (by decide), e 4 (by decide), e 5 (by decide), e 6 (by decide), e 7 (by decide), a 19 (by decide), a 49 (by decide), a 50 (by decide), a 51 (by decide), a 52 (by decide), a 53 (by decide), a 54 (by decide), a 55 (by decide), kI_eq, aI_eq]
    exact ⟨v1, v2, v3, v4, v5, v6, v7, v8, 1, Nat.le_refl _, rfl, rfl⟩
  · exact (h.2.2.1 m m1 m2).cg (fun k hk => kI_o (Or.inl (by omega))) (fun k h1 h2 => aI_o (Or.inr c)) (aI_ne (by decide))
theorem Bn.turn (h : Bn κ0 σ0 κ σ b V al S T sp z LT HT F0 st fr pt x) (hT : T' ≤ V) : Bn κ0 σ0 (cI κ 79 13 (nI T')) (wS σ 77 (nI T')) b V al S T' sp z LT HT F0 st fr pt x := by
  obtain ⟨s1, s2, s3, s4, s5, s6, s7, s8, s9, s10, s11, s12, s13, s14, s15⟩ := h.2.1
  refine h.upd rfl (fun g h1 h2 h3 h4 h5 h6 => kI_ne (by omega)) (kI_o (Or.inl (by omega))) (fun m k hk => kI_o (Or.inl (by omega))) (kI_o (Or.inr (by omega))) (fun k hk => aI_ne (by omega)) rfl ?_ (fun m m1 m2 => (h.2.2.1 m m1 m2).cg (fun k hk => kI_o (Or.inl (by omega))) (fun k h1 h2 => aI_o (Or.inl (by omega))) (aI_ne (by decide))) (fun _ => rfl)
  have e : ∀ k, k ≠ 13 → kI (cI κ 79 13 (nI T')) 79 k = kI κ 79 k := fun k hk => kI_nk hk
  have a : ∀ k, k ≠ 77 → sI (wS σ 77 (nI T')) k = sI σ k := fun k hk => sI_ne hk
  unfold Stg
  rw [e 8 (by decide), e 10 (by decide), e 11 (by decide), e 12 (by decide), e 16 (by decide), e 17 (by decide), kI_eq, a 47 (by decide), a 48 (by decide), a 75 (by decide), a 76 (by decide), a 79 (by decide), sI_eq]
  exact ⟨s1, s2, s3, ⟨rfl, rfl⟩, s5, s6, s7, s8, s9, s10, s11, s12, hT, s14, s15⟩
theorem Bn.giv (h : Bn κ0 σ0 κ σ b V al S T sp z LT HT F0 st fr pt x) : Bn κ0 σ0 (cI κ 79 16 y) (wS σ 79 y) b V al S T sp z LT HT F0 st fr pt x := by
  obtain ⟨s1, s2, s3, s4, s5, s6, s7, s8⟩ := h.2.1
  refine h.upd rfl (fun g h1 h2 h3 h4 h5 h6 => kI_ne (by omega)) (kI_o (Or.inl (by omega))) (fun m k hk => kI_o (Or.inl (by omega))) (kI_o (Or.inr (by omega))) (fun k hk => aI_ne (by omega)) rfl ?_ (fun m m1 m2 => (h.2.2.1 m m1 m2).cg (fun k hk => kI_o (Or.inl (by omega))) (fun k h1 h2 => aI_o (Or.inl (by omega))) (aI_ne (by decide))) (fun _ => rfl)
  have e : ∀ k, k ≠ 16 → kI (cI κ 79 16 y) 79 k = kI κ 79 k := fun k hk => kI_nk hk
  have a : ∀ k, k ≠ 79 → sI (wS σ 79 y) k = sI σ k := fun k hk => sI_ne hk
  unfold Stg
  rw [e 8 (by decide), e 10 (by decide), e 11 (by decide), e 12 (by decide), e 13 (by decide), e 17 (by decide), kI_eq, a 47 (by decide), a 48 (by decide), a 75 (by decide), a 76 (by decide), a 77 (by decide), sI_eq]
  exact ⟨s1, s2, s3, s4, rfl, s6, s7, s8⟩
theorem Bn.spe (h : Bn κ0 σ0 κ σ b V al S T sp z LT HT F0 st fr pt x) : Bn κ0 σ0 (cI κ 79 17 1) (wS σ 76 1) b V al S T sp 1 LT HT F0 st fr pt x := by
  obtain ⟨s1, s2, s3, s4, s5, s6, s7, s8, s9, s10, s11, s12, s13, s14, s15⟩ := h.2.1
  refine h.upd rfl (fun g h1 h2 h3 h4 h5 h6 => kI_ne (by omega)) (kI_o (Or.inl (by omega))) (fun m k hk => kI_o (Or.inl (by omega))) (kI_o (Or.inr (by omega))) (fun k hk => aI_ne (by omega)) rfl ?_ (fun m m1 m2 => (h.2.2.1 m m1 m2).cg (fun k hk => kI_o (Or.inl (by omega))) (fun k h1 h2 => aI_o (Or.inl (by omega))) (aI_ne (by decide))) (fun _ => rfl)
  have e : ∀ k, k ≠ 17 → kI (cI κ 79 17 1) 79 k = kI κ 79 k := fun k hk => kI_nk hk
  have a : ∀ k, k ≠ 76 → sI (wS σ 76 1) k = sI σ k := fun k hk => sI_ne hk
  unfold Stg
  rw [e 8 (by decide), e 10 (by decide), e 11 (by decide), e 12 (by decide), e 13 (by decide), e 16 (by decide), kI_eq, a 47 (by decide), a 48 (by decide), a 75 (by decide), a 77 (by decide), a 79 (by decide), sI_eq]
  exact ⟨s1, s2, s3, s4, s5, s6, ⟨rfl, rfl⟩, s8, s9, s10, s11, s12, s13, s14, Nat.le_refl _⟩
/-- numbers of which the relation says nothing -/
theorem Bn.kx {g k : Nat} (h : Bn κ0 σ0 κ σ b V al S T sp z LT HT F0 st fr pt x) (c : (g = 79 ∧ (k = 14 ∨ k = 15)) ∨ (g = 84 ∧ k ≠ 1) ∨ g = 86 ∨ g = 87 ∨ g = 88) : Bn κ0 σ0 (cI κ g k y) σ b V al S T sp z LT HT F0 st fr pt x :=
  h.upd rfl (fun g h1 h2 h3 h4 h5 h6 => kI_ne (by omega)) (kI_o (by omega)) (fun m k hk => kI_o (Or.inl (by omega))) (kI_o (by omega)) (fun k hk => rfl) rfl (h.2.1.cg (fun k hk => kI_o (by omega)) rfl (fun _ _ => rfl)) (fun m m1 m2 => (h.2.2.1 m m1 m2).cg (fun k hk => kI_o (Or.inl (by omega))) (fun k h1 h2 => rfl) rfl) (fun _ => rfl)
theorem Bn.rx {k i : Nat} (h : Bn κ0 σ0 κ σ b V al S T sp z LT HT F0 st fr pt x) (c : k = 56 ∨ k = 78 ∨ k = 97 ∨ 99 ≤ k) : Bn κ0 σ0 κ (wI σ k i y) b V al S T sp z LT HT F0 st fr pt x := by
  obtain ⟨⟨⟨k1, k2, k3⟩, sta, rg⟩, a4, a5, a7, a8, a9, a10⟩ := h
  refine ⟨⟨⟨k1, ⟨k2.1, k2.2.cg (Nat.le_refl _) (fun _ _ _ => rfl) rfl (fun k' hk => aI_ne (by omega))⟩, fun k' h1 h2 => ?_⟩, sta, rg⟩, a4.cg (fun _ _ => rfl) rfl (fun k' hk => sI_ne (by omega)), fun m m1 m2 => ?_, a7.cg rfl (aI_ne (by omega)) (fun _ => rfl), a8.cg (fun _ _ => ⟨rfl, rfl⟩) rfl (fun k' h1 h2 => aI_ne (by omega)), a9.fr rfl rfl rfl (fun k' h1 h2 => aI_ne (by omega)), fun m m1 m2 => (a10 m m1 m2).cg (fun _ _ => rfl) rfl rfl (Nat.le_refl _) (fun k' h1 h2 => aI_ne (by omega))⟩
  · rw [aI_ne (by omega)]
    exact k3 k' h1 h2
  · have hv := a5 m m1 m2
    have a : ∀ k', k' ≠ k → aI (wI σ k i y) k' = aI σ k' := fun k' hk => aI_ne hk
    unfold Vof
    rw [a 19 (by omega), a 49 (by omega), a 50 (by omega), a 51 (by omega), a 52 (by omega), a 53 (by omega), a 54 (by omega), a 55 (by omega), a 57 (by omega)]
    exact hv
theorem Bn.fin (h : Bn κ0 σ0 κ σ b V al S T sp z LT HT F0 st fr pt x) : Bn κ0 σ0 (fiK κ v) (fiR σ v) b V al S T sp z LT HT F0 st fr pt x := by
  refine h.upd rfl (fun g h1 h2 h3 h4 h5 h6 => kI_ne (by omega)) (kI_o (Or.inl (by omega))) (fun m k hk => kI_o (Or.inr (by omega))) (kI_o (Or.inl (by omega))) (fun k hk => aI_ne (by omega)) rfl (h.2.1.cg (fun k hk => kI_o (Or.inl (by omega))) rfl (fun k hk => sI_ne (by omega))) (fun m m1 m2 => ?_) (fun _ => rfl)
  obtain ⟨v1, v2, v3, v4, v5, v6, v7, v8, v9⟩ := h.2.2.1 m m1 m2
  have e : ∀ k, k ≠ 7 → kI (fiK κ v) (1002 + 8 * m) k = kI κ (1002 + 8 * m) k := fun k hk => kI_o (Or.inr hk)
  have a : ∀ k, k ≠ 53 → aI (fiR σ v) k = aI σ k := fun k hk => fiR_k hk
  unfold Vof
  rw [e 0 (by decide), e 1 (by decide), e 2 (by decide), e 3 (by decide), e 4 (by decide), e 5 (by decide), e 6 (by decide), e 11 (by decide), a 19 (by decide), a 49 (by decide), a 50 (by decide), a 51 (by decide), a 52 (by decide), a 54 (by decide), a 55 (by decide), a 57 (by decide)]
  refine ⟨v1, v2, v3, v4, v5, v6, v7, ?_, v9⟩
  by_cases c : m = v
  · rw [c] at v8 ⊢
    rw [fiK_7, fiR_v, v8]
  · rw [fiK_h (by omega), fiR_n c]
    exact v8
/-- a voice's calls are others -/
theorem Cls.vo (h : Cls κ σ n fs q x) (hn : n ≠ v) (hn1 : 1 ≤ n) (hx : x = 0 ∨ x = v) (hq : fs ≠ [] → q ≠ p) (ko : Vo v κ κ') (ro : Ro p σ σ') : Cls κ' σ' n fs q x' := by
  have e1 := ko.h (vh hn).1 (vh hn).2.1
  have e2 := ko.h (vh hn).2.2.1 (vh hn).2.2.2
  rcases h with ⟨h1, h2, h3, h4⟩ | ⟨h1, h2, h3, h4⟩
  · exact Or.inl ⟨h1, by rw [e2.2.2]; exact h2, by rw [ro.s (by decide)]; exact h3, by rw [e1.1]; exact h4⟩
  · refine Or.inr ⟨h1, h2.fr e1.1 e2.1 e2.2.2 (by rw [ko.1.2.2.2]; exact Nat.le_refl _), Or.inl ?_, by rw [ro.s (by decide)]; exact h4⟩
    rcases h3 with z | z
    · exact z.ro (hq h1) ro
    · exact absurd z.1 (by omega)
theorem Bn.loc (h : Bn κ0 σ0 κ σ b V al S T sp z LT HT F0 st fr pt x) (hv : 1 ≤ v ∧ v ≤ V) (hx : x = 0 ∨ x = v) (ko : Vo v κ κ') (ro : Ro (pt v) σ σ') (vk : VK κ' v fs) (vr : VR σ' v (pt v) fs ∨ (v = x' ∧ VRx σ' v (pt v) fs)) (h59 : aI σ 59 (pt v) = 1) (h1 : fr v ≠ []) (h2 : fs ≠ []) : Bn κ0 σ0 κ' σ' b V al S T sp z LT HT F0 st (un fr v fs) pt x' := by
  obtain ⟨⟨a1, a2, a3⟩, a4, a5, a7, a8, a9, a10⟩ := h
  refine ⟨⟨a1.vo (by omega) ko ro, a2, a3.trans ko.2.1⟩, a4.vo ko ro, fun n n1 n2 => (a5 n n1 n2).vo ko ro, a7.vo hv ko ro h1 h2, a8.vo ko ro, a9.vo ko ro, fun n n1 n2 => ?_⟩
  by_cases c : n = v
  · rw [c, un_eq]
    exact Or.inr ⟨h2, vk, vr, by rw [ro.s (by decide)]; exact h59⟩
  · rw [un_ne c]
    exact (a10 n n1 n2).vo c n1 hx (fun z => a7.2.2.2.2.1 n v n1 n2 hv.1 hv.2 c z h1) ko ro
end ATOMS
