/-! arguments of a body -/
theorem mnB {w P q f : Nat} : min (min (min w P) q) f = min (min (min w f) P) q := by omega
section ARG
variable {X : Cx} {N b P : Nat} {κ κ' : Km} {σ σ' : Rm}
/-- both find a name among few ones, or none does -/
theorem Ps.fnd (h : Ps κ σ N b P) (h2 : kI κ 72 7 = 2) (h12 : rV σ ≤ 12) : (∃ i, i < cV κ b ∧ kL κ (1001 + 8 * b) i = kL κ 76 (pC κ)) ↔ ∃ u, u < rV σ ∧ aL σ 24 u = aL σ 9 (pC κ) := by
  obtain ⟨E, D, n1, n2, n3, n4, n5, n6, n7, n8, nE, n9, n10⟩ := h.1.2.2.2.2
  have tk := h.1.1
  have ht2 : kI κ 74 (pC κ) = 2 := by rw [← h.2.2.1]; exact h2
  have hpN : pC κ ≤ N := h.2.2.2.2.2.1
  have nmt := tk.nm hpN ht2
  have nmD : ∀ s, s ∈ D → NmR (kL κ 76 s) (aL σ 9 s) := fun s hs => tk.nm (Nat.le_trans (n2 s hs).1 hpN) (n2 s hs).2
  have eV : rV σ = E.length := by unfold rV; rw [n8, cl_nI (by omega)]
  have lDE : D.length ≤ E.length := by rw [n1]; exact List.length_filter_le _ _
  have ecV : cV κ b = D.length := by unfold cV; rw [n4, cl_nI (by omega)]; omega
  have memD : ∀ s, s ∈ D ↔ s ∈ E ∧ s < 4000 := fun s => by rw [n1, List.mem_filter]; simp
  constructor
  · rintro ⟨i, i1, i2⟩
    have hs : D[i]? = some (D[i]'(by omega)) := List.getElem?_eq_getElem (by omega)
    have hm := List.mem_of_getElem? hs
    rw [n6 i _ (by omega) hs] at i2
    obtain ⟨j, hj⟩ := List.mem_iff_getElem?.mp ((memD _).mp hm).1
    have e := n9 j _ hj
    rw [if_pos ((memD _).mp hm).2] at e
    exact ⟨j, by rw [eV]; exact (List.getElem?_eq_some_iff.mp hj).1, e.trans (((nmD _ hm).iff nmt).mp i2)⟩
  · rintro ⟨u, u1, u2⟩
    have hs : E[u]? = some (E[u]'(by omega)) := List.getElem?_eq_getElem (by omega)
    have e := n9 u _ hs
    by_cases c : E[u]'(by omega) < 4000
    · rw [if_pos c] at e
      have hm : E[u]'(by omega) ∈ D := (memD _).mpr ⟨List.mem_of_getElem? hs, c⟩
      obtain ⟨i, hi⟩ := List.mem_iff_getElem?.mp hm
      have li := (List.getElem?_eq_some_iff.mp hi).1
      refine ⟨i, by omega, ?_⟩
      rw [n6 i _ (by omega) hi]
      exact ((nmD _ hm).iff nmt).mpr (e.symm.trans u2)
    · rw [if_neg c] at e
      exact absurd (u2.symm.trans e) nmt.ne.1
/-- a name that is called as one before it -/
def dp (σ : Rm) (t : Nat) : Rm := wS (wL (bl σ t) 24 (rV σ) 0) 25 (nI (rV σ + 1))
theorem bl_s {t k : Nat} (hk : k ≠ 37) : sI (bl σ t) k = sI σ k := sI_ne hk
theorem bl_a {t k : Nat} (hk : k ≠ 37) : aI (bl σ t) k = aI σ k := aI_ne hk
theorem dp_s {t k : Nat} (h1 : k ≠ 37) (h2 : k ≠ 25) : sI (dp σ t) k = sI σ k := by
  unfold dp
  rw [sI_ne h2]
  exact bl_s h1
theorem dp_a {t k : Nat} (h1 : k ≠ 37) (h2 : k ≠ 25) : aI (dp σ t) k = aI σ k := by
  unfold dp
  rw [aI_ne h2]
  exact bl_a h1
theorem dp_24 {t v : Nat} : aL (dp σ t) 24 v = if v = rV σ then 0 else aL σ 24 v := by
  unfold dp
  show aL (wL (bl σ t) 24 (rV σ) 0) 24 v = _
  by_cases c : v = rV σ
  · rw [if_pos c, c, aL_eq]
  · rw [if_neg c, aL_ni c]
    rfl
theorem dp_l {t k : Nat} (hk : k ≠ 24) : aL (dp σ t) k = aL σ k := by
  unfold dp
  show aL (wL (bl σ t) 24 (rV σ) 0) k = _
  rw [aL_ne hk]
  rfl
theorem Ps.dup (h : Ps κ σ N b P) (hv : rV σ ≤ 1500) : Ps (nt κ (plT κ (pC κ))) (dp σ (pC κ)) N b P ∧ Nu (nt κ (plT κ (pC κ))) (dp σ (pC κ)) (pC κ) (oC κ) (iC κ) (rJ σ) (rU σ) (rA σ) (rT σ) (rC σ) (rV σ + 1) (rK σ) (rE σ) := by
  obtain ⟨f, t, g1, g2, g3, g4, g5, g6, g7, g8⟩ := h.tok
  have hp3 := h.p3
  have hb := h.1.2.2.2.1
  obtain ⟨nk1, nk2, nk3⟩ := nt_kf (κ := κ) (f := plT κ (pC κ))
  have s25 : sI (dp σ (pC κ)) 25 = nI (rV σ + 1) := sI_eq
  have c : ∀ h, h ≠ 67 → kI (nt κ (plT κ (pC κ))) h = kI κ h ∧ kL (nt κ (plT κ (pC κ))) h = kL κ h ∧ kW (nt κ (plT κ (pC κ))) h = kW κ h := fun h hh => nk1.1 h hh
  have nu : Nu (nt κ (plT κ (pC κ))) (dp σ (pC κ)) (pC κ) (oC κ) (iC κ) (rJ σ) (rU σ) (rA σ) (rT σ) (rC σ) (rV σ + 1) (rK σ) (rE σ) := by
    refine ⟨?_, ?_, ?_, ?_, ?_, ?_, ?_, ?_, ?_, ?_, ?_⟩
    · unfold pC; rw [(c 72 (by decide)).1]
    · unfold oC; rw [(c 77 (by decide)).1]
    · unfold iC; rw [(c 68 (by decide)).1]
    · unfold rJ; rw [dp_s (by decide) (by decide)]
    · unfold rU; rw [dp_s (by decide) (by decide)]
    · unfold rA; rw [dp_s (by decide) (by decide)]
    · unfold rT; rw [dp_s (by decide) (by decide)]
    · unfold rC; rw [dp_s (by decide) (by decide)]
    · show (sI (dp σ (pC κ)) 25).toNatClampNeg = rV σ + 1
      rw [s25]; exact cl_nI (by omega)
    · unfold rK; rw [dp_s (by decide) (by decide)]
    · unfold rE; rw [dp_s (by decide) (by decide)]
  have pq := h.pq.fr (κ' := nt κ (plT κ (pC κ))) (σ' := dp σ (pC κ)) (c 72 (by decide)).1 (c 74 (by decide)).1 (c 75 (by decide)).1 (c 76 (by decide)).2.1 ⟨(c 74 (by decide)).2.2, (c 75 (by decide)).2.2, (c 76 (by decide)).2.2⟩ (by rw [(c 77 (by decide)).1]) (c 68 (by decide)).1 ⟨(c 69 (by decide)).2.2, (c 70 (by decide)).2.2⟩ (dp_a (by decide) (by decide)) (dp_a (by decide) (by decide)) (dp_a (by decide) (by decide)) (dp_a (by decide) (by decide)) (dp_l (by decide)) (fun k hk => dp_s (by omega) (by omega)) (by rw [nu.2.2.2.2.1, dp_s (by decide) (by decide)]; exact h.2.2.2.2.2.2.2.2.2.2.2.2.2.2.1)
  refine ⟨⟨⟨pq.1.1, by rw [nk1.2.1]; exact h.1.2.1, by rw [nk1.2.2.1]; exact h.1.2.2.1, hb, ?_⟩, pq.1.2⟩, nu⟩
  obtain ⟨E, D, n1, n2, n3, n4, n5, n6, n7, n8, nE, n9, n10, n11, n12, n13⟩ := h.1.2.2.2.2
  have eV : rV σ = E.length := by unfold rV; rw [n8, cl_nI (by omega)]
  have ef : f < 3001 := by omega
  have hpl : plT κ (pC κ) = f := g8.symm
  have a1 := nt_fN (κ := κ) (f := plT κ (pC κ)) n10 (by omega)
  have a2 := bl_fN (σ := σ) (t := pC κ) (f := f) g2 ef n11
  have nb : 1000 + 8 * b ≠ 67 ∧ 1001 + 8 * b ≠ 67 := by omega
  have c0 := c (1000 + 8 * b) nb.1
  have c1 := c (1001 + 8 * b) nb.2
  have pl' : ∀ t, plT (nt κ (plT κ (pC κ))) t = plT κ t := fun t => by unfold plT; rw [(c 75 (by decide)).1]
  have q' : q13 (nt κ (plT κ (pC κ))) D = q13 κ D := by
    unfold q13
    cases D[12]? with
    | none => rfl
    | some t' => exact pl' t'
  have s37 : sI (dp σ (pC κ)) 37 = sI (bl σ (pC κ)) 37 := by
    unfold dp
    rw [sI_ne (by decide)]
    rfl
  refine ⟨E ++ [4000], D, ?_, fun t ht => ?_, ?_, ?_, ?_, fun v t hv' hd => ?_, ?_, ?_, ?_, fun v t hE => ?_, Or.inr a1.2, ?_, ?_, fun _ => ⟨pC κ, ?_, ?_⟩⟩
  · rw [List.filter_append, ← n1]
    simp
  · rw [nu.1, (c 74 (by decide)).1]
    exact n2 t ht
  · rw [dp_l (by decide)]
    exact n3
  · rw [c0.1]; exact n4
  · rw [c1.2.2]; exact n5
  · rw [c1.2.1, (c 76 (by decide)).2.1]
    exact n6 v t hv' hd
  · rw [c0.1, (c 75 (by decide)).1]; exact n7
  · rw [s25, List.length_append, eV]; rfl
  · rw [List.length_append]
    show E.length + 1 < 1600
    omega
  · rw [dp_24, dp_l (by decide)]
    by_cases cv : v = rV σ
    · rw [if_pos cv]
      rw [cv, eV, List.getElem?_append_right (Nat.le_refl _), Nat.sub_self] at hE
      have e : 4000 = t := Option.some.inj hE
      rw [← e, if_neg (by decide)]
    · rw [if_neg cv]
      have hlt : v < E.length := by
        have := (List.getElem?_eq_some_iff.mp hE).1
        rw [List.length_append] at this
        have : v < E.length + 1 := this
        omega
      rw [List.getElem?_append_left hlt] at hE
      exact n9 v t hE
  · rw [s37]; exact Or.inr a2.2
  · rw [s37, a2.1, a1.1, q', n12, hpl]
    exact mnB
  · rw [nu.1]; exact Nat.le_refl _
  · rw [pl', a1.1]
    omega
/-- another number of a body -/
theorem Ps.fld {k : Nat} {v : Int32} (h : Ps κ σ N b P) (hk : k ≠ 5 ∧ k ≠ 8) : Ps (cI κ (1000 + 8 * b) k v) σ N b P ∧ Nu (cI κ (1000 + 8 * b) k v) σ (pC κ) (oC κ) (iC κ) (rJ σ) (rU σ) (rA σ) (rT σ) (rC σ) (rV σ) (rK σ) (rE σ) := by
  have hb := h.1.2.2.2.1
  have c : ∀ g, g ≠ 1000 + 8 * b → kI (cI κ (1000 + 8 * b) k v) g = kI κ g := fun g hg => kI_ne hg
  have c0 : ∀ q, q ≠ k → kI (cI κ (1000 + 8 * b) k v) (1000 + 8 * b) q = kI κ (1000 + 8 * b) q := fun q hq => kI_nk hq
  have pq := h.pq.fr (κ' := cI κ (1000 + 8 * b) k v) (σ' := σ) (c 72 (by omega)) (c 74 (by omega)) (c 75 (by omega)) rfl ⟨rfl, rfl, rfl⟩ (by rw [c 77 (by omega)]) (c 68 (by omega)) ⟨rfl, rfl⟩ rfl rfl rfl rfl rfl (fun _ _ => rfl) h.2.2.2.2.2.2.2.2.2.2.2.2.2.2.1
  refine ⟨⟨⟨pq.1.1, h.1.2.1, h.1.2.2.1, hb, ?_⟩, pq.1.2⟩, pq.2.1, pq.2.2.1, pq.2.2.2.1, rfl, rfl, rfl, rfl, rfl, rfl, rfl, rfl⟩
  obtain ⟨E, D, n1, n2, n3, n4, n5, n6, n7, n8, nE, n9, n10, n11, n12, n13⟩ := h.1.2.2.2.2
  have pl' : ∀ t, plT (cI κ (1000 + 8 * b) k v) t = plT κ t := fun t => by unfold plT; rw [c 75 (by omega)]
  have q' : q13 (cI κ (1000 + 8 * b) k v) D = q13 κ D := by
    unfold q13
    cases D[12]? with
    | none => rfl
    | some t' => exact pl' t'
  refine ⟨E, D, n1, fun t ht => ?_, n3, ?_, n5, n6, ?_, n8, nE, n9, ?_, n11, ?_, fun z => ?_⟩
  · rw [pq.2.1, c 74 (by omega)]; exact n2 t ht
  · rw [c0 5 (by omega)]; exact n4
  · rw [c0 8 (by omega), c 75 (by omega)]; exact n7
  · rw [c 67 (by omega)]; exact n10
  · rw [c 67 (by omega), q']; exact n12
  · obtain ⟨t, t1, t2⟩ := n13 z
    exact ⟨t, by rw [pq.2.1]; exact t1, by rw [c 67 (by omega), pl']; exact t2⟩
theorem bl_comm {t : Nat} {x : Int32} : bl (wS σ 10 x) t = wS (bl σ t) 10 x := by
  unfold bl
  rw [sI_ne (by decide), aI_ne (by decide), wS_comm (by decide)]
theorem dp_comm {t : Nat} {x : Int32} : dp (wS σ 10 x) t = wS (dp σ t) 10 x := by
  unfold dp
  have e : rV (wS σ 10 x) = rV σ := by unfold rV; rw [sI_ne (by decide)]
  rw [e, bl_comm]
  show wS (wS (wL (bl σ t) 24 (rV σ) 0) 10 x) 25 _ = _
  rw [wS_comm (by decide)]
end ARG
