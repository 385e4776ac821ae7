/-! names that are missing: both find the same -/
theorem flt_idx {p : Nat → Bool} : ∀ (E : List Nat) (w x : Nat), E[w]? = some x → p x = true → ∃ i, i ≤ w ∧ (E.filter p)[i]? = some x := by
  intro E
  induction E with
  | nil => intro w x h; simp at h
  | cons a r ih =>
    intro w x h hp
    cases w with
    | zero =>
      have : a = x := by simpa using h
      subst this
      exact ⟨0, Nat.le_refl _, by rw [List.filter_cons_of_pos hp]; rfl⟩
    | succ w =>
      obtain ⟨i, i1, i2⟩ := ih w x (by simpa using h) hp
      by_cases c : p a = true
      · exact ⟨i + 1, by omega, by rw [List.filter_cons_of_pos c]; simpa using i2⟩
      · exact ⟨i, by omega, by rw [List.filter_cons_of_neg c]; exact i2⟩
theorem m1_inj {t s : Nat} (ht : t < 2147483648) (hs : s < 2147483648) (h : (-1 : Int32) - nI t = -1 - nI s) : t = s := by
  have e : ∀ x : Int32, (-1 : Int32) - x + x = -1 := fun x => by simp
  have e2 : nI t = nI s := by
    have a : (-1 - nI s) + nI t = (-1 - nI s) + nI s := (congrArg (· + nI t) h.symm).trans ((e (nI t)).trans (e (nI s)).symm)
    exact (Int32.add_right_inj _).mp a
  exact (nI_eq ht hs).mp e2
section MISS
variable {N b P : Nat} {κ : Km} {σ : Rm}
/-- the place of a token, in both -/
theorem TkA.pl2 {t : Nat} (h : TkA κ σ N) (ht : t ≤ N) : ∃ f, kI κ 75 t = nI f ∧ aI σ 6 t = nI f ∧ f < 3001 ∧ plT κ t = f := by
  have hk : TkR κ σ t := by
    by_cases c : t < N
    · exact (h.1 _ c).1
    · rw [show t = N by omega]; exact h.2.1
  obtain ⟨f, g, h1, h2, h3, h4, h5, h6, -⟩ := hk
  exact ⟨f, h1, h2, by omega, by unfold plT; rw [h1, cl_nI (by omega)]⟩
/-- a token's name is neither among the variables nor stored -/
def MsC (N : Nat) (κ : Km) (b i0 i1 t : Nat) : Prop := (∀ v, v < cV κ b → kL κ (1001 + 8 * b) v ≠ kL κ 76 t) ∧ ∀ k s, i0 ≤ k → k < i1 → kI κ 69 k = 3 → s ≤ N → kI κ 70 k = -1 - nI s → kL κ 76 s ≠ kL κ 76 t
/-- LOADs of such names -/
def MsL (N : Nat) (κ : Km) (b i0 i1 p : Nat) : Prop := ∃ k t, i0 ≤ k ∧ k < i1 ∧ kI κ 69 k = 2 ∧ t ≤ N ∧ kI κ 70 k = -1 - nI t ∧ MsC N κ b i0 i1 t ∧ p = plT κ t
/-- a variable of the class is a name of the reference -/
theorem NF.of_c {v t : Nat} (h : Ps κ σ N b P) (ht : t ≤ N) (h2 : kI κ 74 t = 2) (hv : v < cV κ b) (e : kL κ (1001 + 8 * b) v = kL κ 76 t) : ∃ w, w < rV σ ∧ aL σ 24 w = aL σ 9 t := by
  obtain ⟨E, D, n1, n2, n3, n4, n5, n6, n7, n8, nE, n9, n10⟩ := h.1.2.2.2.2
  have tk := h.1.1
  have hpN : pC κ ≤ N := h.2.2.2.2.2.1
  have nmD : ∀ s, s ∈ D → NmR (kL κ 76 s) (aL σ 9 s) := fun s hs => tk.nm (Nat.le_trans (n2 s hs).1 hpN) (n2 s hs).2
  have eV : rV σ = E.length := by unfold rV; rw [n8, cl_nI (by omega)]
  have lDE : D.length ≤ E.length := by rw [n1]; exact List.length_filter_le _ _
  have ecV : cV κ b = min 12 D.length := by unfold cV; rw [n4, cl_nI (by omega)]
  have memD : ∀ s, s ∈ D ↔ s ∈ E ∧ s < 4000 := fun s => by rw [n1, List.mem_filter]; simp
  have hs : D[v]? = some (D[v]'(by omega)) := List.getElem?_eq_getElem (by omega)
  have hm := List.mem_of_getElem? hs
  rw [n6 v _ (by omega) hs] at e
  obtain ⟨j, hj⟩ := List.mem_iff_getElem?.mp ((memD _).mp hm).1
  have e2 := n9 j _ hj
  rw [if_pos ((memD _).mp hm).2] at e2
  exact ⟨j, by rw [eV]; exact (List.getElem?_eq_some_iff.mp hj).1, e2.trans (((nmD _ hm).iff (tk.nm ht h2)).mp e)⟩
/-- an early name of the reference is a variable of the class -/
theorem NF.of_r {w t : Nat} (h : Ps κ σ N b P) (ht : t ≤ N) (h2 : kI κ 74 t = 2) (hw : w < rV σ) (h12 : w < 12) (e : aL σ 24 w = aL σ 9 t) : ∃ v, v < cV κ b ∧ v ≤ w ∧ kL κ (1001 + 8 * b) v = kL κ 76 t := by
  obtain ⟨E, D, n1, n2, n3, n4, n5, n6, n7, n8, nE, n9, n10⟩ := h.1.2.2.2.2
  have tk := h.1.1
  have hpN : pC κ ≤ N := h.2.2.2.2.2.1
  have nmD : ∀ s, s ∈ D → NmR (kL κ 76 s) (aL σ 9 s) := fun s hs => tk.nm (Nat.le_trans (n2 s hs).1 hpN) (n2 s hs).2
  have eV : rV σ = E.length := by unfold rV; rw [n8, cl_nI (by omega)]
  have lDE : D.length ≤ E.length := by rw [n1]; exact List.length_filter_le _ _
  have ecV : cV κ b = min 12 D.length := by unfold cV; rw [n4, cl_nI (by omega)]
  have hs : E[w]? = some (E[w]'(by omega)) := List.getElem?_eq_getElem (by omega)
  have e2 := n9 w _ hs
  by_cases c : E[w]'(by omega) < 4000
  · rw [if_pos c] at e2
    obtain ⟨i, i1, i2⟩ := flt_idx (p := fun t => decide (t < 4000)) E w _ hs (by simpa using c)
    rw [← n1] at i2
    have li := (List.getElem?_eq_some_iff.mp i2).1
    have hm := List.mem_of_getElem? i2
    refine ⟨i, by omega, i1, ?_⟩
    rw [n6 i _ (by omega) i2]
    exact ((nmD _ hm).iff (tk.nm ht h2)).mpr (e2.symm.trans e)
  · rw [if_neg c] at e2
    exact absurd (e.symm.trans e2) (tk.nm ht h2).ne.1
/-- where all names are alike in both, the first ones agree -/
theorem NF.fst {v t : Nat} (h : Ps κ σ N b P) (ht : t ≤ N) (h2 : kI κ 74 t = 2) (hv : rV σ = cV κ b) (f : FstR σ (rV σ) (aL σ 9 t) v) : VnR κ b t v := by
  have h' := h
  obtain ⟨E, D, n1, n2, n3, n4, n5, n6, n7, n8, nE, n9, n10⟩ := h.1.2.2.2.2
  have tk := h.1.1
  have hpN : pC κ ≤ N := h.2.2.2.2.2.1
  have nmD : ∀ s, s ∈ D → NmR (kL κ 76 s) (aL σ 9 s) := fun s hs => tk.nm (Nat.le_trans (n2 s hs).1 hpN) (n2 s hs).2
  have eV : rV σ = E.length := by unfold rV; rw [n8, cl_nI (by omega)]
  have lDE : D.length ≤ E.length := by rw [n1]; exact List.length_filter_le _ _
  have ecV : cV κ b = min 12 D.length := by unfold cV; rw [n4, cl_nI (by omega)]
  have eDE : D = E := by
    rw [n1]
    exact List.filter_eq_self.mpr (List.length_filter_eq_length_iff.mp (by rw [← n1]; omega))
  obtain ⟨f1, f2, f3⟩ := f
  have one : ∀ u, u < rV σ → (aL σ 24 u = aL σ 9 t ↔ kL κ (1001 + 8 * b) u = kL κ 76 t) := fun u hu => by
    have hs : D[u]? = some (D[u]'(by omega)) := List.getElem?_eq_getElem (by omega)
    have hm := List.mem_of_getElem? hs
    have e2 := n9 u _ (by rw [← eDE]; exact hs)
    have a4 : ∀ s, s ∈ D → s < 4000 := fun s hs => by
      rw [n1, List.mem_filter] at hs
      simpa using hs.2
    have h4 : D[u]'(by omega) < 4000 := a4 _ hm
    rw [if_pos h4] at e2
    rw [n6 u _ (by omega) hs, e2]
    exact ((nmD _ hm).iff (tk.nm ht h2)).symm
  exact ⟨by omega, (one v f1).mp f2, fun u hu z => f3 u hu ((one u (by omega)).mpr z)⟩
theorem miss_iff {i0 i1 j0 j1 U a0 a1 n p : Nat} (h : Ps κ σ N b P) (us : UsA N κ σ i0 i1 j0 j1 0 U a0 a1 n (rV σ)) (hn : n ≤ 12) : MsR σ (rV σ) 0 U p ↔ MsL N κ b i0 i1 p := by
  have tk := h.1.1
  have hN := h.p3.2
  constructor
  · rintro ⟨u, t, -, l2, e43, ht, no, e6, hp⟩
    obtain ⟨t', k, q, ht', e43', h2, hq1, hq2, e42, e13, k1, k2, k3, k4⟩ := us.2.1 u (Nat.zero_le _) l2
    have et : t' = t := (nI_eq (by omega) (by omega)).mp (e43'.symm.trans e43)
    subst et
    refine ⟨k, t', k1, k2, k3, ht', k4, ⟨fun v hv e => ?_, fun k' s l1 l2 e3 hs e70 e => ?_⟩, ?_⟩
    · obtain ⟨w, w1, w2⟩ := NF.of_c h ht' h2 hv e
      exact no w w1 w2
    · obtain ⟨s', v, s1, s2, s3, s4, s5⟩ := us.2.2.1 k' l1 l2 e3
      have es : s' = s := m1_inj (by omega) (by omega) (s2.symm.trans e70)
      subst es
      exact no v s4 (s5.trans (((tk.nm s1 s3).iff (tk.nm ht' h2)).mp e))
    · obtain ⟨f, f1, f2, f3, f4⟩ := tk.pl2 ht'
      rw [f4]
      exact (nI_eq (by omega) (by omega)).mp (e6.symm.trans f2)
  · rintro ⟨k, t, k1, k2, k3, ht, k4, ⟨m1, m2⟩, rfl⟩
    obtain ⟨t', u, ht', e70', h2, u0, u1, e43⟩ := us.1 k k1 k2 k3
    have et : t' = t := m1_inj (by omega) (by omega) (e70'.symm.trans k4)
    subst et
    obtain ⟨f, f1, f2, f3, f4⟩ := tk.pl2 ht'
    refine ⟨u, t', Nat.zero_le _, u1, e43, by omega, fun w hw e => ?_, by rw [f4]; exact f2, by omega⟩
    by_cases c : w < n
    · obtain ⟨v, v1, -, v2⟩ := NF.of_r h ht' h2 hw (by omega) e
      exact m1 v v1 v2
    · obtain ⟨s, k', s1, s2, s3, s4, s5, s6, s7⟩ := us.2.2.2.1 w (by omega) hw
      exact m2 k' s s2 s3 s4 s1 s5 (((tk.nm s1 s6).iff (tk.nm ht' h2)).mpr (s7.symm.trans e))
end MISS
