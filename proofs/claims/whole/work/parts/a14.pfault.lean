/-! what is wrong is alike in both -/
section FIN
variable {X : Cx} {N b P i : Nat} {κ0 κ : Km} {σ0 σ : Rm}
/-- where there is no 13th name, a name of the reference is a variable of the class -/
theorem NF.of_r13 {w t : Nat} (h : Ps κ σ N b P) (h13 : kI κ (1000 + 8 * b) 8 = -9) (ht : t ≤ N) (h2 : kI κ 74 t = 2) (hw : w < rV σ) (e : aL σ 24 w = aL σ 9 t) : ∃ v, v < cV κ b ∧ kL κ (1001 + 8 * b) v = kL κ 76 t := by
  obtain ⟨E, D, n1, n2, n3, n4, n5, n6, n7, n8, nE, n9, n10⟩ := h.1.2.2.2.2
  have tk := h.1.1
  have hpN : pC κ ≤ N := h.2.2.2.2.2.1
  have nmD : ∀ s, s ∈ D → NmR (kL κ 76 s) (aL σ 9 s) := fun s hs => tk.nm (Nat.le_trans (n2 s hs).1 hpN) (n2 s hs).2
  have eV : rV σ = E.length := by unfold rV; rw [n8, cl_nI (by omega)]
  have ecV : cV κ b = min 12 D.length := by unfold cV; rw [n4, cl_nI (by omega)]
  have lD : D.length ≤ 12 := by
    by_cases l : D.length ≤ 12
    · exact l
    · have hs : D[12]? = some (D[12]'(by omega)) := List.getElem?_eq_getElem (by omega)
      rw [hs] at n7
      obtain ⟨f, f1, f2, f3, f4⟩ := h.1.1.pl2 (Nat.le_trans (n2 _ (List.mem_of_getElem? hs)).1 hpN)
      rw [n7] at h13
      have h13 : kI κ 75 (D[12]'(by omega)) = -9 := h13
      rw [f1] at h13
      exact absurd h13 (neg9 (by omega))
  have hs : E[w]? = some (E[w]'(by omega)) := List.getElem?_eq_getElem (by omega)
  have e2 := n9 w _ hs
  by_cases c : E[w]'(by omega) < 4000
  · rw [if_pos c] at e2
    obtain ⟨i, i1, i2⟩ := flt_idx (p := fun t => decide (t < 4000)) E w _ hs (by simpa using c)
    rw [← n1] at i2
    have li := (List.getElem?_eq_some_iff.mp i2).1
    have hm := List.mem_of_getElem? i2
    refine ⟨i, by omega, ?_⟩
    rw [n6 i _ (by omega) i2]
    exact ((nmD _ hm).iff (tk.nm ht h2)).mpr (e2.symm.trans e)
  · rw [if_neg c] at e2
    exact absurd (e.symm.trans e2) (tk.nm ht h2).ne.1
theorem Rec.lkb (h : Rec N i κ σ) (h12 : i < 12) (hB : i < kB κ) (hw : kW κ (1001 + 8 * i) = 12) : LkB N (iC κ) κ i := by
  obtain ⟨κ1, σ1, κ2, σ2, P', n, s, ⟨ps, tr, ⟨tcs, us⟩, ss, ds⟩, ⟨o1, o2, o3, o4, o5, hs, hn, hsn, hi9, hj9, ht6, hc9, hu15, ha15⟩, ⟨c1, ⟨c2, c3, c4⟩, c5, c6, ⟨c7, c8, c9, c10, c11, c12, c13⟩, c14, c15, c16⟩, -, -⟩ := h
  have eS : bdS κ i = iC κ1 := by unfold bdS; rw [c10, cl_nI (by omega)]
  have eE : bdE κ i = iC κ2 + 2 := by unfold bdE; rw [c11, cl_nI (by omega)]
  have eV : cV κ i = cV κ2 i := by unfold cV; rw [c9]
  have nf := ps.1.2.2.2.2
  obtain ⟨E, D, n1, n2, n3, n4, n5, n6, n7, n8, nE, n9, n10⟩ := nf
  have ecV : cV κ2 i = min 12 D.length := by unfold cV; rw [n4, cl_nI (by omega)]
  refine ⟨hB, h12, ⟨by rw [c9, n4, eV, ecV], by omega, hw⟩, ⟨by rw [c10, eS], by rw [c11, eE], by omega, by omega⟩, ?_, fun k l1 l2 => ?_⟩
  · rw [c12, n7]
    cases e : D[12]? with
    | none => exact Or.inl rfl
    | some t =>
      obtain ⟨f, f1, f2, f3, f4⟩ := ps.1.1.pl2 (Nat.le_trans (n2 t (List.mem_of_getElem? e)).1 ps.2.2.2.2.2.1)
      exact Or.inr ⟨f, f3, f1⟩
  · rw [eS] at l1
    rw [eE] at l2
    by_cases c : k < iC κ2
    · obtain ⟨x1, x2⟩ := c1 k l1 c
      rw [x1, x2, c12, c13, c16, eV]
      refine ⟨fun z => ?_, fun z z8 t ht e => ?_, fun z => ?_⟩
      · rcases z with z | z
        · obtain ⟨t, u, h1, h2, -⟩ := us.1 k l1 c z
          exact ⟨t, h1, h2⟩
        · obtain ⟨t, v, h1, h2, -⟩ := us.2.2.1 k l1 c z
          exact ⟨t, h1, h2⟩
      · obtain ⟨t', v, h1, h2, h3, h4, h5⟩ := us.2.2.1 k l1 c z
        have hN := ps.p3.2
        have : t' = t := m1_inj (by omega) (by omega) (h2.symm.trans e)
        subst this
        exact NF.of_r13 ps z8 h1 h3 h4 h5
      · obtain ⟨t, m, u, q, h1, h2, h3, -⟩ := us.2.2.2.2.1 k l1 c z
        exact ⟨t, m, h1, h2, h3⟩
    · by_cases cc : k = iC κ2
      · rw [cc, c2]
        exact ⟨fun z => absurd z (by decide), fun z => absurd z (by decide), fun z => absurd z (by decide)⟩
      · rw [show k = iC κ2 + 1 by omega, c4]
        exact ⟨fun z => absurd z (by decide), fun z => absurd z (by decide), fun z => absurd z (by decide)⟩
/-- an ask of the class is one of the reference -/
theorem Rec.ask {k : Nat} (h : Rec N i κ σ) (l1 : bdS κ i ≤ k) (l2 : k < bdE κ i) (ha : kI κ 69 k = 23 ∨ kI κ 69 k = 24) : ∃ t m u q, t ≤ N ∧ m < 8 ∧ kI κ 70 k = nI (8 * t + m) ∧ kI κ 74 t = 2 ∧ u < rA σ ∧ aI σ 39 u = nI t ∧ aI σ 40 u = nI m ∧ q < 12000 ∧ aI σ 38 u = nI q ∧ ((kI κ 69 k = 23 ∧ aI σ 13 q = 16) ∨ (kI κ 69 k = 24 ∧ aI σ 13 q = 20)) := by
  obtain ⟨κ1, σ1, κ2, σ2, P', n, s, ⟨ps, tr, ⟨tcs, us⟩, ss, ds⟩, ⟨o1, o2, o3, o4, o5, hs, hn, hsn, hi9, hj9, ht6, hc9, hu15, ha15⟩, ⟨c1, ⟨c2, c3, c4⟩, c5, c6, ⟨c7, c8, c9, c10, c11, c12, c13⟩, c14, c15, c16⟩, ⟨r1, r2, ⟨r3, r4, r5⟩, r6, r7, r8, r9, -⟩, -⟩ := h
  have eS : bdS κ i = iC κ1 := by unfold bdS; rw [c10, cl_nI (by omega)]
  have eE : bdE κ i = iC κ2 + 2 := by unfold bdE; rw [c11, cl_nI (by omega)]
  rw [eS] at l1
  rw [eE] at l2
  by_cases c : k < iC κ2
  · obtain ⟨x1, x2⟩ := c1 k l1 c
    rw [x1] at ha
    obtain ⟨t, m, u, q, h1, h2, h3, h4, h5, h6, h7, h8, h9, h10, h11, h12⟩ := us.2.2.2.2.1 k l1 c ha
    obtain ⟨y1, y2, y3⟩ := r8 u h5 h6
    obtain ⟨z1, -⟩ := r1 q h9 h10
    exact ⟨t, m, u, q, h1, h2, by rw [x2]; exact h3, by rw [c14]; exact h4, by omega, by rw [y2]; exact h7, by rw [y3]; exact h8, by omega, by rw [y1]; exact h11, by rw [x1, z1]; exact h12⟩
  · by_cases cc : k = iC κ2
    · rw [cc, c2] at ha
      exact absurd ha (by decide)
    · rw [show k = iC κ2 + 1 by omega, c4] at ha
      exact absurd ha (by decide)
theorem Rec.kind (h : Rec N i κ σ) : ∃ s n, s < 2 ∧ n ≤ 4 ∧ (s = 1 → n ≤ 1) ∧ kI κ (1000 + 8 * i) 2 = nI s ∧ kI κ (1000 + 8 * i) 4 = nI n ∧ aI σ 19 i = nI s ∧ aI σ 20 i = nI n := by
  obtain ⟨κ1, σ1, κ2, σ2, P', n, s, -, ⟨o1, o2, o3, o4, o5, hs, hn, hsn, hi9, hj9, ht6, hc9, hu15, ha15⟩, ⟨c1, ⟨c2, c3, c4⟩, c5, c6, ⟨c7, c8, c9, c10, c11, c12, c13⟩, c14, c15, c16⟩, ⟨r1, r2, ⟨r3, r4, r5⟩, r6, r7, r8, r9, r10, r11, r12, r13, r14, ⟨r15, r16, -⟩, -⟩, -⟩ := h
  exact ⟨s, n, by omega, hn, hsn, c7, c8, r15, r16⟩
/-- all that the linker wants -/
theorem LI.link (li : LI N b P κ0 σ0 κ σ) : LkO b κ ∧ (∀ i, i < b → LkB N (iC κ) κ i) ∧ CdW κ (iC κ) ∧ TkP N κ ∧ LkS b κ ∧ Wn κ (fun p => p = fN (kI κ 67 3)) := by
  obtain ⟨bt, ⟨i1, i2, i3, i4, i5⟩, rec, tc, lst, kr, ar, h775, ord, cov, veq⟩ := li
  obtain ⟨pq, bo, bb12, bbk, bB12, b67, b18, bw, bfw, bbn⟩ := bt
  obtain ⟨tk, pb⟩ := pq
  obtain ⟨p1, p2, p3, p4, p5, p6, p7, p8, p9, ⟨w, w1, w2, w3, w4, w5⟩, p11⟩ := pb
  have hN : N ≤ 3000 := tk.2.2.2.1
  refine ⟨ord, fun i hi => (rec i hi).lkb (by omega) (by omega) (bw i (by omega)), ⟨p9, by omega, by omega, by omega⟩, ⟨fun t ht => ?_, tk.2.2.2.2.2⟩, ⟨b67, bb12, bbk, fun c hc => ?_⟩, ⟨bfw.1, Lst.one (fN_le _ bfw.1)⟩⟩
  · obtain ⟨f, f1, f2, f3, f4⟩ := tk.pl2 ht
    exact ⟨f, f3, f1⟩
  · obtain ⟨s, n, h1, h2, h3, h4, h5, h6, h7⟩ := (rec c hc).kind
    exact ⟨s, n, h1, by omega, h4, h5⟩
/-- all that the reference's asks want -/
theorem LI.asks (li : LI N b P κ0 σ0 κ σ) : (sI σ 41 = nI (rA σ) ∧ rA σ ≤ 1500) ∧ (sI σ 18 = nI b ∧ b ≤ 12) ∧ (∀ c, c < b → ∃ s n, s < 2 ∧ n < 8 ∧ aI σ 19 c = nI s ∧ aI σ 20 c = nI n) ∧
    (∀ u, u < rA σ → ∃ q t m, aI σ 38 u = nI q ∧ q < 12000 ∧ aI σ 39 u = nI t ∧ t < 3001 ∧ aI σ 40 u = nI m ∧ m < 8 ∧ (∃ f, f < 3001 ∧ aI σ 6 t = nI f)) ∧ (∀ u w q, u < rA σ → w < rA σ → q < 12000 → aI σ 38 u = nI q → aI σ 38 w = nI q → u = w) ∧ (rJ σ ≤ 9500 ∧ iC κ ≤ 9500) := by
  obtain ⟨bt, ⟨i1, i2, i3, i4, i5⟩, rec, tc, lst, kr, ar, h775, ord, ⟨v1, v2⟩, veq⟩ := li
  obtain ⟨pq, bo, bb12, bbk, bB12, b67, b18, bw, bfw, bbn⟩ := bt
  obtain ⟨tk, pb⟩ := pq
  obtain ⟨p1, p2, p3, p4, p5, p6, p7, p8, p9, p10, p11, p12, p13, p14, p15, p16, p17⟩ := pb
  have hN : N ≤ 3000 := tk.2.2.2.1
  refine ⟨⟨p15, by omega⟩, ⟨b18, bb12⟩, fun c hc => ?_, fun u hu => ?_, fun u w q hu hw hq e1 e2 => ?_, by omega, by omega⟩
  · obtain ⟨s, n, h1, h2, h3, h4, h5, h6, h7⟩ := (rec c hc).kind
    exact ⟨s, n, h1, by omega, h6, h7⟩
  · obtain ⟨i, hi, t, m, k, q, ⟨h1, -⟩, h2, h3, h4, h5, h6, -⟩ := v1 u hu
    obtain ⟨f, f1, f2, f3, f4⟩ := tk.pl2 h1
    exact ⟨q, t, m, h6, by omega, h3, by omega, h4, h2, f, f3, f2⟩
  · rcases Nat.lt_trichotomy u w with z | z | z
    · obtain ⟨q1, r1, x1, x2, x3, x4⟩ := v2 u w z hw
      have y1 := (nI_eq (by omega) (by omega)).mp (x3.symm.trans e1)
      have y2 := (nI_eq (by omega) (by omega)).mp (x4.symm.trans e2)
      omega
    · exact z
    · obtain ⟨q1, r1, x1, x2, x3, x4⟩ := v2 w u z hu
      have y1 := (nI_eq (by omega) (by omega)).mp (x3.symm.trans e2)
      have y2 := (nI_eq (by omega) (by omega)).mp (x4.symm.trans e1)
      omega
theorem LI.askCR (li : LI N b P κ0 σ0 κ σ) {t s m c : Nat} (ht : t ≤ N) (h2 : kI κ 74 t = 2) : AskC κ b t s m c ↔ AskR σ b t s m c := by
  obtain ⟨bt, ⟨i1, i2, i3, i4, i5⟩, rec, tc, lst, kr, ar, h775, ord, cov, veq⟩ := li
  obtain ⟨pq, bo, bb12, bbk, bB12, b67, b18, bw, bfw, bbn⟩ := bt
  have tk := pq.1
  have nm : ∀ u, u < b → (kL κ (1000 + 8 * u) 1 = kL κ 76 t ↔ aL σ 26 u = aL σ 9 t) := fun u hu => by
    obtain ⟨t', t1, t2, t3, t4⟩ := bbn u hu
    rw [t3, t4]
    exact (tk.nm t1 t2).iff (tk.nm ht h2)
  constructor
  · rintro ⟨a1, a2, a3, a4, a5⟩
    obtain ⟨s', n', h1, h3, -, h4, h5, h6, h7⟩ := (rec c a1).kind
    exact ⟨a1, (nm c a1).mp a2, fun u hu z => a3 u hu ((nm u (by omega)).mpr z), by rw [h6, ← h4]; exact a4, by rw [h7, ← h5]; exact a5⟩
  · rintro ⟨a1, a2, a3, a4, a5⟩
    obtain ⟨s', n', h1, h3, -, h4, h5, h6, h7⟩ := (rec c a1).kind
    exact ⟨a1, (nm c a1).mpr a2, fun u hu z => a3 u hu ((nm u (by omega)).mp z), by rw [h4, ← h6]; exact a4, by rw [h5, ← h7]; exact a5⟩
theorem fla_iff (li : LI N b P κ0 σ0 κ σ) (p : Nat) : (∃ i, i < b ∧ FlaA N b κ i p) ↔ (∃ i, i < b ∧ FSc N κ i p) ∨ AsW σ b (rA σ) p := by
  have li' := li
  obtain ⟨bt, ⟨i1, i2, i3, i4, i5⟩, rec, tc, lst, kr, ar, h775, ord, ⟨v1, v2⟩, veq⟩ := li
  have tk := bt.1.1
  have hN : N ≤ 3000 := tk.2.2.2.1
  have hpN := bt.1.2.2.2.2.2.1
  have kd : ∀ k q, ((kI κ 69 k = 23 ∧ aI σ 13 q = 16) ∨ (kI κ 69 k = 24 ∧ aI σ 13 q = 20)) → (if kI κ 69 k = 23 then 1 else 0) = (if aI σ 13 q = 16 then 1 else 0) := fun k q h => by
    rcases h with ⟨a, c⟩ | ⟨a, c⟩
    · rw [if_pos a, if_pos c]
    · rw [if_neg (by rw [a]; decide), if_neg (by rw [c]; decide)]
  constructor
  · rintro ⟨i, hi, h | ⟨k, k1, k2, ⟨e2, t, t1, t2, t3, t4⟩ | ⟨ha, t, m, t1, m8, t2, no, t4⟩⟩⟩
    · exact Or.inl ⟨i, hi, Or.inl h⟩
    · exact Or.inl ⟨i, hi, Or.inr ⟨k, t, k1, k2, e2, t1, t2, t3, t4⟩⟩
    · obtain ⟨t', m', u, q, h1, h2, h3, h4, h5, h6, h7, h8, h9, h10⟩ := (rec i hi).ask k1 k2 ha
      have e := (nI_eq (by omega) (by omega)).mp (h3.symm.trans t2)
      have et : t' = t := by omega
      have em : m' = m := by omega
      subst et em
      rw [kd k q h10] at no
      obtain ⟨f, f1, f2, f3, f4⟩ := tk.pl2 t1
      exact Or.inr ⟨u, q, t', m', h5, h9, h8, h6, by omega, h7, h2, fun c hc => no c ((li'.askCR t1 h4).mpr hc), by rw [t4, f4]; exact f2, by omega⟩
  · rintro (⟨i, hi, h | ⟨k, t, k1, k2, e2, t1, t2, t3, t4⟩⟩ | ⟨u, q, t, m, hu, e38, hq, e39, ht, e40, hm, no, e6, hp⟩)
    · exact ⟨i, hi, Or.inl h⟩
    · exact ⟨i, hi, Or.inr ⟨k, k1, k2, Or.inl ⟨e2, t, t1, t2, t3, t4⟩⟩⟩
    · obtain ⟨i, hi, t', m', k, q', ⟨h1, h74⟩, h2, h3, h4, h5, h6, h7, h8, h9, h10⟩ := v1 u hu
      have et : t' = t := (nI_eq (by omega) (by omega)).mp (h3.symm.trans e39)
      have em : m' = m := (nI_eq (by omega) (by omega)).mp (h4.symm.trans e40)
      have eq : q' = q := (nI_eq (by omega) (by omega)).mp (h6.symm.trans e38)
      subst et em eq
      rw [← kd k q' h10] at no
      obtain ⟨f, f1, f2, f3, f4⟩ := tk.pl2 h1
      refine ⟨i, hi, Or.inr ⟨k, h7, h8, Or.inr ⟨h10.elim (fun z => Or.inl z.1) (fun z => Or.inr z.1), t', m', h1, h2, h9, fun c hc => no c ((li'.askCR h1 h74).mp hc), ?_⟩⟩⟩
      rw [f4]
      exact (nI_eq (by omega) (by omega)).mp (e6.symm.trans f2)
/-- both find the same fault of names -/
theorem same_fault {κ' : Km} {σ' : Rm} (li : LI N b P κ0 σ0 κ σ) (wn : Wn κ' (fun z => z = fN (kI κ 67 3) ∨ ∃ i, i < b ∧ FlaA N b κ i z)) (wr : Wr σ' (fun z => z = fN (sI σ 37) ∨ AsW σ b (rA σ) z)) : kI κ' 67 3 = sI σ' 37 := by
  refine fN_inj wn.1 wr.1 (wn.2.uniq ?_)
  obtain ⟨bt, ii, rec, tc, lst, kr, ar, h775, ord, cov, veq⟩ := id li
  have fw : fN (sI σ 37) = min (fN (kI κ 67 3)) P := bt.2.2.2.2.2.2.2.2.1.2.2
  have w0 := Lst.one (fN_le _ bt.2.2.2.2.2.2.2.2.1.1)
  have w1 := w0.or lst
  refine wr.2.turn (fun z hz => ?_)
  have h1 := w1.2 z hz
  rw [← fw] at h1
  constructor
  · rintro A y (rfl | hy)
    · exact h1.mp (A _ (Or.inl rfl)) _ (Or.inl rfl)
    · rcases (fla_iff li y).mp hy with g | g
      · exact h1.mp (A _ (Or.inl rfl)) y (Or.inr g)
      · exact A y (Or.inr g)
  · rintro A y (rfl | hy)
    · refine h1.mpr (fun q hq => ?_)
      rcases hq with rfl | hq
      · exact A _ (Or.inl rfl)
      · exact A q (Or.inr ((fla_iff li q).mpr (Or.inl hq)))
    · exact A y (Or.inr ((fla_iff li y).mpr (Or.inr hy)))
end FIN
