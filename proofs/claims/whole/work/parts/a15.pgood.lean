/-! where no name is wrong: all bodies are good -/
section CONG
variable {κ κ' : Km} {σ σ' : Rm} {W : Pt → Prop}
/-- the code is the same -/
def CdE (κ : Km) (σ : Rm) (κ' : Km) (σ' : Rm) : Prop := kI κ' 69 = kI κ 69 ∧ kI κ' 70 = kI κ 70 ∧ kI κ' 68 2 = kI κ 68 2 ∧ ∀ k, (13 ≤ k ∧ k ≤ 16) ∨ (18 ≤ k ∧ k ≤ 21) ∨ k = 27 ∨ k = 28 ∨ (30 ≤ k ∧ k ≤ 34) ∨ k = 45 → aI σ' k = aI σ k
theorem Cl.cong {b i j : Nat} {L : List Itm} {n s : Nat} (e : CdE κ σ κ' σ') (h : Cl κ σ W b i j L n s) : Cl κ' σ' W b i j L n s := by
  obtain ⟨e1, e2, e3, e4⟩ := e
  have s18 : sI σ' 18 = sI σ 18 := congrFun (e4 18 (by omega)) 0
  unfold Cl BdK nvB at h ⊢
  rw [e1, e2, e3, e4 13 (by omega), e4 14 (by omega), e4 15 (by omega), e4 16 (by omega), s18, e4 19 (by omega), e4 20 (by omega), e4 21 (by omega), e4 27 (by omega), e4 28 (by omega)]
  exact h
theorem Chn.cong {b : Nat} {L : List Itm} {t h0 : Nat} (e : CdE κ σ κ' σ') : ∀ (cs : List Nat) (g : Nat), Chn κ σ W b L t h0 cs g → Chn κ' σ' W b L t h0 cs g := by
  obtain ⟨e1, e2, e3, e4⟩ := e
  intro cs
  induction cs with
  | nil =>
    intro g hg
    rcases hg with ⟨a, jf, b1, b2⟩ | ⟨a, b⟩
    · exact Or.inl ⟨by rw [e1]; exact a, jf, by rw [e4 27 (by omega)]; exact b1, b2⟩
    · exact Or.inr ⟨by rw [e1]; exact a, by rw [e4 27 (by omega)]; exact b.1, b.2⟩
  | cons c cs ih =>
    rintro g ⟨a1, a2, a3, ⟨jc, a4, a5⟩, a6, h', a7, a8, a9⟩
    unfold nvB at a3
    refine ⟨by rw [e1]; exact a1, by rw [e2, e4 30 (by omega)]; exact a2, ?_, ⟨jc, by rw [e4 32 (by omega)]; exact a4, a5⟩, by rw [e4 33 (by omega)]; exact a6, h', by rw [e2]; exact a7, a8, ih h' a9⟩
    unfold nvB
    rw [e1, e2, e4 21 (by omega), e4 31 (by omega)]
    exact a3
theorem Loc.cong {x : Pt} (e : CdE κ σ κ' σ') (h : Loc κ σ W x) : Loc κ' σ' W x := by
  obtain ⟨h1, h2, h3, h4, h5, h6, h7, h8⟩ := h
  refine ⟨h1, h2, by rw [e.2.2.1]; exact h3, h4, h5, h6, fun L0 t g ph r el => ?_, h8.cong e⟩
  obtain ⟨g1, g2, g3⟩ := h7 L0 t g ph r el
  refine ⟨g1, g2, fun hp => ?_⟩
  obtain ⟨cs, c1, c2, c3, c4⟩ := g3 hp
  have s34 : sI σ' 34 = sI σ 34 := congrFun (e.2.2.2 34 (by omega)) 0
  exact ⟨cs, c1, fun c => by rw [s34, e.2.2.2 45 (by omega)]; exact c2 c, c3, Chn.cong e cs g c4⟩
theorem Good2.cong {A : Pt → Prop} {x : Pt} (e : CdE κ σ κ' σ') (h : Good2 κ σ A x) : Good2 κ' σ' A x := by
  obtain ⟨W, h1, h2⟩ := h
  exact ⟨W, fun y hy => (h1 y hy).elim Or.inl (fun z => Or.inr (z.cong e)), h2⟩
end CONG
section ALLGOOD
variable {N b P i : Nat} {κ0 κ κ' : Km} {σ0 σ σ' : Rm}
/-- the first of some -/
theorem fst_ex {p : Nat → Prop} : ∀ (n w : Nat), w < n → p w → ∃ v, v ≤ w ∧ p v ∧ ∀ u, u < v → ¬ p u := by
  intro n
  induction n with
  | zero => intro w h; omega
  | succ n ih =>
    intro w hw hp
    by_cases c : ∃ u, u < w ∧ p u
    · obtain ⟨u, u1, u2⟩ := c
      obtain ⟨v, v1, v2, v3⟩ := ih u (by omega) u2
      exact ⟨v, by omega, v2, v3⟩
    · exact ⟨w, Nat.le_refl _, hp, fun u hu z => c ⟨u, hu, z⟩⟩
/-- what follows where nothing is wrong -/
def NoF (N b : Nat) (κ : Km) : Prop := kI κ 67 3 = -9 ∧ ∀ i, i < b → kI κ (1000 + 8 * i) 8 = -9 ∧ ∀ k p, bdS κ i ≤ k → k < bdE κ i → ¬ Fla N b κ i k p
theorem nof_of (li : LI N b P κ0 σ0 κ σ) (wn : Wn κ' (fun z => z = fN (kI κ 67 3) ∨ ∃ i, i < b ∧ FlaA N b κ i z)) (h : kI κ' 67 3 = -9) : NoF N b κ := by
  obtain ⟨ho, hb, cd, tp, ls, w0⟩ := li.link
  have big : ∀ y, (y = fN (kI κ 67 3) ∨ ∃ i, i < b ∧ FlaA N b κ i y) → 5000 ≤ y := by
    have := (wn.2.2 5000 (Nat.le_refl _)).mp (by rw [h, fN_neg]; exact Nat.le_refl _)
    exact this
  have neg : ∀ x : Int32, (x = -9 ∨ ∃ g, g < 3001 ∧ x = nI g) → 5000 ≤ fN x → x = -9 := fun x hx h5 => by
    rcases hx with e | ⟨g, g1, g2⟩
    · exact e
    · rw [g2, fN_nI (by omega)] at h5
      omega
  refine ⟨neg _ w0.1 (big _ (Or.inl rfl)), fun i hi => ⟨neg _ (hb i hi).2.2.2.2.1 (big _ (Or.inr ⟨i, hi, Or.inl rfl⟩)), fun k p k1 k2 hf => ?_⟩⟩
  have h5 := big p (Or.inr ⟨i, hi, Or.inr ⟨k, k1, k2, hf⟩⟩)
  have pl : ∀ t, t ≤ N → plT κ t < 3001 := fun t ht => by
    obtain ⟨f, f1, f2⟩ := tp.1 t ht
    unfold plT
    rw [f2, cl_nI (by omega)]
    exact f1
  rcases hf with ⟨-, t, t1, -, -, t4⟩ | ⟨-, t, m, t1, -, -, -, t4⟩
  · have := pl t t1; omega
  · have := pl t t1; omega
theorem body_good (li : LI N b P κ0 σ0 κ σ) (hi : i < b) (lf : LkF κ κ') (lk : ∀ i k, i < b → bdS κ i ≤ k → k < bdE κ i → Lkd N b κ i k (kI κ' 70 k)) (ad : AsD σ σ' b (rA σ)) (nf : NoF N b κ) : ∃ (a j v : Nat), kI κ (1000 + 8 * i) 6 = nI a ∧ aI σ 23 i = nI j ∧ kI κ (1000 + 8 * i) 5 = nI v ∧ aI σ 21 i = nI v ∧ v ≤ 12 ∧ (∃ n, aI σ 20 i = nI n ∧ n ≤ v ∧ n ≤ 4) ∧ a < 9500 ∧ j < 9500 ∧ Good2 κ' σ' (fun _ => False) (i, a, j, [], 0, 0) := by
  have li' := li
  obtain ⟨ho, hbs, cd, tp, ls, w0⟩ := li.link
  obtain ⟨-, -, -, -, -, hJ9, hI9⟩ := li.asks
  have hB := hbs i hi
  obtain ⟨b1, b2, ⟨b3, b4, b5⟩, ⟨b6, b7, b8, b9⟩, b10, b11⟩ := hB
  obtain ⟨nf1, nf2⟩ := nf
  obtain ⟨bt, ⟨i1, i2, i3, i4, i5⟩, rec, tc, lst, kr, ar, h775, ord, ⟨v1, v2⟩, veq⟩ := li
  obtain ⟨pq, bo, bb12, bbk, bB12, b67, b18, bw, bfw, bbn⟩ := bt
  have tk := pq.1
  have hN : N ≤ 3000 := tk.2.2.2.1
  have pb := pq.2
  have hpN : pC κ ≤ N := pb.2.2.2.2.1
  have hve := veq i hi nf1 (nf2 i hi).1
  have r12 := rec i hi
  obtain ⟨κ1, σ1, κ2, σ2, P', n, s, ⟨ps, tr, ⟨tcs, us⟩, ss, ds⟩, ⟨o1, o2, o3, o4, o5, hs, hn, hsn, hi9, hj9, ht6, hc9, hu15, ha15⟩, ⟨c1, ⟨c2, c3, c4⟩, c5, c6, ⟨c7, c8, c9, c10, c11, c12, c13⟩, c14, c15, c16⟩, ⟨r1, r2, ⟨r3, r4, r5⟩, r6, r7, r8, r9, r10, r11, r12', r13, r14, ⟨r15, r16, r17, r18⟩, r19, r20⟩, hpl⟩ := r12
  have eS : bdS κ i = iC κ1 := by unfold bdS; rw [c10, cl_nI (by omega)]
  have eE : bdE κ i = iC κ2 + 2 := by unfold bdE; rw [c11, cl_nI (by omega)]
  have eV : cV κ i = cV κ2 i := by unfold cV; rw [c9]
  obtain ⟨a1, a2, a3, a4⟩ := ad
  have tn := tr.2.2.2
  have rV12 : rV σ2 = cV κ2 i := by
    rw [r17, b3] at hve
    have hlt : rV σ2 < 2147483648 := by
      unfold rV
      have := Int32.toNatClampNeg_lt (sI σ2 25)
      omega
    have := (nI_eq hlt (by omega)).mp hve
    omega
  have vn2 : ∀ t v, VnR κ2 i t v ↔ VnR κ i t v := fun t v => by
    unfold VnR
    rw [eV, c13, c16]
  have e69 : kI κ' 69 = kI κ 69 := lf.1 69 (by decide) (by decide)
  have e68 : kI κ' 68 2 = nI (iC κ) := by rw [lf.1 68 (by decide) (by decide)]; exact cd.1
  have noask : ∀ q, q < 12000 → aI σ 13 q ≠ 16 → aI σ 13 q ≠ 20 → aI σ' 14 q = aI σ 14 q := fun q hq n1 n2 => a3 q (fun u hu z => by
    obtain ⟨i', hi', t', m', k, q', h1, h2, h3, h4, h5, h6, h7, h8, h9, h10⟩ := v1 u hu
    have : q' = q := (nI_eq (by omega) (by omega)).mp (h6.symm.trans z)
    rw [this] at h10
    rcases h10 with h10 | h10
    · exact n1 h10.2
    · exact n2 h10.2)
  have var : ∀ k t, iC κ1 ≤ k → k < iC κ2 → (kI κ2 69 k = 2 ∨ kI κ2 69 k = 3) → t ≤ N → kI κ2 70 k = -1 - nI t → ∃ v, VnR κ i t v ∧ kI κ' 70 k = nI v := fun k t l1 l2 ha ht e => by
    obtain ⟨x1, x2⟩ := c1 k l1 l2
    rw [← x1] at ha
    rw [← x2] at e
    rcases (lk i k hi (by omega) (by omega)).1 ha t ht e with h | ⟨nv, -⟩
    · exact h
    · exfalso
      rcases ha with ha | ha
      · refine (nf2 i hi).2 k (plT κ t) (by omega) (by omega) (Or.inl ⟨ha, t, ht, e, ⟨nv, fun k' s' g1 g2 g3 g4 g5 g6 => ?_⟩, rfl⟩)
        obtain ⟨v, w1, w2⟩ := (b11 k' g1 g2).2.1 g3 (nf2 i hi).1 s' g4 g5
        exact nv v w1 (w2.trans g6)
      · obtain ⟨v, w1, w2⟩ := (b11 k (by omega) (by omega)).2.1 ha (nf2 i hi).1 t ht e
        exact nv v w1 w2
  have s34 : sI σ' 34 = nI (rC σ) := (congrFun (a1 34 (by decide) (by decide)) 0).trans pb.2.2.2.2.2.2.2.2.2.2.2.2.1
  have s18 : sI σ' 18 = nI b := (congrFun (a1 18 (by decide) (by decide)) 0).trans b18
  have hnv : nvB σ' i = rV σ2 := by
    unfold nvB
    rw [a1 21 (by decide) (by decide), r17, cl_nI (by omega)]
  have hfn : Fnc σ' (VnR κ i) (fun t c => c < b ∧ kL κ (1000 + 8 * c) 1 = kL κ 76 t ∧ ∀ u, u < c → kL κ (1000 + 8 * u) 1 ≠ kL κ 76 t) i := by
    refine ⟨b2, fun t v w h1 h2 => h1.uniq h2, fun t c c' h1 h2 => ?_, fun t v h => ?_⟩
    · rcases Nat.lt_trichotomy c c' with z | z | z
      · exact absurd h1.2.1 (h2.2.2 c z)
      · exact z
      · exact absurd h2.2.1 (h1.2.2 c' z)
    · rw [hnv, rV12, ← eV]
      exact h.1
  have ext : Ext κ' σ' (VnR κ i) (fun t c => c < b ∧ kL κ (1000 + 8 * c) 1 = kL κ 76 t ∧ ∀ u, u < c → kL κ (1000 + 8 * u) 1 ≠ kL κ 76 t) i κ1 σ1 κ2 σ2 := by
    refine ⟨fun k l1 l2 => ⟨?_, ?_, fun n2 n3 n23 n24 => ?_, fun ha t ht e => ?_, fun ha t m ht hm e => ?_⟩, fun q l1 l2 => ⟨?_, ?_, ?_, fun n2 n16 n20 => ?_⟩, fun u l1 l2 q t hq ht e42 e43 => ?_, fun u l1 l2 q t m hq ht hm e38 e39 e40 => ?_, fun t l1 l2 => ?_, fun c l1 l2 => ?_, fun c t l1 l2 l3 l4 l5 => ?_, rV12, fun t v h => (vn2 t v).mp h⟩
    · rw [e69]; exact (c1 k l1 l2).1
    · rw [e68, lt_nI (by omega) (by omega)]; omega
    · obtain ⟨x1, x2⟩ := c1 k l1 l2
      rw [(lk i k hi (by omega) (by omega)).2.2 (by rw [x1]; exact n2) (by rw [x1]; exact n3) (by rw [x1]; exact n23) (by rw [x1]; exact n24), x2]
    · have : ∃ t', t' ≤ N ∧ kI κ2 70 k = -1 - nI t' := by
        rcases ha with z | z
        · obtain ⟨t', u, h1, h2, -⟩ := us.1 k l1 l2 z
          exact ⟨t', h1, h2⟩
        · obtain ⟨t', v, h1, h2, -⟩ := us.2.2.1 k l1 l2 z
          exact ⟨t', h1, h2⟩
      obtain ⟨t', h1, h2⟩ := this
      have et : t' = t := m1_inj (by omega) (by omega) (h2.symm.trans e)
      subst et
      exact var k t' l1 l2 ha h1 e
    · obtain ⟨x1, x2⟩ := c1 k l1 l2
      obtain ⟨t', m', u, q, h1, h2, h3, -⟩ := us.2.2.2.2.1 k l1 l2 ha
      have ee := (nI_eq (by omega) (by omega)).mp (h3.symm.trans e)
      have et : t' = t := by omega
      have em : m' = m := by omega
      subst et em
      rw [← x1] at ha
      rw [← x2] at e
      by_cases ex : ∃ c, AskC κ b t' (if kI κ 69 k = 23 then 1 else 0) m' c
      · obtain ⟨c, hc⟩ := ex
        exact ⟨c, ⟨hc.1, hc.2.1, hc.2.2.1⟩, (lk i k hi (by omega) (by omega)).2.1 ha t' m' h1 h2 e c hc⟩
      · exact absurd (Or.inr ⟨ha, t', m', h1, h2, e, fun c hc => ex ⟨c, hc⟩, rfl⟩) ((nf2 i hi).2 k (plT κ t') (by omega) (by omega))
    · rw [a1 13 (by decide) (by decide)]; exact (r1 q l1 l2).1
    · rw [a1 15 (by decide) (by decide)]; exact (r1 q l1 l2).2.1
    · rw [a1 16 (by decide) (by decide)]; exact (r1 q l1 l2).2.2.1
    · obtain ⟨y1, y2, y3, y4⟩ := r1 q l1 l2
      rw [noask q (by omega) (by rw [y1]; exact n16) (by rw [y1]; exact n20), y4 n2]
    · obtain ⟨t', k, q', h1, h2, h3, h4, h5, h6, h7, h8, h9, h10, h11⟩ := us.2.1 u l1 l2
      have et : t' = t := (nI_eq (by omega) (by omega)).mp (h2.symm.trans e43)
      have eq : q' = q := (nI_eq (by omega) (by omega)).mp (h6.symm.trans e42)
      subst et eq
      obtain ⟨v, w1, w2⟩ := var k t' h8 h9 (Or.inl h10) h1 h11
      have w3 := (vn2 t' v).mpr w1
      obtain ⟨w, z1, z2⟩ := NF.of_c ps h1 h3 w3.1 w3.2.1
      obtain ⟨w', y1, y2, y3⟩ := fst_ex (p := fun w => aL σ2 24 w = aL σ2 9 t') (w + 1) w (by omega) z2
      have hf : FstR σ2 (rV σ2) (aL σ2 9 t') w' := ⟨by omega, y2, fun u hu => y3 u hu⟩
      have ew : w' = v := ((vn2 t' w').mp (NF.fst ps h1 h3 rV12 hf)).uniq w1
      subst ew
      obtain ⟨g1, g2⟩ := r2 u q' t' w' l2 hq ht e42 e43 hf
      obtain ⟨y1', -⟩ := r1 q' h4 g1
      refine ⟨w', w1, ?_⟩
      rw [noask q' hq (by rw [y1', h7]; decide) (by rw [y1', h7]; decide)]
      exact g2
    · obtain ⟨t', m', k, q', h1, h2, h3, h4, h5, h6, h7, h8, h9, h10, h11, h12⟩ := us.2.2.2.2.2.1 u l1 l2
      have et : t' = t := (nI_eq (by omega) (by omega)).mp (h3.symm.trans e39)
      have em : m' = m := (nI_eq (by omega) (by omega)).mp (h4.symm.trans e40)
      have eq : q' = q := (nI_eq (by omega) (by omega)).mp (h8.symm.trans e38)
      subst et em eq
      obtain ⟨x1, x2⟩ := c1 k h9 h10
      obtain ⟨y1, -⟩ := r1 q' h6 h7
      obtain ⟨g1, g2, g3⟩ := r8 u l1 l2
      have kd : (if kI κ 69 k = 23 then 1 else 0) = (if aI σ 13 q' = 16 then 1 else 0) := by
        rw [x1, y1]
        rcases h12 with ⟨z1, z2⟩ | ⟨z1, z2⟩
        · rw [if_pos z1, if_pos z2]
        · rw [if_neg (by rw [z1]; decide), if_neg (by rw [z2]; decide)]
      have ha : kI κ 69 k = 23 ∨ kI κ 69 k = 24 := by rw [x1]; exact h12.elim (fun z => Or.inl z.1) (fun z => Or.inr z.1)
      have h74 : kI κ 74 t' = 2 := by rw [c14]; exact h5
      by_cases ex : ∃ c, AskC κ b t' (if kI κ 69 k = 23 then 1 else 0) m' c
      · obtain ⟨c, hc⟩ := ex
        have hr := (li'.askCR h1 h74).mp hc
        rw [kd] at hr
        have hlt : u < rA σ := by omega
        refine ⟨c, ⟨hc.1, hc.2.1, hc.2.2.1⟩, a4 u q' t' m' hlt (by rw [g1]; exact h8) hq (by rw [g2]; exact h3) ht (by rw [g3]; exact h4) hm c hr, ?_⟩
        obtain ⟨s', n', k1, k2, k3, k4, k5, k6, k7⟩ := (rec c hr.1).kind
        have em : n' = m' := (nI_eq (by omega) (by omega)).mp (k7.symm.trans hr.2.2.2.2)
        have hcb := hr.1
        rw [a1 13 (by decide) (by decide)]
        exact ⟨by omega, by rw [s18, lt_nI (by omega) (by omega)]; exact hr.1, by rw [a1 19 (by decide) (by decide)]; exact hr.2.2.2.1, by rw [a1 20 (by decide) (by decide)]; exact hr.2.2.2.2, by omega⟩
      · exact absurd (Or.inr ⟨ha, t', m', h1, h2, by rw [x2]; exact h11, fun c hc => ex ⟨c, hc⟩, rfl⟩) ((nf2 i hi).2 k (plT κ t') (by omega) (by omega))
    · rw [a1 27 (by decide) (by decide), a1 28 (by decide) (by decide)]; exact r10 t l1 l2
    · obtain ⟨y1, y2, y3, y4, y5⟩ := r12' c l1 l2
      rw [a1 30 (by decide) (by decide), a1 31 (by decide) (by decide), a1 32 (by decide) (by decide), a1 33 (by decide) (by decide), a1 45 (by decide) (by decide), s34, lt_nI (by omega) (by omega)]
      exact ⟨y1, y2, y3, y4, y5, by omega⟩
    · rw [s34, lt_nI (by omega) (by omega)] at l2
      rw [a1 45 (by decide) (by decide)] at l5
      exact r14 c t l2 l5 (by omega) l3 l4
  have gEnd : Good2 κ' σ' (fun _ => False) (i, iC κ2, rJ σ2, [], 0, 0) := by
    refine Good1.two ⟨b2, by show iC κ2 + 1 < 20000; omega, ?_, by show rJ σ2 + 1 < 12000; omega, Nat.zero_le _, Nat.zero_le _, fun L0 t h ph r e => ?_, ?_⟩
    · show nI (iC κ2) < kI κ' 68 2
      rw [e68, lt_nI (by omega) (by omega)]; omega
    · have := congrArg List.length e
      simp at this
    · have k1 : kI κ' 70 (iC κ2) = 0 := by
        rw [(lk i (iC κ2) hi (by omega) (by omega)).2.2 (by rw [c2]; decide) (by rw [c2]; decide) (by rw [c2]; decide) (by rw [c2]; decide)]
        exact c3
      have j14 : aI σ' 14 (rJ σ2) = 0 := by
        rw [noask (rJ σ2) (by omega) (by rw [r3]; decide) (by rw [r3]; decide)]
        exact r4
      show Cl κ' σ' _ i (iC κ2) (rJ σ2) [] 0 0
      unfold Cl
      refine Or.inr (Or.inr (Or.inr (Or.inr (Or.inr (Or.inr (Or.inr (Or.inr (Or.inr (Or.inr (Or.inr (Or.inr (Or.inr (Or.inr (Or.inr (Or.inr (Or.inr (Or.inr (Or.inr (Or.inr (Or.inr (Or.inr (Or.inr ?_))))))))))))))))))))))
      refine ⟨rfl, rfl, rfl, by rw [e69]; exact c2, k1, by rw [e69]; exact c4, by rw [e68, lt_nI (by omega) (by omega)]; omega, by rw [a1 13 (by decide) (by decide)]; exact r3, j14, by rw [a1 13 (by decide) (by decide)]; exact r5⟩
  refine ⟨iC κ1, rJ σ1, cV κ i, c10, r18, b3, by rw [hve]; exact b3, b4, ⟨n, r16, ?_, hn⟩, by omega, by omega, ?_⟩
  · rw [eV, ← rV12, ← o5]
    exact tn.2.2.2.1
  · refine (ss κ' σ' _ _ hfn ext (fun _ => False) [] ?_ ?_ ?_ ⟨Nat.zero_le _, fun L0 t h ph r e => ?_⟩).1 gEnd
    · rw [o2]; rfl
    · rw [o3]; rfl
    · show 0 + 0 ≤ oC κ1
      omega
    · have := congrArg List.length e
      simp at this
/-- what is told of the text, and stays while the story is played -/
def Sta (b : Nat) (κ : Km) (σ : Rm) : Prop := (kI κ 67 2 = nI b ∧ sI σ 18 = nI b ∧ 1 ≤ b ∧ b ≤ 12 ∧ b ≤ kB κ) ∧ (∃ m, kI κ 68 2 = nI m ∧ m ≤ 9500 ∧ m ≤ kW κ 69 ∧ m ≤ kW κ 70) ∧ (∃ c, sI σ 34 = nI c ∧ c ≤ 1000) ∧
  ∀ i, i < b → ∃ s n v a j, s < 2 ∧ n ≤ 4 ∧ (s = 1 → n ≤ 1) ∧ n ≤ v ∧ v ≤ 12 ∧ (kI κ (1000 + 8 * i) 2 = nI s ∧ kI κ (1000 + 8 * i) 4 = nI n ∧ kI κ (1000 + 8 * i) 5 = nI v ∧ kI κ (1000 + 8 * i) 6 = nI a ∧ kI κ (1000 + 8 * i) 3 = aI σ 22 i) ∧ (aI σ 19 i = nI s ∧ aI σ 20 i = nI n ∧ aI σ 21 i = nI v ∧ aI σ 23 i = nI j) ∧ a < 9500 ∧ j < 9500 ∧ Good2 κ σ (fun _ => False) (i, a, j, [], 0, 0)
theorem sta_of (hb1 : 1 ≤ b) (li : LI N b P κ0 σ0 κ σ) (lf : LkF κ κ') (lk : ∀ i k, i < b → bdS κ i ≤ k → k < bdE κ i → Lkd N b κ i k (kI κ' 70 k)) (ad : AsD σ σ' b (rA σ)) (nf : NoF N b κ) : Sta b κ' σ' := by
  obtain ⟨ho, hbs, cd, tp, ls, w0⟩ := li.link
  obtain ⟨-, -, -, -, -, hJ9, hI9⟩ := li.asks
  have cd' := lf.cd cd
  obtain ⟨bt, ⟨i1, i2, i3, i4, i5⟩, rec, -⟩ := id li
  obtain ⟨pq, bo, bb12, bbk, bB12, b67, b18, bw, bfw, bbn⟩ := bt
  have hN : N ≤ 3000 := pq.1.2.2.2.1
  have hp := pq.2.2.2.2.2.1
  refine ⟨⟨(lf.2.1 2 (by decide)).trans b67, (congrFun (ad.1 18 (by decide) (by decide)) 0).trans b18, hb1, bb12, by rw [lf.w.2.2.1]; exact bbk⟩, ⟨iC κ, cd'.1, hI9, cd'.2.2.1, cd'.2.2.2⟩, ⟨rC σ, (congrFun (ad.1 34 (by decide) (by decide)) 0).trans pq.2.2.2.2.2.2.2.2.2.2.2.2.2.1, by omega⟩, fun i hi => ?_⟩
  obtain ⟨a, j, v, g1, g2, g3, g4, g5, ⟨n', g6, g7, g8⟩, g9, g10, g11⟩ := body_good li hi lf lk ad nf
  obtain ⟨s, n, h1, h2, h3, h4, h5, h6, h7⟩ := (rec i hi).kind
  have en : n' = n := (nI_eq (by omega) (by omega)).mp (g6.symm.trans h7)
  have e1 : kI κ' (1000 + 8 * i) = kI κ (1000 + 8 * i) := lf.1 _ (by omega) (by omega)
  obtain ⟨_, _, _, _, _, _, _, _, _, _, _, h22⟩ := rec i hi
  rw [e1, ad.1 19 (by decide) (by decide), ad.1 20 (by decide) (by decide), ad.1 21 (by decide) (by decide), ad.1 22 (by decide) (by decide), ad.1 23 (by decide) (by decide)]
  exact ⟨s, n, v, a, j, h1, h2, h3, by omega, g5, ⟨h4, h5, g3, g1, h22⟩, ⟨h6, h7, g4, g2⟩, g9, g10, g11⟩
end ALLGOOD
