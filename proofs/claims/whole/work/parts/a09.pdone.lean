/-! a body is read by both -/
section BDONE
variable {X : Cx} {N b P n s : Nat} {κ κ1 κ2 κ5 : Km} {σ σ1 σ2 σ6 : Rm}
/-- handles that reading changes -/
abbrev hRd (h : Nat) : Prop := h = 67 ∨ h = 68 ∨ h = 69 ∨ h = 70 ∨ h = 72 ∨ h = 77 ∨ (1000 ≤ h ∧ (h % 8 = 0 ∨ h % 8 = 1))
/-- the class while it reads -/
def KR (κ κ' : Km) : Prop := (∀ h, ¬ hRd h → kI κ' h = kI κ h ∧ kL κ' h = kL κ h ∧ kW κ' h = kW κ h) ∧ kV κ' = kV κ ∧ RG κ κ' ∧ kB κ ≤ kB κ'
theorem KR.refl : KR κ κ := ⟨fun _ _ => ⟨rfl, rfl, rfl⟩, rfl, RG.refl, Nat.le_refl _⟩
theorem KR.trans (a : KR κ κ1) (b : KR κ1 κ2) : KR κ κ2 := ⟨fun h n => ⟨(b.1 h n).1.trans (a.1 h n).1, (b.1 h n).2.1.trans (a.1 h n).2.1, (b.1 h n).2.2.trans (a.1 h n).2.2⟩, b.2.1.trans a.2.1, a.2.2.1.trans b.2.2.1, Nat.le_trans a.2.2.2 b.2.2.2⟩
abbrev qR (k : Nat) : Prop := qB k ∨ qP k
/-- catches belong to tries -/
def TcO (σ : Rm) : Prop := ∀ c, c < rC σ → ∃ t, aI σ 45 c = nI t ∧ t < rT σ ∧ t < 1000
/-- numbers behind the end of a body -/
def NuE (κ2 : Km) (σ2 : Rm) (κ5 : Km) (σ6 : Rm) : Prop := pC κ5 = pC κ2 ∧ iC κ5 = iC κ2 + 2 ∧ rJ σ6 = rJ σ2 + 2 ∧ rA σ6 = rA σ2 ∧ rT σ6 = rT σ2 ∧ rC σ6 = rC σ2
theorem ed_nu (ps : Ps κ2 σ2 N b P) (ec : EdC b κ2 κ5) (er : EdR b σ2 σ6) (hi : iC κ2 ≤ 9500) (hj : rJ σ2 ≤ 9500) : NuE κ2 σ2 κ5 σ6 ∧ oC κ5 = oC κ2 ∧ rU σ6 = rU σ2 ∧ rK σ6 = rK σ2 ∧ rE σ6 = rE σ2 ∧ Pq κ5 σ6 N := by
  obtain ⟨c1, c2, c3, c4, c5, c6, c7, c8, c9⟩ := ec
  obtain ⟨r1, r2, r3, r4, r5, r6, r7, r8⟩ := er
  have K : ∀ h, h ≠ 68 → h ≠ 69 → h ≠ 70 → h ≠ 1000 + 8 * b → kI κ5 h = kI κ2 h ∧ kL κ5 h = kL κ2 h ∧ kW κ5 h = kW κ2 h := fun h h1 h2 h3 h4 => c5.1 h (by omega)
  have S : ∀ k, (k < 13 ∨ 17 < k) → k ≠ 21 → k ≠ 37 → sI σ6 k = sI σ2 k := fun k h1 h2 h3 => congrFun (r1 k (by omega)).1 0
  have A : ∀ k, (k < 13 ∨ 17 < k) → k ≠ 21 → k ≠ 37 → aI σ6 k = aI σ2 k ∧ aL σ6 k = aL σ2 k := fun k h1 h2 h3 => r1 k (by omega)
  have e72 := (K 72 (by decide) (by decide) (by decide) (by omega)).1
  have e74 := K 74 (by decide) (by decide) (by decide) (by omega)
  have e75 := K 75 (by decide) (by decide) (by decide) (by omega)
  have e76 := K 76 (by decide) (by decide) (by decide) (by omega)
  have e77 := (K 77 (by decide) (by decide) (by decide) (by omega)).1
  have m1 : pC κ5 = pC κ2 := by unfold pC; rw [e72]
  have m2 : oC κ5 = oC κ2 := by unfold oC; rw [e77]
  have m3 : iC κ5 = iC κ2 + 2 := by unfold iC at *; rw [c1, cl_nI (by omega)]
  have m4 : rJ σ6 = rJ σ2 + 2 := by unfold rJ at *; rw [r2, cl_nI (by omega)]
  have m5 : rU σ6 = rU σ2 := by unfold rU; rw [S 44 (by decide) (by decide) (by decide)]
  have m6 : rA σ6 = rA σ2 := by unfold rA; rw [S 41 (by decide) (by decide) (by decide)]
  have m7 : rT σ6 = rT σ2 := by unfold rT; rw [S 29 (by decide) (by decide) (by decide)]
  have m8 : rC σ6 = rC σ2 := by unfold rC; rw [S 34 (by decide) (by decide) (by decide)]
  have m10 : rK σ6 = rK σ2 := by unfold rK; rw [S 35 (by decide) (by decide) (by decide)]
  have m11 : rE σ6 = rE σ2 := by unfold rE; rw [S 36 (by decide) (by decide) (by decide)]
  refine ⟨⟨m1, m3, m4, m6, m7, m8⟩, m2, m5, m10, m11, ps.1.1.fr e74.1 e75.1 e76.2.1 ⟨e74.2.2, e75.2.2, e76.2.2⟩ (by rw [e72]) (A 5 (by decide) (by decide) (by decide)).1 (A 6 (by decide) (by decide) (by decide)).1 (A 7 (by decide) (by decide) (by decide)).1 (A 8 (by decide) (by decide) (by decide)).1 (A 9 (by decide) (by decide) (by decide)).2, ?_⟩
  obtain ⟨b1, b2, b3, b4, b5, b6, b7, b8, b9, b10, b11, b12, b13, b14, b15, b16, b17⟩ := ps.2
  unfold PB
  rw [m1, m2, m3, m4, m5, m6, m7, m8, m10, m11, e72, e74.1, e75.1, e77, S 10 (by decide) (by decide) (by decide), S 12 (by decide) (by decide) (by decide), S 29 (by decide) (by decide) (by decide), S 34 (by decide) (by decide) (by decide), S 44 (by decide) (by decide) (by decide), S 41 (by decide) (by decide) (by decide), S 35 (by decide) (by decide) (by decide), S 36 (by decide) (by decide) (by decide)]
  exact ⟨b1, b2, b3, b4, b5, b6, b7, b8, c1, c4, r2, b12, b13, b14, b15, b16, b17⟩
theorem Lst.ex (S : Nat → Prop) : ∃ x, Lst S x := by
  have key : ∀ m, (∃ x, x ≤ 5000 ∧ ∀ z, z ≤ m → z ≤ 5000 → (z ≤ x ↔ ∀ y, S y → z ≤ y)) := by
    intro m
    induction m with
    | zero => exact ⟨5000, Nat.le_refl _, fun z hz _ => ⟨fun _ y _ => by omega, fun _ => by omega⟩⟩
    | succ m ih =>
      obtain ⟨x, h1, h2⟩ := ih
      by_cases c : m + 1 ≤ 5000 ∧ ∀ y, S y → m + 1 ≤ y
      · refine ⟨5000, Nat.le_refl _, fun z hz hz5 => ⟨fun _ y hy => ?_, fun _ => hz5⟩⟩
        have := c.2 y hy
        omega
      · by_cases c5 : m + 1 ≤ 5000
        · refine ⟨min x m, by omega, fun z hz hz5 => ?_⟩
          by_cases e : z = m + 1
          · subst e
            exact ⟨fun g => by omega, fun g => absurd ⟨c5, g⟩ c⟩
          · have := h2 z (by omega) hz5
            rw [← this]
            omega
        · exact ⟨x, h1, fun z hz hz5 => h2 z (by omega) hz5⟩
  obtain ⟨x, h1, h2⟩ := key 5000
  exact ⟨x, h1, fun z hz => h2 z hz hz⟩
/-- the place of the 13th name, as a fault -/
theorem q13_fN {D : List Nat} {x : Int32} (h : x = (match D[12]? with | some t => kI κ 75 t | none => -9)) (hp : ∀ t, D[12]? = some t → kI κ 75 t = nI (plT κ t)) : q13 κ D = fN x := by
  unfold q13
  cases e : D[12]? with
  | none => rw [h, e]; exact fN_neg.symm
  | some t =>
    rw [h, e]
    show plT κ t = fN (kI κ 75 t)
    rw [hp t e, fN_nI]
    · unfold plT
      have := Int32.toNatClampNeg_lt (kI κ 75 t)
      omega
theorem mn3 {a P q M : Nat} : min (min (min a P) q) M = min a (min P (min q M)) := by omega
theorem body_done (bt : BT κ σ N b P) (hb : HB N b P n s κ σ κ1 σ1) (hn : n ≤ 4 ∧ (s = 1 → n ≤ 1)) (hs : s ≤ 1) (st : ST N b P 0 κ1 σ1 κ2 σ2) (bd : iC κ2 ≤ 9500 ∧ rJ σ2 ≤ 9500 ∧ rT σ2 ≤ 600 ∧ rC σ2 ≤ 900 ∧ rU σ2 ≤ 1500 ∧ rA σ2 ≤ 1500) (tc : TcO σ) (ec : EdC b κ2 κ5) (er : EdR b σ2 σ6) (hP5 : P ≤ 5000) : ∃ P', BT κ5 σ6 N (b + 1) P' ∧ Rec N b κ5 σ6 ∧ Pst b κ σ κ5 σ6 ∧ TcO σ6 ∧ Lst (fun p => p = P ∨ FSc N κ5 b p) P' ∧ KR κ κ5 ∧ AF qR σ σ6 ∧ kI κ5 77 5 = kI κ 77 5 ∧ bdS κ5 b = iC κ ∧ NuE κ2 σ2 κ5 σ6 := by
  have st' := st
  have hb' := hb
  have ec' := ec
  have er' := er
  obtain ⟨d1, d2, d3, d4, d5, d6⟩ := bd
  obtain ⟨ps, tr, ⟨tcs, us⟩, ss, ds⟩ := st
  obtain ⟨⟨p5, m3, m4, m6, m7, m8⟩, m2, m5, m10, m11, pq⟩ := ed_nu ps ec er d1 d2
  obtain ⟨hps, ⟨g1, g2, g3, g4, g5, g6, g7, g8, g9, g10, g11⟩, kh, h775, h672, h18, ⟨f2, f4, f6⟩, ⟨f, hf, ff3, f22⟩, r19, r20, r23, r21, bn, af1, n9⟩ := hb
  obtain ⟨pq0, bo, bb12, bbk, bB12, b67, b18, bw, bfw, bbn⟩ := bt
  obtain ⟨c1, ⟨c2a, c2b, c2c⟩, c3, c4, c5, c6, c7, c8, c9⟩ := ec
  obtain ⟨e1, e2, ⟨e3a, e3b, e3c⟩, e4, e5, e6, e7, e8⟩ := er
  obtain ⟨⟨tf1, tf2, tf3, tf4, tf5, tf6, tf7⟩, af2, tw, tn⟩ := tr
  obtain ⟨w1, w2, w3, w4, w5, w6, w7, w8, w9, w10, w11, w12⟩ := tw
  have hb11 : b < 12 := ps.1.2.2.2.1
  have ho2 : oC κ2 = oC κ1 := ds.2.2.2.2.2.2.2.2.1
  have us0 : UsA N κ2 σ2 (iC κ1) (iC κ2) (rJ σ1) (rJ σ2) 0 (rU σ2) (rA σ1) (rA σ2) n (rV σ2) := by rw [← g9, ← g5]; exact us
  have K5 : ∀ h, h ≠ 68 → h ≠ 69 → h ≠ 70 → h ≠ 1000 + 8 * b → kI κ5 h = kI κ2 h ∧ kL κ5 h = kL κ2 h ∧ kW κ5 h = kW κ2 h := fun h h1 h2 h3 h4 => c5.1 h (by omega)
  have A6 : ∀ k, (k < 13 ∨ 17 < k) → k ≠ 21 → k ≠ 37 → aI σ6 k = aI σ2 k ∧ aL σ6 k = aL σ2 k := fun k h1 h2 h3 => e1 k (by omega)
  have bdy : ∀ i, i < b → kI κ5 (1000 + 8 * i) = kI κ (1000 + 8 * i) ∧ kL κ5 (1001 + 8 * i) = kL κ (1001 + 8 * i) := fun i hi => by
    have x5 := K5 (1000 + 8 * i) (by omega) (by omega) (by omega) (by omega)
    have y5 := K5 (1001 + 8 * i) (by omega) (by omega) (by omega) (by omega)
    have x2 := tf1.1 (1000 + 8 * i) (by unfold hP hE; omega)
    have y2 := tf1.1 (1001 + 8 * i) (by unfold hP hE; omega)
    have x1 := kh.1 (1000 + 8 * i) (by unfold hB; omega)
    have y1 := kh.1 (1001 + 8 * i) (by unfold hB; omega)
    exact ⟨x5.1.trans (x2.1.trans x1.1), y5.2.1.trans (y2.2.1.trans y1.2.1)⟩
  have tok : ∀ h, h = 74 ∨ h = 75 ∨ h = 76 → kI κ5 h = kI κ2 h ∧ kL κ5 h = kL κ2 h ∧ kI κ2 h = kI κ h ∧ kL κ2 h = kL κ h := fun h hh => by
    have x5 := K5 h (by omega) (by omega) (by omega) (by omega)
    have x2 := tf1.1 h (by unfold hP hE; omega)
    have x1 := kh.1 h (by unfold hB; omega)
    exact ⟨x5.1, x5.2.1, x2.1.trans x1.1, x2.2.1.trans x1.2.1⟩
  have rows0 : ∀ h, h = 69 ∨ h = 70 → kI κ1 h = kI κ h := fun h hh => (kh.1 h (by unfold hB; omega)).1
  have fld : ∀ k, k ≠ 5 → k ≠ 7 → k ≠ 8 → kI κ5 (1000 + 8 * b) k = kI κ1 (1000 + 8 * b) k := fun k h5 h7 h8 => (c7 k h7).trans (tf5 k h5 h8)
  have rb : ∀ k i, (k = 19 ∨ k = 20 ∨ k = 22 ∨ k = 23) → aI σ6 k i = aI σ1 k i := fun k i hk => by
    rw [(A6 k (by omega) (by omega) (by omega)).1, (af2 k (by unfold qP qE; omega)).1]
  have hNm : N ≤ 3000 := ps.p3.2
  obtain ⟨M, hM⟩ := Lst.ex (fun p => MsR σ2 (rV σ2) 0 (rU σ2) p)
  have nf := ps.1.2.2.2.2
  obtain ⟨E, D, n1, n2, n3, n4, n5, n6, n7, n8, nE, n9, n10, n11, n12, n13⟩ := nf
  have hq13 : q13 κ2 D = fN (kI κ2 (1000 + 8 * b) 8) := q13_fN n7 (fun t ht => by
    obtain ⟨f, f1, f2, f3, f4⟩ := ps.1.1.pl2 (Nat.le_trans (n2 t (List.mem_of_getElem? ht)).1 ps.2.2.2.2.2.1)
    rw [f1, f4])
  have q5 : q13 κ2 D ≤ 5000 := by
    unfold q13
    cases e : D[12]? with
    | none => exact Nat.le_refl _
    | some t =>
      obtain ⟨f, f1, f2, f3, f4⟩ := ps.1.1.pl2 (Nat.le_trans (n2 t (List.mem_of_getElem? e)).1 ps.2.2.2.2.2.1)
      show plT κ2 t ≤ 5000
      omega
  have e67 : kI κ5 67 = kI κ2 67 := (K5 67 (by decide) (by decide) (by decide) (by omega)).1
  have fs : ∀ p, FSc N κ5 b p ↔ (p = q13 κ2 D ∨ MsR σ2 (rV σ2) 0 (rU σ2) p) := fun p => by
    have eS : bdS κ5 b = iC κ1 := by unfold bdS; rw [fld 6 (by decide) (by decide) (by decide), f6, cl_nI (by omega)]; omega
    have eE : bdE κ5 b = iC κ2 + 2 := by unfold bdE; rw [c8, cl_nI (by omega)]
    have eV : cV κ5 b = cV κ2 b := by unfold cV; rw [c7 5 (by decide)]
    have eN := (K5 (1001 + 8 * b) (by omega) (by omega) (by omega) (by omega)).2.1
    unfold FSc
    rw [eS, eE, c7 8 (by decide), ← hq13, MsL.ext w1 c2a c2c, miss_iff ps us0 (by omega)]
    refine ⟨fun z => z.elim Or.inl (fun z => Or.inr (z.to (fun k l1 l2 => ⟨(c3 k l2).1.symm, (c3 k l2).2.symm⟩) eV.symm eN.symm (tok 75 (by omega)).1.symm (tok 76 (by omega)).2.1.symm)), fun z => z.elim Or.inl (fun z => Or.inr (z.to (fun k l1 l2 => c3 k l2) eV eN (tok 75 (by omega)).1 (tok 76 (by omega)).2.1))⟩
  refine ⟨min P (min (q13 κ2 D) M), ⟨pq, by omega, by omega, ?_, ?_, ?_, ?_, fun i hi => ?_, ⟨by rw [e67]; exact n10, e7, ?_⟩, fun i hi => ?_⟩, ⟨κ1, σ1, κ2, σ2, P, n, s, st', ⟨g2, g11, g10, g5, g9, hs, hn.1, hn.2, d1, d2, d3, d4, d5, d6⟩, ⟨fun k l1 l2 => c3 k l2, ⟨c2a, c2b, c2c⟩, w1, by omega, ⟨?_, ?_, c7 5 (by decide), ?_, c8, c7 8 (by decide), (K5 (1001 + 8 * b) (by omega) (by omega) (by omega) (by omega)).2.1⟩, (tok 74 (by omega)).1, (tok 75 (by omega)).1, (tok 76 (by omega)).2.1⟩, ⟨fun q l1 l2 => ?_, fun u q t v l1 l2 l3 l4 l5 l6 => ?_, ⟨e3a, e3b, e3c⟩, w2, by omega, fun u l1 l2 => ?_, by omega, fun t l1 l2 => ?_, by omega, fun c l1 l2 => ?_, by omega, fun c t l1 l2 l3 l4 l5 => ?_, ⟨?_, ?_, ?_, ?_⟩, (A6 9 (by decide) (by decide) (by decide)).2, (A6 6 (by decide) (by decide) (by decide)).1⟩, ?_⟩, ⟨by omega, fun k hk => ?_, bdy, ⟨(tok 74 (by omega)).1.trans (tok 74 (by omega)).2.2.1, (tok 75 (by omega)).1.trans (tok 75 (by omega)).2.2.1, (tok 76 (by omega)).2.1.trans (tok 76 (by omega)).2.2.2⟩, ⟨by omega, by omega, by omega, by omega⟩, fun q hq => ?_, fun u hu => ?_, fun t ht => ?_, fun c hc => ?_, fun c t l1 l2 l3 l4 => ?_, fun i hi => ?_, ?_, ?_⟩, fun c hc => ?_, ?_, ⟨fun h hh => ?_, ?_, ?_, ?_⟩, fun k hk => ?_, ?_, ?_, ⟨p5, m3, m4, m6, m7, m8⟩⟩
  · rw [c5.2.2.1]; exact ps.1.2.2.1
  · rw [c5.2.2.1, tf1.2.2.1]; exact kh.2.2.2.2.1
  · rw [e67, tf4]; exact h672
  · have x1 : sI σ6 18 = sI σ2 18 := congrFun (A6 18 (by decide) (by decide) (by decide)).1 0
    have x2 : sI σ2 18 = sI σ1 18 := congrFun (af2 18 (by unfold qP qE; omega)).1 0
    rw [x1, x2]; exact h18
  · rw [c5.2.2.1, tf1.2.2.1] at hi
    rw [(K5 (1001 + 8 * i) (by omega) (by omega) (by omega) (by omega)).2.2]
    by_cases c : i = b
    · rw [c]; exact n5
    · rw [(tf1.1 (1001 + 8 * i) (by unfold hP hE; omega)).2.2]
      exact kh.2.2.2.2.2.2 i hi
  · have x := e8.uniq ((Lst.one (fN_le _ n11)).or hM)
    rw [x, n12, e67]
    exact mn3
  · obtain ⟨t, t1, t2, t3, t4⟩ := bn i hi
    have x26 : aL σ6 26 = aL σ1 26 := (A6 26 (by decide) (by decide) (by decide)).2.trans (af2 26 (by unfold qP qE; omega)).2
    have x9 : aL σ6 9 = aL σ1 9 := (A6 9 (by decide) (by decide) (by decide)).2.trans (af2 9 (by unfold qP qE; omega)).2
    have y74 : kI κ5 74 = kI κ1 74 := (tok 74 (by omega)).1.trans (tf1.1 74 (by unfold hP hE; omega)).1
    have y76 : kL κ5 76 = kL κ1 76 := (tok 76 (by omega)).2.1.trans (tf1.1 76 (by unfold hP hE; omega)).2.1
    have yb : kL κ5 (1000 + 8 * i) = kL κ1 (1000 + 8 * i) := by
      by_cases c : i = b
      · rw [c, c9]; exact tf6
      · rw [(K5 (1000 + 8 * i) (by omega) (by omega) (by omega) (by omega)).2.1]
        exact (tf1.1 (1000 + 8 * i) (by unfold hP hE; omega)).2.1
    exact ⟨t, t1, by rw [y74]; exact t2, by rw [yb, y76]; exact t3, by rw [x26, x9]; exact t4⟩
  · rw [fld 2 (by decide) (by decide) (by decide)]; exact f2
  · rw [fld 4 (by decide) (by decide) (by decide)]; exact f4
  · rw [fld 6 (by decide) (by decide) (by decide), f6, g3]
  · obtain ⟨x1, x2, x3, x4⟩ := e4 q l2
    refine ⟨x1, x2, x3, fun h2 => x4 (fun u hu z => ?_)⟩
    obtain ⟨t, k, q', t1, t2, t3, q1, q2, q3, q4, -⟩ := us0.2.1 u (Nat.zero_le _) hu
    have : q' = q := (nI_eq (by omega) (by omega)).mp (q3.symm.trans z)
    rw [← this] at h2
    exact h2 q4
  · obtain ⟨t', k, q', t1, t2, t3, q1, q2, q3, q4, -⟩ := us0.2.1 u (Nat.zero_le _) l1
    have : q' = q := (nI_eq (by omega) (by omega)).mp (q3.symm.trans l4)
    exact ⟨by omega, e5 u q t v l1 l2 l3 l4 l5 l6⟩
  · rw [(A6 38 (by decide) (by decide) (by decide)).1, (A6 39 (by decide) (by decide) (by decide)).1, (A6 40 (by decide) (by decide) (by decide)).1]
    exact ⟨rfl, rfl, rfl⟩
  · rw [(A6 27 (by decide) (by decide) (by decide)).1, (A6 28 (by decide) (by decide) (by decide)).1]
    exact ⟨rfl, rfl⟩
  · rw [(A6 30 (by decide) (by decide) (by decide)).1, (A6 31 (by decide) (by decide) (by decide)).1, (A6 32 (by decide) (by decide) (by decide)).1, (A6 33 (by decide) (by decide) (by decide)).1, (A6 45 (by decide) (by decide) (by decide)).1]
    exact ⟨rfl, rfl, rfl, rfl, rfl⟩
  · refine ⟨Nat.le_of_not_lt (fun z => ?_), by omega⟩
    obtain ⟨t', y1, y2, y3⟩ := tc c (by omega)
    rw [(A6 45 (by decide) (by decide) (by decide)).1, (w12 c z).2.2.2.2, (af1 45 (by unfold qB; omega)).1, y1] at l2
    have := (nI_eq (by omega) (by omega)).mp l2
    omega
  · rw [rb 19 b (by omega), r19, if_pos rfl]
  · rw [rb 20 b (by omega), r20, if_pos rfl]
  · rw [e6, if_pos rfl]
  · rw [rb 23 b (by omega), r23, if_pos rfl, g4]
  · rw [fld 3 (by decide) (by decide) (by decide), ff3, rb 22 b (by omega), f22, if_pos rfl]
  · rw [(c3 k (by omega)).1, (c3 k (by omega)).2, (w7 k (by omega)).1, (w7 k (by omega)).2, rows0 69 (by omega), rows0 70 (by omega)]
    exact ⟨rfl, rfl⟩
  · obtain ⟨x1, x2, x3, x4⟩ := e4 q (by omega)
    obtain ⟨y1, y2, y3, y4⟩ := w8 q (by omega)
    have z14 : aI σ6 14 q = aI σ2 14 q := x4 (fun u hu z => by
      obtain ⟨t, k, q', t1, t2, t3, q1, q2, q3, q4, -⟩ := us0.2.1 u (Nat.zero_le _) hu
      have : q' = q := (nI_eq (by omega) (by omega)).mp (q3.symm.trans z)
      omega)
    rw [x1, x2, x3, z14, y1, y2, y3, y4, (af1 13 (by unfold qB; omega)).1, (af1 14 (by unfold qB; omega)).1, (af1 15 (by unfold qB; omega)).1, (af1 16 (by unfold qB; omega)).1]
    exact ⟨rfl, rfl, rfl, rfl⟩
  · obtain ⟨y1, y2, y3⟩ := w10 u (by omega)
    rw [(A6 38 (by decide) (by decide) (by decide)).1, (A6 39 (by decide) (by decide) (by decide)).1, (A6 40 (by decide) (by decide) (by decide)).1, y1, y2, y3, (af1 38 (by unfold qB; omega)).1, (af1 39 (by unfold qB; omega)).1, (af1 40 (by unfold qB; omega)).1]
    exact ⟨rfl, rfl, rfl⟩
  · obtain ⟨y1, y2⟩ := w11 t (by omega)
    rw [(A6 27 (by decide) (by decide) (by decide)).1, (A6 28 (by decide) (by decide) (by decide)).1, y1, y2, (af1 27 (by unfold qB; omega)).1, (af1 28 (by unfold qB; omega)).1]
    exact ⟨rfl, rfl⟩
  · obtain ⟨y1, y2, y3, y4, y5⟩ := w12 c (by omega)
    rw [(A6 30 (by decide) (by decide) (by decide)).1, (A6 31 (by decide) (by decide) (by decide)).1, (A6 32 (by decide) (by decide) (by decide)).1, (A6 33 (by decide) (by decide) (by decide)).1, (A6 45 (by decide) (by decide) (by decide)).1, y1, y2, y3, y4, y5, (af1 30 (by unfold qB; omega)).1, (af1 31 (by unfold qB; omega)).1, (af1 32 (by unfold qB; omega)).1, (af1 33 (by unfold qB; omega)).1, (af1 45 (by unfold qB; omega)).1]
    exact ⟨rfl, rfl, rfl, rfl, rfl⟩
  · obtain ⟨t', y1, y2, y3, y4⟩ := tcs c (by omega) (by omega)
    rw [(A6 45 (by decide) (by decide) (by decide)).1, y1] at l4
    have := (nI_eq (by omega) (by omega)).mp l4
    omega
  · have ni : i ≠ b := by omega
    refine ⟨?_, ?_, ?_, ?_, ?_⟩
    · rw [rb 19 i (by omega), r19, if_neg ni]
    · rw [rb 20 i (by omega), r20, if_neg ni]
    · rw [e6, if_neg ni, (af2 21 (by unfold qP qE; omega)).1, r21]
    · rw [rb 22 i (by omega), f22, if_neg ni]
    · rw [rb 23 i (by omega), r23, if_neg ni]
  · exact (A6 9 (by decide) (by decide) (by decide)).2.trans ((af2 9 (by unfold qP qE; omega)).2.trans (af1 9 (by unfold qB; omega)).2)
  · exact (A6 6 (by decide) (by decide) (by decide)).1.trans ((af2 6 (by unfold qP qE; omega)).1.trans (af1 6 (by unfold qB; omega)).1)
  · have x45 := (A6 45 (by decide) (by decide) (by decide)).1
    by_cases cc : c < rC σ1
    · obtain ⟨t, y1, y2, y3⟩ := tc c (by omega)
      exact ⟨t, by rw [x45, (w12 c cc).2.2.2.2, (af1 45 (by unfold qB; omega)).1]; exact y1, by omega, y3⟩
    · obtain ⟨t, y1, y2, y3, y4⟩ := tcs c (by omega) (by omega)
      exact ⟨t, by rw [x45]; exact y1, by omega, y4⟩
  · refine ((Lst.one hP5).or ((Lst.one q5).or hM)).cong (fun p _ => ?_)
    rw [fs p]
  · have x5 := K5 h (fun z => hh (by unfold hRd; omega)) (fun z => hh (by unfold hRd; omega)) (fun z => hh (by unfold hRd; omega)) (fun z => hh (by unfold hRd; omega))
    have x2 := tf1.1 h (fun z => hh (by unfold hP hE at z; unfold hRd; omega))
    have x1 := kh.1 h (fun z => hh (by unfold hB at z; unfold hRd; omega))
    exact ⟨x5.1.trans (x2.1.trans x1.1), x5.2.1.trans (x2.2.1.trans x1.2.1), x5.2.2.trans (x2.2.2.trans x1.2.2)⟩
  · rw [c5.2.2.2, tf1.2.2.2]; exact kh.2.1
  · exact kh.2.2.1.trans (tf2.trans c6)
  · rw [c5.2.2.1, tf1.2.2.1]; exact kh.2.2.2.1
  · have x1 := af1 k (fun z => hk (Or.inl z))
    have x2 := af2 k (fun z => hk (Or.inr z))
    have x6 := e1 k (fun z => hk (by unfold qR qB qP qE; omega))
    exact ⟨x6.1.trans (x2.1.trans x1.1), x6.2.trans (x2.2.trans x1.2)⟩
  · have x5 := (K5 77 (by decide) (by decide) (by decide) (by omega)).1
    rw [x5, tn.2.2.2.2.2]; exact h775
  · unfold bdS
    rw [fld 6 (by decide) (by decide) (by decide), f6, cl_nI (by omega)]
end BDONE
