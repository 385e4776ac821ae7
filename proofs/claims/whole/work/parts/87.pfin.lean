/-! try: finally, or none -/
section TRF
variable {X : Cx} {N b P : Nat} {κ κ0 κn κk κb κp κ' : Km} {σ σ0 σn σk σb σ' : Rm}
/-- no finally -/
theorem fin_no {lv : List Nat} {p f : Nat} {κa : Km} (h : Ps κ σ N b P) (hb : Bds κ σ) (t00 : T00 N b P κ σ κk σk κb σb κ0 σ0) (ti : TyI N b P κ σ κ0 σ0 κn σn lv p f) (hf : 1 ≤ f) (pl : PL N b P κn σn lv κp) (ad : AdC κp κa 44 0) : ST N b P 1 κ σ κa (wI σn 28 (rT σ) (nI (rJ σn))) ∧ pC κ < pC κa := by
  have ho2 : oC κ ≤ 24 := h.2.2.2.2.2.2.2.2.1
  have bi := hb.1.i h
  obtain ⟨⟨b1, b2, b3, b4, b5, b6, b7⟩, b8, b9, b10⟩ := hb
  have t00' := t00
  have ti' := ti
  obtain ⟨a1, a2, a3, a4, ⟨c1, c2, c3, c4, c5, c6, c7, c8, c9, c10, c11⟩, o1, o2, oj, o27, bel0⟩ := t00
  obtain ⟨pn, tr0, tcN, ltN, cs, lvb, lch, llen, hlv, usN, n1, n2, n3, n4, n5, n6, n7, n8, n9, n10, n11, n12, n13, n14⟩ := ti
  have hpn := pn.p3
  have lB := a2.2.1.2.2.1.1
  have lB2 := a2.2.1.2.2.1.2.1
  have lB3 := a2.2.1.2.2.1.2.2.1
  have lB4 := a2.2.1.2.2.1.2.2.2.1
  have g1 := tr0.2.2.1.1
  have g2 := tr0.2.2.1.2.1
  have g3 := tr0.2.2.1.2.2.1
  have g4 := tr0.2.2.1.2.2.2.1
  have pl' := pl
  obtain ⟨pp, tp, ⟨q1, q2, q3, -⟩, l69, l70, l70e, l72⟩ := pl
  obtain ⟨⟨pa, ta⟩, m1, m2, m3, -⟩ := pp.addC (by omega) ad
  obtain ⟨pr, tr, r1, r2, r3, r4, r5, r6, r7, r8, r9, r10, r11⟩ := pa.pr (f := 28) (k := rT σ) (v := nI (rJ σn)) (by omega)
  have tF : T0 b κn σn κa (wI σn 28 (rT σ) (nI (rJ σn))) := (tp.trans ta.t0).trans tr
  have hle : ∀ k, k ∈ lv → k < iC κn := fun k hk => (lvb k hk).1
  have agl := ((pl'.agl (κ := κ) (σ := σ)).tw tp ta hle).pq (f := 28) (v := nI (rJ σn)) (Or.inr rfl)
  have w27 : aI (wI σn 28 (rT σ) (nI (rJ σn))) 27 (rT σ) = -9 := by
    rw [aI_ne (by decide), (tr0.2.2.1.2.2.2.2.2.2.2.2.2.2.1 (rT σ) (by omega)).1]
    exact o27
  have w28 : aI (wI σn 28 (rT σ) (nI (rJ σn))) 28 (rT σ) = nI (rJ σn) := aI_eq
  have w44 : kI κa 69 (iC κn) = 44 := by
    have := ad.2.1
    rw [q3] at this
    exact this
  have bel : Bel κ σ κa (wI σn 28 (rT σ) (nI (rJ σn))) := by
    have x1 : Bel κ σ κn σn := bel0.tw tr0.2.2.1 (b := b) (a1.trans (a2.2.1.t0.trans a3))
    have x2 : Bel κ σ κp σn := pl'.agr x1 (fun k hk => Or.inr (by have := (lvb k hk).2; omega))
    have x3 : Bel κ σ κa σn := x2.tw ta.2.2.1 (b := b) ((a1.trans (a2.2.1.t0.trans a3)).trans (tr0.t0.trans tp))
    exact x3.pq (f := 28) (k := rT σ) (Or.inl ⟨Or.inr rfl, Or.inr (Nat.le_refl _)⟩)
  generalize hσ' : wI σn 28 (rT σ) (nI (rJ σn)) = σ' at *
  have tA : T0 b κ σ κa σ' := ((a1.trans (a2.2.1.t0.trans a3)).trans tr0.t0).trans tF
  have s1 : rC σ' = rC σn := by omega
  have s2 : rT σ' = rT σn := by omega
  have s3 : iC κa = iC κn + 1 := by omega
  have s4 : rJ σ' = rJ σn := by omega
  rw [← s4] at w28
  obtain ⟨ss, tc⟩ := fin_ss ⟨by omega, by omega⟩ ho2 t00' ti' ⟨by omega, by omega⟩ tF agl (fun c h1 h2 => absurd h1 (by omega)) ⟨by omega, by omega⟩ (fun κF σF vr br hf he A L l1 l2 l3 hg g => ex_no he g (by omega) s3 (Nat.le_refl _) (by omega) ⟨w44, w27, w28⟩)
  have tn0 : T0 b κ σ κn σn := (a1.trans (a2.2.1.t0.trans a3)).trans tr0.t0
  have lu : iC κ ≤ iC κn ∧ rJ σ ≤ rJ σn ∧ rU σ ≤ rU σn ∧ rA σ ≤ rA σn ∧ rV σ ≤ rV σn := ⟨tn0.2.2.2.1, tn0.2.2.2.2.1, tn0.2.2.2.2.2.2.2.1, tn0.2.2.2.2.2.2.2.2, tn0.2.2.1.2.2.2.1⟩
  have us' : UsA N κa σ' (iC κ) (iC κa) (rJ σ) (rJ σ') (rU σ) (rU σ') (rA σ) (rA σ') (rV σ) (rV σ') := ((usN.agl agl (fun k hk => (lvb k hk).2.2) tF (Nat.le_refl _)).act (j2 := rJ σ') w44 (by decide) ⟨rfl, by omega, by omega, by omega, by omega, by omega, by omega⟩).to ⟨by omega, by omega, by omega, by omega, Nat.le_refl _⟩
  refine ⟨⟨pr, Bel.tr tA bel, ⟨tc, us'⟩, ss, ?_⟩, by omega⟩
  unfold Ds
  omega
/-- a finally -/
theorem fin_yes {lv : List Nat} {p f : Nat} {κf κg κa : Km} {σg : Rm} (h : Ps κ σ N b P) (hb : Bds κ σ) (t00 : T00 N b P κ σ κk σk κb σb κ0 σ0) (ti : TyI N b P κ σ κ0 σ0 κn σn lv p f) (pl : PL N b P κn σn lv κp) (hlt : pC κp < N) (adf : AdC (setC κp (pC κp + 1)) κf 43 0) (blk : ST N b P 0 κf (wI (wS σn 10 (nI (pC κn + 1))) 27 (rT σ) (nI (rJ σn))) κg σg) (hp2 : pC κf + 2 ≤ pC κg) (hi6 : iC κg + 6 ≤ iC κf + 3 * (pC κg - pC κf)) (hj6 : rJ σg + 6 ≤ rJ (wI (wS σn 10 (nI (pC κn + 1))) 27 (rT σ) (nI (rJ σn))) + 3 * (pC κg - pC κf)) (ht2 : 6 * rT σg + 2 ≤ 6 * rT (wI (wS σn 10 (nI (pC κn + 1))) 27 (rT σ) (nI (rJ σn))) + (pC κg - pC κf)) (hc2 : 4 * rC σg + 2 ≤ 4 * rC (wI (wS σn 10 (nI (pC κn + 1))) 27 (rT σ) (nI (rJ σn))) + (pC κg - pC κf)) (ad : AdC κg κa 45 0) : ST N b P 1 κ σ κa (wI (em σg 30 (nI (rT σ)) 0) 28 (rT σ) (nI (rJ σg + 1))) ∧ pC κ < pC κa := by
  have ho2 : oC κ ≤ 24 := h.2.2.2.2.2.2.2.2.1
  have bi := hb.1.i h
  obtain ⟨⟨b1, b2, b3, b4, b5, b6, b7⟩, b8, b9, b10⟩ := hb
  have t00' := t00
  have ti' := ti
  obtain ⟨a1, a2, a3, a4, ⟨c1, c2, c3, c4, c5, c6, c7, c8, c9, c10, c11⟩, o1, o2, oj, o27, bel0⟩ := t00
  obtain ⟨pn, tr0, tcN, ltN, cs, lvb, lch, llen, hlv, usN, n1, n2, n3, n4, n5, n6, n7, n8, n9, n10, n11, n12, n13, n14⟩ := ti
  have hpn := pn.p3
  have lB := a2.2.1.2.2.1.1
  have lB2 := a2.2.1.2.2.1.2.1
  have lB3 := a2.2.1.2.2.1.2.2.1
  have lB4 := a2.2.1.2.2.1.2.2.2.1
  have g1 := tr0.2.2.1.1
  have g2 := tr0.2.2.1.2.1
  have g3 := tr0.2.2.1.2.2.1
  have g4 := tr0.2.2.1.2.2.2.1
  have tb0 : T0 b κ σ κ0 σ0 := a1.trans (a2.2.1.t0.trans a3)
  have ibl : ∀ k, k ∈ lv → k < iC κn ∧ iC κ ≤ k := fun k hk => by have := lvb k hk; omega
  clear lB lB2 lB3 lB4 c1 c2 c3 c4 c5 c6 c7 c8 c9 c10 c11 a2 a3 a4 o1 o2 oj a1
  have pl' := pl
  obtain ⟨pp, tp, ⟨q1, q2, q3, q4, q5, q6, q7, q8, q9, q10, q11⟩, l69, l70, l70e, l72⟩ := pl
  obtain ⟨p5, t5, e1, e2, e3, e4, e5, e6, e7, e8, e9, e10, e11⟩ := pp.next hlt
  rw [q1] at p5 t5 e1 e2 e3 e4 e5 e6 e7 e8 e9 e10 e11 adf
  obtain ⟨p6, t6, f1, f2, f3, f4, f5, f6, f7, f8, f9, f10, f11⟩ := p5.pr (f := 27) (k := rT σ) (v := nI (rJ σn)) (by omega)
  obtain ⟨⟨p7, t7⟩, i1, i2, i3, i4, i5, i6, i7, i8, i9, i10, i11⟩ := p6.addC (by omega) adf
  have hle : ∀ k, k ∈ lv → k < iC κn := fun k hk => (ibl k hk).1
  have w27 : aI (wI (wS σn 10 (nI (pC κn + 1))) 27 (rT σ) (nI (rJ σn))) 27 (rT σ) = nI (rJ σn) := aI_eq
  have w43 : kI κf 69 (iC κn) = 43 := by
    have := adf.2.1
    rw [e3, q3] at this
    exact this
  have agl1 := (((pl'.agl (κ := κ) (σ := σ)).tw tp t5 hle).pq (f := 27) (v := nI (rJ σn)) (Or.inl rfl))
  have bel1 : Bel κ σ (setC κp (pC κn + 1)) (wI (wS σn 10 (nI (pC κn + 1))) 27 (rT σ) (nI (rJ σn))) := by
    have x1 : Bel κ σ κn σn := bel0.tw tr0.2.2.1 (b := b) tb0
    have x2 : Bel κ σ κp σn := pl'.agr x1 (fun k hk => Or.inr (ibl k hk).2)
    have x3 := x2.tw t5.2.2.1 (b := b) (tb0.trans (tr0.t0.trans tp))
    exact x3.pq (f := 27) (k := rT σ) (Or.inl ⟨Or.inl rfl, Or.inr (Nat.le_refl _)⟩)
  generalize hσf : wI (wS σn 10 (nI (pC κn + 1))) 27 (rT σ) (nI (rJ σn)) = σf at *
  have tnf0 : T0 b κn σn (setC κp (pC κn + 1)) σf := (tp.trans t5.t0).trans t6
  generalize hκ5 : setC κp (pC κn + 1) = κ5 at *
  have tnf : T0 b κn σn κf σf := tnf0.trans t7.t0
  have z1 : pC κf = pC κn + 1 := by omega
  have z2 : oC κf = oC κ := by omega
  have z3 : iC κf = iC κn + 1 := by omega
  have z4 : rJ σf = rJ σn := by omega
  have z5 : rU σf = rU σn := by omega
  have z6 : rA σf = rA σn := by omega
  have z7 : rT σf = rT σn := by omega
  have z8 : rC σf = rC σn := by omega
  have z9 : rV σf = rV σn := by omega
  have z10 : rK σf = rK σ := by omega
  have z11 : rE σf = rE σ := by omega
  clear q1 q2 q3 q4 q5 q6 q7 q8 q9 q10 q11 e1 e2 e3 e4 e5 e6 e7 e8 e9 e10 e11 f1 f2 f3 f4 f5 f6 f7 f8 f9 f10 f11 i1 i2 i3 i4 i5 i6 i7 i8 i9 i10 i11
  have blk' := blk
  obtain ⟨pg, tg, cg, sg', l1, l2, l3, l4, l5, l6, l7, l8, l9, l10, l11⟩ := blk
  have hpg := pg.p3
  have lG := tg.2.2.1.1
  have lG2 := tg.2.2.1.2.1
  have lG3 := tg.2.2.1.2.2.1
  have lG4 := tg.2.2.1.2.2.2.1
  have hig : iC κg < 9890 ∧ rJ σg < 11900 ∧ rT σg ≤ 999 ∧ rC σg ≤ 999 := by omega
  obtain ⟨pe, te, m1, m2, m3, m4, m5, m6, m7, m8, m9, m10, m11⟩ := act_pair (op := 30) (y := nI (rT σ)) (z := 0) pg (by omega) (by omega) ad
  have se := em_at (σ := σg) (x := 30) (y := nI (rT σ)) (z := 0)
  have sea : ∀ g, 17 < g → aI (em σg 30 (nI (rT σ)) 0) g = aI σg g := fun g hg => em_a (Or.inr hg)
  generalize hσe : em σg 30 (nI (rT σ)) 0 = σe at *
  obtain ⟨pr, tr, r1, r2, r3, r4, r5, r6, r7, r8, r9, r10, r11⟩ := pe.pr (f := 28) (k := rT σ) (v := nI (rJ σg + 1)) (by omega)
  have aw : ∀ g, g ≠ 28 → aI (wI σe 28 (rT σ) (nI (rJ σg + 1))) g = aI σe g := fun g hg => aI_ne hg
  have w28 : aI (wI σe 28 (rT σ) (nI (rJ σg + 1))) 28 (rT σ) = nI (rJ σg + 1) := aI_eq
  have agl := ((agl1.tw tnf0 t7 hle).tw tnf (tg.trans te) hle).pq (f := 28) (v := nI (rJ σg + 1)) (Or.inr rfl)
  have agB : Agr κf σf κg σg κa (wI σe 28 (rT σ) (nI (rJ σg + 1))) := Agr.pq (Agr.step te) (Or.inl ⟨Or.inr rfl, Or.inl (by omega)⟩)
  have bel : Bel κ σ κa (wI σe 28 (rT σ) (nI (rJ σg + 1))) := by
    have x3 := bel1.tw ((t7.trans tg).trans te).2.2.1 (b := b) (tb0.trans (tr0.t0.trans tnf0))
    exact x3.pq (f := 28) (k := rT σ) (Or.inl ⟨Or.inr rfl, Or.inr (Nat.le_refl _)⟩)
  generalize hσ' : wI σe 28 (rT σ) (nI (rJ σg + 1)) = σ' at *
  have tgF : T0 b κg σg κa σ' := te.t0.trans tr
  have tF : T0 b κn σn κa σ' := tnf.trans (tg.t0.trans tgF)
  have tA : T0 b κ σ κa σ' := (tb0.trans tr0.t0).trans tF
  have s1 : rC σ' = rC σg := by omega
  have s2 : rT σ' = rT σg := by omega
  have s3 : iC κa = iC κg + 1 := by omega
  have s4 : rJ σ' = rJ σg + 1 := by omega
  have s5 : pC κa = pC κg ∧ oC κa = oC κg ∧ rU σ' = rU σg ∧ rA σ' = rA σg ∧ rV σ' = rV σg ∧ rK σ' = rK σg ∧ rE σ' = rE σg := by omega
  clear m1 m2 m3 m4 m5 m6 m7 m8 m9 m10 m11 r1 r2 r3 r4 r5 r6 r7 r8 r9 r10 r11
  rw [← s4] at w28
  have blk45 : ∀ c, rC σn ≤ c → c < rC σ' → ∃ u, aI σ' 45 c = nI u ∧ rT σn ≤ u ∧ u < rT σ' ∧ u < 1000 := fun c d1 d2 => by
    obtain ⟨u, u1, u2, u3, u4⟩ := cg.1 c (by omega) (by omega)
    exact ⟨u, (agB.2.2.2.2.2 c (by omega) (by omega)).2.2.2.2.trans u1, by omega, by omega, u4⟩
  have v27 : aI σ' 27 (rT σ) = nI (rJ σf) := by
    rw [aw 27 (by decide), sea 27 (by decide), (tg.2.2.1.2.2.2.2.2.2.2.2.2.2.1 (rT σ) (by omega)).1, z4]
    exact w27
  have v43 : kI κa 69 (iC κn) = 43 := by
    rw [(add_old ad (k := iC κn) (by omega)).1, (tg.2.2.1.2.2.2.2.2.2.1 (iC κn) (by omega)).1]
    exact w43
  have v45 : kI κa 69 (iC κg) = 45 ∧ aI σ' 13 (rJ σg) = 30 ∧ aI σ' 14 (rJ σg) = nI (rT σ) := by
    rw [aw 13 (by decide), aw 14 (by decide)]
    exact ⟨ad.2.1, se.1, se.2.1⟩
  have iso : ∀ c u, rC σ ≤ c → c < rC σ' → u < 1000 → aI σ' 45 c = nI u → rT σf ≤ u → u < rT σg → rC σf ≤ c ∧ c < rC σg := fun c u d1 d2 d3 d4 d5 d6 => by
    by_cases c1 : c < rC σn
    · obtain ⟨w, w1, w2, w3, w4⟩ := tcN c d1 c1
      have e45 := (agl.2.2.2.2.2.1 c d1 c1).2.2.2.2
      have := (nI_eq (a := u) (b := w) (by omega) (by omega)).mp (d4.symm.trans (e45.trans w1))
      omega
    · exact ⟨by omega, by omega⟩
  have tAf : T0 b κ σ κf σf := (tb0.trans tr0.t0).trans tnf
  obtain ⟨ss, tc⟩ := fin_ss ⟨by omega, by omega⟩ ho2 t00' ti' ⟨by omega, by omega⟩ tF agl blk45 ⟨by omega, by omega⟩ (fun κF σF vr br hf he A L l1 l2 l3 hg g => ex_fin (κn := κn) hf he hg g l1 l2 l3 ho2 tAf blk' tgF agB (by omega) z3 s3 s4 (by omega) (Nat.le_refl _) (by omega) z2 z11 z10 (by omega) (by omega) (by omega) iso ⟨v43, v27, w28⟩ v45)
  have tn0 : T0 b κ σ κn σn := tb0.trans tr0.t0
  have lu : iC κ ≤ iC κn ∧ rJ σ ≤ rJ σn ∧ rU σ ≤ rU σn ∧ rA σ ≤ rA σn ∧ rV σ ≤ rV σn := ⟨tn0.2.2.2.1, tn0.2.2.2.2.1, tn0.2.2.2.2.2.2.2.1, tn0.2.2.2.2.2.2.2.2, tn0.2.2.1.2.2.2.1⟩
  have lb : rU σf ≤ rU σg ∧ rA σf ≤ rA σg ∧ rV σf ≤ rV σg := ⟨tg.2.2.1.2.2.2.2.1, tg.2.2.1.2.2.2.2.2.1, tg.2.2.2.2.2.2.1⟩
  have us' : UsA N κa σ' (iC κ) (iC κa) (rJ σ) (rJ σ') (rU σ) (rU σ') (rA σ) (rA σ') (rV σ) (rV σ') := by
    have q1 := (usN.agl agl (fun k hk => (lvb k hk).2.2) tF (Nat.le_refl _)).act (j2 := rJ σf) v43 (by decide) ⟨rfl, by omega, by omega, by omega, by omega, by omega, by omega⟩
    have q2 := q1.app (blk'.2.2.1.2.agr agB tgF (Nat.le_refl _)) ⟨by omega, by omega, by omega, by omega, by omega, by omega, by omega, by omega, by omega, by omega, by omega, by omega, by omega, by omega, by omega⟩
    have q3 := q2.act (j2 := rJ σ') v45.1 (by decide) ⟨rfl, by omega, by omega, by omega, by omega, by omega, by omega⟩
    exact q3.to ⟨by omega, by omega, by omega, by omega, Nat.le_refl _⟩
  refine ⟨⟨pr, Bel.tr tA bel, ⟨tc, us'⟩, ss, ?_⟩, by omega⟩
  unfold Ds
  omega
end TRF
