/-! try: its catches, one behind another -/
section CAN
variable {X : Cx} {N b P : Nat} {κ κ0 κn κk κb κa κ' : Km} {σ σ0 σn σk σb σ' : Rm}
/-- the JUMPs that leave: each keeps the one before it -/
def Lch (κ : Km) : List Nat → Int32 → Prop
  | [], y => y = -9
  | k :: r, y => y = nI k ∧ (∀ q, q ∈ r → q < k) ∧ Lch κ r (kI κ 70 k)
theorem Lch.keep : ∀ (lv : List Nat) (y : Int32), (∀ k, k ∈ lv → kI κ' 70 k = kI κ 70 k) → Lch κ lv y → Lch κ' lv y := by
  intro lv
  induction lv with
  | nil => exact fun y _ h => h
  | cons k r ih =>
    rintro y h ⟨a, c, d⟩
    refine ⟨a, c, ?_⟩
    rw [h k List.mem_cons_self]
    exact ih _ (fun q hq => h q (List.mem_cons_of_mem _ hq)) d
/-- the numbers -/
def TN (κ : Km) (σ : Rm) (κn : Km) (σn : Rm) (f : Nat) : Prop := pC κ < pC κn ∧ oC κn = oC κ ∧ rK σn = rK σ ∧ rE σn = rE σ ∧ iC κn + 6 ≤ iC κ + 3 * (pC κn - pC κ) ∧ rJ σn + 6 ≤ rJ σ + 3 * (pC κn - pC κ) ∧ 2 * rU σn ≤ 2 * rU σ + (pC κn - pC κ) ∧ 2 * rA σn ≤ 2 * rA σ + (pC κn - pC κ) ∧ 6 * rT σn + 4 * f ≤ 6 * rT σ + (pC κn - pC κ) + 3 ∧ 4 * rC σn ≤ 4 * rC σ + (pC κn - pC κ) ∧ 2 * rV σn ≤ 2 * rV σ + (pC κn - pC κ) ∧ rT σ < rT σn ∧ rC σ ≤ rC σn ∧ iC κ + 3 ≤ iC κn
/-- where both are between two catches -/
def TyI (N b P : Nat) (κ : Km) (σ : Rm) (κ0 : Km) (σ0 : Rm) (κn : Km) (σn : Rm) (lv : List Nat) (p f : Nat) : Prop := Ps κn σn N b P ∧ Tr b κ0 σ0 κn σn ∧ Tc σ σn ∧ Lt (rT σ) σ0 σn ∧ CS b κ σ (iC κ0) κn σn lv ∧ (∀ k, k ∈ lv → k < iC κn ∧ iC κ0 ≤ k + 1 ∧ kI κn 69 k = 15) ∧ Lch κn lv (nI p) ∧ lv.length ≤ pC κn ∧ (iC κ0 - 1) ∈ lv ∧ UsA N κn σn (iC κ) (iC κn) (rJ σ) (rJ σn) (rU σ) (rU σn) (rA σ) (rA σn) (rV σ) (rV σn) ∧ TN κ σ κn σn f
theorem catch_next {lv : List Nat} {p f : Nat} (ti : TyI N b P κ σ κ0 σ0 κn σn lv p f) (t00 : T0 b κ σ κ0 σ0) (hb : Bds κ σ) (h0 : 1 ≤ iC κ0) (h45 : rT σ < rT σ0 ∧ rC σ ≤ rC σ0) (ch : CH X N b P 2 κ σ (rT σ) κn σn κk σk) (blk : ST N b P 0 κk σk κb σb) (hp2 : pC κk + 2 ≤ pC κb) (hi6 : iC κb + 6 ≤ iC κk + 3 * (pC κb - pC κk)) (hj6 : rJ σb + 6 ≤ rJ σk + 3 * (pC κb - pC κk)) (ht2 : 6 * rT σb + 2 ≤ 6 * rT σk + (pC κb - pC κk)) (hc2 : 4 * rC σb + 2 ≤ 4 * rC σk + (pC κb - pC κk)) (ad : AdC κb κa 15 (nI p)) :
    TyI N b P κ σ κ0 σ0 (cI κa 70 (iC κn + 1) (nI (iC κa))) (em (wS σb 35 (nI (rK σ))) 29 (nI (rT σ)) 0) (iC κb :: lv) (iC κb) 1 ∧ pC κn < pC (cI κa 70 (iC κn + 1) (nI (iC κa))) ∧ kI (cI κa 70 (iC κn + 1) (nI (iC κa))) 72 = kI κb 72 := by
  obtain ⟨pn, tr0, tcN, ltN, cs, lvb, lch, llen, hlv, usN, n1, n2, n3, n4, n5, n6, n7, n8, n9, n10, n11, n12, n13, n14⟩ := ti
  obtain ⟨κd, σd, v, tok, y, x30, ⟨pk, tnk⟩, ⟨d1, d2, d3, d4, d5, d6, d7, d8, d9, d10, d11⟩, o1, o2, o3, oc, num, nf, td, u13, htok, -, dn, dnv⟩ := ch
  have blk' := blk
  obtain ⟨pb, tb, cb, sb, l1, l2, l3, l4, l5, l6, l7, l8, l9, l10, l11⟩ := blk
  have hpb := pb.p3
  obtain ⟨⟨b1, b2, b3, b4, b5, b6, b7⟩, b8, b9, b10⟩ := hb
  have ho2 : oC κn ≤ 24 := pn.2.2.2.2.2.2.2.2.1
  have lB : iC κk ≤ iC κb := tb.2.2.1.1
  have lB2 : rJ σk ≤ rJ σb := tb.2.2.1.2.1
  have lB3 : rT σk ≤ rT σb := tb.2.2.1.2.2.1
  have lB4 : rC σk ≤ rC σb := tb.2.2.1.2.2.2.1
  have g4 : rC σ0 ≤ rC σn := tr0.2.2.1.2.2.2.1
  have g3 : rT σ0 ≤ rT σn := tr0.2.2.1.2.2.1
  have hi : iC κb < 9890 ∧ rJ σb < 11900 := by omega
  obtain ⟨pm, tm, m1, m2, m3, m4, m5, m6, m7, m8, m9, m10, m11⟩ := pb.nest (f := 35) (v := rK σ) (Or.inl rfl) (by omega)
  rw [if_pos rfl] at m10
  rw [if_neg (by decide)] at m11
  have am : ∀ g, g ≠ 35 → aI (wS σb 35 (nI (rK σ))) g = aI σb g := fun g hg => aI_ne hg
  generalize hσm : wS σb 35 (nI (rK σ)) = σm at *
  obtain ⟨pa, ta, a1, a2, a3, a4, a5, a6, a7, a8, a9, a10, a11⟩ := act_pair (op := 29) (y := nI (rT σ)) (z := 0) pm (by omega) (by omega) ad
  have sat := em_at (σ := σm) (x := 29) (y := nI (rT σ)) (z := 0)
  have aem : ∀ g, 17 < g → aI (em σm 29 (nI (rT σ)) 0) g = aI σm g := fun g hg => em_a (Or.inr hg)
  rw [m4] at sat
  generalize hσj : em σm 29 (nI (rT σ)) 0 = σj at *
  obtain ⟨pj, tj, c1, c2, c3, c4, c5, c6, c7, c8, c9, c10, c11⟩ := pa.pk (k := iC κn + 1) (v := nI (iC κa))
  have k69 : kI (cI κa 70 (iC κn + 1) (nI (iC κa))) 69 = kI κa 69 := kI_ne (by decide)
  have k72 : kI (cI κa 70 (iC κn + 1) (nI (iC κa))) 72 = kI κb 72 := by rw [kI_ne (by decide)]; exact (ad.2.2.2.2.2.1.1 72 (by decide)).1
  have k70 : ∀ k, k ≠ iC κn + 1 → kI (cI κa 70 (iC κn + 1) (nI (iC κa))) 70 k = kI κa 70 k := fun k hk => kI_nk hk
  have k70e : kI (cI κa 70 (iC κn + 1) (nI (iC κa))) 70 (iC κn + 1) = nI (iC κa) := kI_eq
  have tba : Tr b κb σb κa σj := tm.trans ta
  have belj : Bel κn σn (cI κa 70 (iC κn + 1) (nI (iC κa))) σj := Agr.pk (Agr.step ((tnk.trans tb).trans tba)) (Or.inr (by omega))
  have t0j : T0 b κn σn (cI κa 70 (iC κn + 1) (nI (iC κa))) σj := ((tnk.trans tb).trans tba).t0.trans tj
  have agB : Agr κk σk κb σb (cI κa 70 (iC κn + 1) (nI (iC κa))) σj := Agr.pk (Agr.step tba) (Or.inl (by omega))
  have tbj : T0 b κb σb (cI κa 70 (iC κn + 1) (nI (iC κa))) σj := tba.t0.trans tj
  have tdj : T0 b κd σd (cI κa 70 (iC κn + 1) (nI (iC κa))) σj := td.trans (tb.t0.trans tbj)
  generalize hκj : cI κa 70 (iC κn + 1) (nI (iC κa)) = κj at *
  have trn : Tr b κn σn κj σj := Bel.tr t0j belj
  have ij : iC κj = iC κb + 1 := by omega
  have ija : iC κa = iC κj := c3.symm
  have jj : rJ σj = rJ σb + 1 := by omega
  have cj : rC σj = rC σb := by omega
  have tjj : rT σj = rT σb := by omega
  have pj' : pC κj = pC κb := by omega
  have oj' : oC κj = oC κb := by omega
  have uj' : rU σj = rU σb := by omega
  have aj' : rA σj = rA σb := by omega
  have vj' : rV σj = rV σb := by omega
  have kj' : rK σj = rK σ := by omega
  have ej' : rE σj = rE σb := by omega
  have kk : rK σk = rK σ + 1 := by omega
  have ek : rE σk = rE σ := by omega
  have ok : oC κk = oC κ := by omega
  have hle : ∀ k, k ∈ lv → k < iC κn := fun k hk => (lvb k hk).1
  clear m1 m2 m3 m5 m6 m7 m8 m9 m10 m11 a1 a2 a3 a4 a5 a6 a7 a8 a9 a10 a11 c1 c2 c3 c4 c5 c6 c7 c8 c9 c10 c11
  have ko : ∀ k, k < iC κk → k ≠ iC κn + 1 → kI κj 69 k = kI κk 69 k ∧ kI κj 70 k = kI κk 70 k := fun k hk hk2 => by
    have e1 := add_old ad (k := k) (by omega)
    have e2 := tb.2.2.1.2.2.2.2.2.2.1 k hk
    rw [k69, k70 k hk2, e1.1, e1.2]
    exact e2
  have w1 : kI κj 69 (iC κn) = 41 ∧ kI κj 70 (iC κn) = y := by
    have e := ko (iC κn) (by omega) (by omega)
    rw [e.1, e.2]
    exact o1
  have w2 : kI κj 69 (iC κn + 1) = 42 ∧ kI κj 70 (iC κn + 1) = nI (iC κj) := by
    have e1 := add_old ad (k := iC κn + 1) (by omega)
    have e2 := tb.2.2.1.2.2.2.2.2.2.1 (iC κn + 1) (by omega)
    rw [k69, k70e, e1.1, ija]
    exact ⟨e2.1.trans o2, rfl⟩
  have w3 : kI κj 69 (iC κn + 2) = 3 ∧ kI κj 70 (iC κn + 2) = -1 - nI tok := by
    have e := ko (iC κn + 2) (by omega) (by omega)
    rw [e.1, e.2]
    exact o3
  have wc : aI σj 30 (rC σn) = x30 ∧ aI σj 31 (rC σn) = nI v ∧ aI σj 32 (rC σn) = nI (rJ σk) ∧ aI σj 33 (rC σn) = nI (rK σ) ∧ aI σj 45 (rC σn) = nI (rT σ) := by
    have e := tb.2.2.1.2.2.2.2.2.2.2.2.2.2.2 (rC σn) (by omega)
    rw [aem 30 (by decide), aem 31 (by decide), aem 32 (by decide), aem 33 (by decide), aem 45 (by decide), am 30 (by decide), am 31 (by decide), am 32 (by decide), am 33 (by decide), am 45 (by decide), e.1, e.2.1, e.2.2.1, e.2.2.2.1, e.2.2.2.2, ← n3]
    exact oc
  have wj : kI κj 69 (iC κb) = 15 ∧ aI σj 13 (rJ σb) = 29 ∧ aI σj 14 (rJ σb) = nI (rT σ) := by
    rw [k69]
    exact ⟨ad.2.1, sat.1, sat.2.1⟩
  have wl : kI κj 70 (iC κb) = nI p := by
    rw [k70 _ (by omega)]
    exact ad.2.2.1
  have tn0 : T0 b κ σ κn σn := t00.trans tr0.t0
  have hT : rT σ < 1000 := by omega
  have row45 : ∀ c, c < rC σn → aI σj 45 c = aI σn 45 c := fun c hc => (trn.2.2.1.2.2.2.2.2.2.2.2.2.2.2 c hc).2.2.2.2
  have csj := cs_step (κd := κd) (σd := σd) (v := v) (tok := tok) (y := y) (x30 := x30) cs tn0 tcN n12 trn tnk.t0 blk' tbj agB hle d3 d8 d7 ij jj cj tjj ok ek kk (by omega) (by omega) w1 w2 w3 wc wj num nf tdj u13 htok
  have usj : UsA N κj σj (iC κ) (iC κj) (rJ σ) (rJ σj) (rU σ) (rU σj) (rA σ) (rA σj) (rV σ) (rV σj) := by
    have dt := dn.t0 tdj
    obtain ⟨-, -, dn3, -, dn5, dn6, dn7⟩ := dn
    have lu : rJ σ ≤ rJ σn ∧ rU σ ≤ rU σn ∧ rA σ ≤ rA σn ∧ rV σ ≤ rV σn := ⟨tn0.2.2.2.2.1, tn0.2.2.2.2.2.2.2.1, tn0.2.2.2.2.2.2.2.2, tn0.2.2.1.2.2.2.1⟩
    have lb : rU σk ≤ rU σb ∧ rA σk ≤ rA σb ∧ rV σk ≤ rV σb := ⟨tb.2.2.1.2.2.2.2.1, tb.2.2.1.2.2.2.2.2.1, tb.2.2.2.2.2.2.1⟩
    have q1 := (usN.step trn ⟨Nat.le_refl _, Nat.le_refl _, Nat.le_refl _, Nat.le_refl _, Nat.le_refl _⟩).act (j2 := rJ σn) w1.1 (by decide) ⟨rfl, Nat.le_refl _, by omega, lu.2.1, lu.2.2.1, lu.2.2.2, lu.1⟩
    have q2 := q1.act (j2 := rJ σn) w2.1 (by decide) ⟨rfl, Nat.le_refl _, by omega, lu.2.1, lu.2.2.1, lu.2.2.2, lu.1⟩
    have q3 := q2.sto (j2 := rJ σk) (v2 := rV σk) w3.1 w3.2 dt.1 dt.2.1 (by omega) dt.2.2.2 ⟨by omega, fun z => dn7 (by omega)⟩ ⟨rfl, by omega, by omega, lu.2.1, lu.2.2.1, lu.2.2.2, lu.1, by omega⟩
    have q4 := q3.app (blk'.2.2.1.2.agr agB tbj (Nat.le_refl _)) ⟨by omega, by omega, by omega, rfl, by omega, by omega, by omega, by omega, by omega, by omega, by omega, by omega, by omega, by omega, by omega⟩
    have q5 := q4.act (j2 := rJ σj) wj.1 (by decide) ⟨rfl, by omega, by omega, by omega, by omega, by omega, by omega⟩
    exact q5.to ⟨by omega, by omega, by omega, by omega, Nat.le_refl _⟩
  refine ⟨⟨pj, tr0.trans trn, fun c h1 h2 => ?_, fun c h1 h2 => ?_, csj, fun k hk => ?_, ⟨rfl, fun q hq => by have := hle q hq; omega, ?_⟩, ?_, List.mem_cons_of_mem _ hlv, usj, ?_⟩, by omega, k72⟩
  · by_cases z1 : c < rC σn
    · obtain ⟨u, u1, u2, u3, u4⟩ := tcN c h1 z1
      exact ⟨u, (row45 c z1).trans u1, u2, by omega, u4⟩
    · by_cases z2 : c = rC σn
      · subst z2
        exact ⟨rT σ, wc.2.2.2.2, Nat.le_refl _, by omega, hT⟩
      · obtain ⟨u, u1, u2, u3, u4⟩ := cb.1 c (by omega) (by omega)
        exact ⟨u, (agB.2.2.2.2.2 c (by omega) (by omega)).2.2.2.2.trans u1, by omega, by omega, u4⟩
  · by_cases z1 : c < rC σn
    · obtain ⟨u, u1, u2, u3⟩ := ltN c h1 z1
      exact ⟨u, (row45 c z1).trans u1, u2, u3⟩
    · by_cases z2 : c = rC σn
      · subst z2
        exact ⟨rT σ, wc.2.2.2.2, Or.inl rfl, hT⟩
      · obtain ⟨u, u1, u2, u3, u4⟩ := cb.1 c (by omega) (by omega)
        exact ⟨u, (agB.2.2.2.2.2 c (by omega) (by omega)).2.2.2.2.trans u1, Or.inr (by omega), u4⟩
  · rcases List.mem_cons.mp hk with rfl | hk
    · have := tr0.2.2.1.1
      exact ⟨by omega, by omega, wj.1⟩
    · have := lvb k hk
      exact ⟨by omega, this.2.1, (trn.2.2.1.2.2.2.2.2.2.1 k this.1).1.trans this.2.2⟩
  · rw [wl]
    exact Lch.keep lv _ (fun k hk => trn.2.2.1.2.2.2.2.2.2.1 k (hle k hk) |>.2) lch
  · show lv.length + 1 ≤ _
    omega
  · unfold TN
    omega
end CAN
