/-! single acts of an expression -/
section ACTS
variable {N b P B : Nat} {κ κ' : Km} {σ : Rm} {a x op y z : Int32}
theorem act_pair (h : Ps κ σ N b P) (hi : iC κ < 9900) (hj : rJ σ < 11990) (ad : AdC κ κ' a x) : Ps κ' (em σ op y z) N b P ∧ Tr b κ σ κ' (em σ op y z) ∧ Nu κ' (em σ op y z) (pC κ) (oC κ) (iC κ + 1) (rJ σ + 1) (rU σ) (rA σ) (rT σ) (rC σ) (rV σ) (rK σ) (rE σ) := by
  obtain ⟨⟨p1, t1⟩, n1⟩ := h.addC hi ad
  obtain ⟨⟨p2, t2⟩, n2⟩ := p1.emit (x := op) (y := y) (z := z) (by omega)
  refine ⟨p2, t1.trans t2, ?_⟩
  obtain ⟨a1, a2, a3, a4, a5, a6, a7, a8, a9, a10, a11⟩ := n1
  obtain ⟨c1, c2, c3, c4, c5, c6, c7, c8, c9, c10, c11⟩ := n2
  exact ⟨c1.trans a1, c2.trans a2, c3.trans a3, c4, c5, c6, c7, c8, c9, c10, c11⟩
/-- a good place out of what stands there -/
theorem mkG {κF : Km} {σF : Rm} {A : Pt → Prop} {i j n s : Nat} {L : List Itm} (hb : b < 12) (hi : i < 9900) (hs : nI i < kI κF 68 2) (hj : j < 11990) (hn : n ≤ 150) (hg : GC κF σF A b L) (hc : Cl κF σF (Good2 κF σF A) b i j L n s) : Good1 κF σF A (b, i, j, L, n, s) :=
  ⟨hb, show i + 1 < 20000 by omega, hs, show j + 1 < 12000 by omega, hg.1, hn, hg.2, hc⟩
/-- one act of each -/
theorem act_one {d0 d1 : Nat} (h : Ps κ σ N b P) (hi : iC κ < 9900) (hj : rJ σ < 11990) (hB : B + d0 ≤ 150) (ad : AdC κ κ' a x) (hna : a ≠ 2 ∧ a ≠ 3 ∧ a ≠ 23 ∧ a ≠ 24)
    (hc : ∀ (κF : Km) (σF : Rm) (vr br : Nat → Nat → Prop), Fnc σF vr br b → Ext κF σF vr br b κ σ κ' (em σ op y z) → kI κF 69 (iC κ) = a → (a ≠ 2 → a ≠ 3 → a ≠ 23 → a ≠ 24 → kI κF 70 (iC κ) = x) → aI σF 13 (rJ σ) = op → aI σF 15 (rJ σ) = z → (op ≠ 2 → op ≠ 16 → op ≠ 20 → aI σF 14 (rJ σ) = y) → ∀ (W : Pt → Prop) (L : List Itm) (n : Nat), W (b, iC κ + 1, rJ σ + 1, L, n + d1, 1) → Cl κF σF W b (iC κ) (rJ σ) L (n + d0) 1) : ES1 N b P B d0 d1 κ σ κ' (em σ op y z) := by
  obtain ⟨p, t, nu⟩ := act_pair (op := op) (y := y) (z := z) h hi hj ad
  obtain ⟨n1, n2, n3, n4, n5, n6, n7, n8, n9, n10, n11⟩ := nu
  refine ⟨p, t, Tu.one n8 n3 n5 n6 ad.2.1 hna (by omega), fun κF σF vr br hf he A L n hn hg g => ?_⟩
  have e1 := he.1 (iC κ) (Nat.le_refl _) (by omega)
  have e2 := he.2.1 (rJ σ) (Nat.le_refl _) (by omega)
  have m := em_at (σ := σ) (x := op) (y := y) (z := z)
  rw [ad.2.1, ad.2.2.1] at e1
  rw [m.1, m.2.1, m.2.2.1] at e2
  rw [n3, n4] at g
  exact mkG hf.1 hi e1.2.1 hj (by omega) hg (hc κF σF vr br hf he e1.1 e1.2.2.1 e2.1 e2.2.1 e2.2.2.2 _ L n g)
theorem act_un (h : Ps κ σ N b P) (hi : iC κ < 9900) (hj : rJ σ < 11990) (hB : B + 1 ≤ 150) (ad : AdC κ κ' a x) (ho : (a = 6 ∧ op = 11) ∨ (a = 7 ∧ op = 12) ∨ (a = 22 ∧ op = 14) ∨ (a = 25 ∧ op = 15)) : ES1 N b P B 1 1 κ σ κ' (em σ op y z) := by
  refine act_one h hi hj hB ad (by rcases ho with ⟨c, -⟩ | ⟨c, -⟩ | ⟨c, -⟩ | ⟨c, -⟩ <;> rw [c] <;> decide) (fun κF σF vr br _ _ e1 _ e2 _ _ W L n w => ?_)
  refine Or.inr (Or.inr (Or.inr (Or.inr (Or.inr (Or.inr (Or.inr (Or.inl ⟨rfl, by omega, ?_, w⟩)))))))
  rw [e1, e2]
  exact ho
theorem act_bin {k : Nat} (h : Ps κ σ N b P) (hi : iC κ < 9900) (hj : rJ σ < 11990) (hB : B + 2 ≤ 150) (hk : k < 7) (ad : AdC κ κ' (nI (8 + k)) x) : ES1 N b P B 2 1 κ σ κ' (em σ (nI (4 + k)) y z) := by
  refine act_one h hi hj hB ad ⟨nI_ne (b := 2) (by omega) (by omega) (by omega), nI_ne (b := 3) (by omega) (by omega) (by omega), nI_ne (b := 23) (by omega) (by omega) (by omega), nI_ne (b := 24) (by omega) (by omega) (by omega)⟩ (fun κF σF vr br _ _ e1 _ e2 _ _ W L n w => ?_)
  refine Or.inr (Or.inr (Or.inr (Or.inr (Or.inr (Or.inr (Or.inr (Or.inr (Or.inl ⟨rfl, by omega, ⟨k, hk, e1, e2⟩, ?_⟩))))))))
  rw [show n + 2 - 1 = n + 1 by omega]; exact w
theorem act_duo (h : Ps κ σ N b P) (hi : iC κ < 9900) (hj : rJ σ < 11990) (hB : B + 2 ≤ 150) (ad : AdC κ κ' a x) (ho : (a = 26 ∧ op = 17) ∨ (a = 28 ∧ op = 19) ∨ (a = 27 ∧ op = 18 ∧ ∃ k, k < 10 ∧ x = nI k ∧ y = nI k)) : ES1 N b P B 2 1 κ σ κ' (em σ op y z) := by
  refine act_one h hi hj hB ad (by rcases ho with ⟨c, -⟩ | ⟨c, -⟩ | ⟨c, -⟩ <;> rw [c] <;> decide) (fun κF σF vr br _ _ e1 e1' e2 _ e2' W L n w => ?_)
  refine Or.inr (Or.inr (Or.inr (Or.inr (Or.inr (Or.inr (Or.inr (Or.inr (Or.inr (Or.inl ⟨rfl, by omega, ?_, ?_⟩)))))))))
  · rw [e1, e2]
    rcases ho with c | c | ⟨c1, c2, k, k1, k2, k3⟩
    · exact Or.inl c
    · exact Or.inr (Or.inl c)
    · exact Or.inr (Or.inr ⟨c1, c2, k, k1, (e1' (by rw [c1]; decide) (by rw [c1]; decide) (by rw [c1]; decide) (by rw [c1]; decide)).trans k2, (e2' (by rw [c2]; decide) (by rw [c2]; decide) (by rw [c2]; decide)).trans k3⟩)
  · rw [show n + 2 - 1 = n + 1 by omega]; exact w
theorem act_const (h : Ps κ σ N b P) (hi : iC κ < 9900) (hj : rJ σ < 11990) (hB : B ≤ 150) (ad : AdC κ κ' 1 x) : ES1 N b P B 0 1 κ σ κ' (em σ 1 x z) := by
  refine act_one h hi hj hB ad (by decide) (fun κF σF vr br _ _ e1 e1' e2 _ e2' W L n w => ?_)
  exact Or.inl ⟨rfl, e1, e2, (e2' (by decide) (by decide) (by decide)).trans (e1' (by decide) (by decide) (by decide) (by decide)).symm, w⟩
theorem act_me (h : Ps κ σ N b P) (hi : iC κ < 9900) (hj : rJ σ < 11990) (hB : B ≤ 150) (ad : AdC κ κ' 5 x) : ES1 N b P B 0 1 κ σ κ' (em σ 13 y z) := by
  refine act_one h hi hj hB ad (by decide) (fun κF σF vr br _ _ e1 e1' e2 _ e2' W L n w => ?_)
  exact Or.inr (Or.inr (Or.inr (Or.inr (Or.inr (Or.inr (Or.inl ⟨rfl, e1, e2, w⟩))))))
/-- a token that is a name -/
def Nk (N : Nat) (κ : Km) (t : Nat) : Prop := t ≤ N ∧ kI κ 74 t = 2
theorem Nk.tr {t : Nat} {σ' : Rm} (h : Nk N κ t) (tr : Tr b κ σ κ' σ') : Nk N κ' t := ⟨h.1, by rw [(tr.1.1.1 74 (by unfold hP hE; omega)).1]; exact h.2⟩
theorem Nk.ad {t : Nat} (h : Nk N κ t) (ad : AdC κ κ' a x) : kI κ' 74 t = 2 := by rw [(ad.2.2.2.2.2.1.1 74 (by decide)).1]; exact h.2
theorem UsA.load {i j u t a' : Nat} (e1 : kI κ 69 i = 2) (e2 : kI κ 70 i = -1 - nI t) (ht : t ≤ N) (h2 : kI κ 74 t = 2) (e3 : aI σ 42 u = nI j) (e4 : aI σ 43 u = nI t) (e5 : aI σ 13 j = 2) : UsA N κ σ i (i + 1) j (j + 1) u (u + 1) a' a' 0 0 := by
  have f : ∀ k, i ≤ k → k < i + 1 → k = i := fun k l1 l2 => by omega
  refine ⟨fun k l1 l2 z => ?_, fun k l1 l2 => ?_, fun k l1 l2 z => ?_, fun k l1 l2 => absurd l1 (by omega), fun k l1 l2 z => ?_, fun k l1 l2 => absurd l1 (by omega), fun p w l1 l2 l3 => absurd l1 (by omega), fun p w l1 l2 l3 => absurd l1 (by omega)⟩
  · rw [f k l1 l2]; exact ⟨t, u, ht, e2, h2, Nat.le_refl _, by omega, e4⟩
  · have e : k = u := by omega
    rw [e]; exact ⟨t, i, j, ht, e4, h2, Nat.le_refl _, by omega, e3, e5, Nat.le_refl _, by omega, e1, e2⟩
  · rw [f k l1 l2, e1] at z; exact absurd z (by decide)
  · rw [f k l1 l2, e1] at z; rcases z with z | z <;> exact absurd z (by decide)
theorem UsA.ask {i j u t m a' : Nat} (e2 : kI κ 70 i = nI (8 * t + m)) (ht : t ≤ N) (hm : m < 8) (h2 : kI κ 74 t = 2) (e3 : aI σ 38 u = nI j) (e4 : aI σ 39 u = nI t) (e5 : aI σ 40 u = nI m) (e6 : (kI κ 69 i = 23 ∧ aI σ 13 j = 16) ∨ (kI κ 69 i = 24 ∧ aI σ 13 j = 20)) : UsA N κ σ i (i + 1) j (j + 1) a' a' u (u + 1) 0 0 := by
  have f : ∀ k, i ≤ k → k < i + 1 → k = i := fun k l1 l2 => by omega
  have e1 : kI κ 69 i = 23 ∨ kI κ 69 i = 24 := e6.elim (fun z => Or.inl z.1) (fun z => Or.inr z.1)
  refine ⟨fun k l1 l2 z => ?_, fun k l1 l2 => absurd l1 (by omega), fun k l1 l2 z => ?_, fun k l1 l2 => absurd l1 (by omega), fun k l1 l2 z => ?_, fun k l1 l2 => ?_, fun p w l1 l2 l3 => absurd l1 (by omega), fun p w l1 l2 l3 => absurd l1 (by omega)⟩
  · rw [f k l1 l2] at z; rcases e1 with e | e <;> rw [e] at z <;> exact absurd z (by decide)
  · rw [f k l1 l2] at z; rcases e1 with e | e <;> rw [e] at z <;> exact absurd z (by decide)
  · rw [f k l1 l2]; exact ⟨t, m, u, j, ht, hm, e2, h2, Nat.le_refl _, by omega, e4, e5, Nat.le_refl _, by omega, e3, e6⟩
  · have e : k = u := by omega
    rw [e]; exact ⟨t, m, i, j, ht, hm, e4, e5, h2, Nat.le_refl _, by omega, e3, Nat.le_refl _, by omega, e2, e6⟩
/-- a variable is used -/
theorem act_load {t : Nat} (h : Ps κ σ N b P) (hi : iC κ < 9900) (hj : rJ σ < 11990) (hu : rU σ < 1600) (ht : t < 3001) (hnk : Nk N κ t) (hB : B ≤ 150) (ad : AdC κ κ' 2 (-1 - nI t)) : ES1 N b P B 0 1 κ σ κ' (us (em σ 2 y z) (nI (rJ σ)) (nI t)) ∧ Nu κ' (us (em σ 2 y z) (nI (rJ σ)) (nI t)) (pC κ) (oC κ) (iC κ + 1) (rJ σ + 1) (rU σ + 1) (rA σ) (rT σ) (rC σ) (rV σ) (rK σ) (rE σ) := by
  obtain ⟨p, tr, n1, n2, n3, n4, n5, n6, n7, n8, n9, n10, n11⟩ := act_pair (op := 2) (y := y) (z := z) h hi hj ad
  obtain ⟨⟨p2, tr2⟩, m1, m2, m3, m4, m5, m6, m7, m8, m9, m10, m11⟩ := p.use (q := nI (rJ σ)) (t := nI t) (by omega)
  have usx : UsA N κ' (us (em σ 2 y z) (nI (rJ σ)) (nI t)) (iC κ) (iC κ') (rJ σ) (rJ (us (em σ 2 y z) (nI (rJ σ)) (nI t))) (rU σ) (rU (us (em σ 2 y z) (nI (rJ σ)) (nI t))) (rA σ) (rA (us (em σ 2 y z) (nI (rJ σ)) (nI t))) 0 0 := by
    have u := us_at (σ := em σ 2 y z) (q := nI (rJ σ)) (t := nI t)
    rw [n5] at u
    have mm := em_at (σ := σ) (x := 2) (y := y) (z := z)
    have x1 : rJ (us (em σ 2 y z) (nI (rJ σ)) (nI t)) = rJ σ + 1 := by omega
    have x2 : rU (us (em σ 2 y z) (nI (rJ σ)) (nI t)) = rU σ + 1 := by omega
    have x3 : rA (us (em σ 2 y z) (nI (rJ σ)) (nI t)) = rA σ := by omega
    rw [n3, x1, x2, x3]
    exact UsA.load ad.2.1 ad.2.2.1 hnk.1 (hnk.ad ad) u.1 u.2 (by rw [us_a (by decide)]; exact mm.1)
  refine ⟨⟨p2, tr.trans tr2, ⟨Tc.same (by omega), usx⟩, fun κF σF vr br hf he A L n hn hg g => ?_⟩, by omega, by omega, by omega, by omega, by omega, by omega, by omega, by omega, by omega, by omega, by omega⟩
  have e1 := he.1 (iC κ) (Nat.le_refl _) (by omega)
  have e2 := he.2.1 (rJ σ) (Nat.le_refl _) (by omega)
  have e3 := he.2.2.1 (rU σ) (Nat.le_refl _) (by omega) (rJ σ) t (by omega) ht
  have u := us_at (σ := em σ 2 y z) (q := nI (rJ σ)) (t := nI t)
  rw [n5] at u
  rw [u.1, u.2] at e3
  have m := em_at (σ := σ) (x := 2) (y := y) (z := z)
  rw [ad.2.1, ad.2.2.1] at e1
  rw [us_a (by decide), m.1] at e2
  obtain ⟨v, v1, v2⟩ := e3 rfl rfl
  obtain ⟨v', v3, v4⟩ := e1.2.2.2.1 (Or.inl rfl) t ht rfl
  have ev := hf.2.1 t v v' v1 v3
  subst ev
  rw [m3, m4, n3, n4] at g
  refine mkG hf.1 hi e1.2.1 hj (by omega) hg ?_
  exact Or.inr (Or.inr (Or.inr (Or.inl ⟨rfl, e1.1, e2.1, ⟨v, hf.2.2.2 t v v1, v4, v2⟩, g⟩)))
/-- a body is asked for: both acts -/
theorem act_ask {t m : Nat} {op' : Int32} (h : Ps κ σ N b P) (hi : iC κ < 9900) (hj : rJ σ < 11990) (hu : rA σ < 1600) (ad : AdC κ κ' a (nI (8 * t + m))) : Ps κ' (ak (em σ op' 0 (nI m)) (nI (rJ σ)) (nI t) (nI m)) N b P ∧ Tr b κ σ κ' (ak (em σ op' 0 (nI m)) (nI (rJ σ)) (nI t) (nI m)) ∧ Nu κ' (ak (em σ op' 0 (nI m)) (nI (rJ σ)) (nI t) (nI m)) (pC κ) (oC κ) (iC κ + 1) (rJ σ + 1) (rU σ) (rA σ + 1) (rT σ) (rC σ) (rV σ) (rK σ) (rE σ) := by
  obtain ⟨p, tr, n1, n2, n3, n4, n5, n6, n7, n8, n9, n10, n11⟩ := act_pair (op := op') (y := 0) (z := nI m) h hi hj ad
  obtain ⟨⟨p2, tr2⟩, m1, m2, m3, m4, m5, m6, m7, m8, m9, m10, m11⟩ := p.ask (q := nI (rJ σ)) (t := nI t) (m := nI m) (by omega)
  exact ⟨p2, tr.trans tr2, by omega, by omega, by omega, by omega, by omega, by omega, by omega, by omega, by omega, by omega, by omega⟩
theorem ask_ext {κF : Km} {σF : Rm} {vr br : Nat → Nat → Prop} {κ0 : Km} {t m : Nat} {op' : Int32} (hf : Fnc σF vr br b) (h : Ps κ σ N b P) (hi : iC κ < 9900) (hj : rJ σ < 11990) (hu : rA σ < 1600) (ht : t < 3001) (hm : m < 8) (ha : a = 23 ∨ a = 24) (ad : AdC κ κ' a (nI (8 * t + m))) (h0 : iC κ0 ≤ iC κ) (he : Ext κF σF vr br b κ0 σ κ' (ak (em σ op' 0 (nI m)) (nI (rJ σ)) (nI t) (nI m))) : kI κF 69 (iC κ) = a ∧ nI (iC κ) < kI κF 68 2 ∧ aI σF 13 (rJ σ) = op' ∧ aI σF 15 (rJ σ) = nI m ∧ ∃ c, kI κF 70 (iC κ) = nI c ∧ aI σF 14 (rJ σ) = nI c ∧ BdK σF c (if op' = 16 then 1 else 0) m := by
  obtain ⟨-, -, n1, n2, n3, n4, n5, n6, n7, n8, n9, n10, n11⟩ := act_ask (op' := op') h hi hj hu ad
  obtain ⟨-, -, q1, q2, q3, q4, q5, q6, q7, q8, q9, q10, q11⟩ := act_pair (op := op') (y := 0) (z := nI m) h hi hj ad
  have e1 := he.1 (iC κ) h0 (by omega)
  have e2 := he.2.1 (rJ σ) (Nat.le_refl _) (by omega)
  have e3 := he.2.2.2.1 (rA σ) (Nat.le_refl _) (by omega) (rJ σ) t m (by omega) ht hm
  have u := ak_at (σ := em σ op' 0 (nI m)) (q := nI (rJ σ)) (t := nI t) (m := nI m)
  rw [q6] at u
  rw [u.1, u.2.1, u.2.2] at e3
  have mm := em_at (σ := σ) (x := op') (y := 0) (z := nI m)
  rw [ad.2.1, ad.2.2.1] at e1
  rw [ak_a (by decide), ak_a (by decide), mm.1, mm.2.2.1] at e2
  obtain ⟨c, c1, c2, c3⟩ := e3 rfl rfl rfl
  rw [e2.1] at c3
  obtain ⟨c', c4, c5⟩ := e1.2.2.2.2 ha t m ht hm rfl
  have ec := hf.2.2.1 t c c' c1 c4
  subst ec
  exact ⟨e1.1, e1.2.1, e2.1, e2.2.1, c, c5, c2, c3⟩
theorem ask_us {t m : Nat} {op' : Int32} (h : Ps κ σ N b P) (hi : iC κ < 9900) (hj : rJ σ < 11990) (hu : rA σ < 1600) (hnk : Nk N κ t) (hm : m < 8) (ad : AdC κ κ' a (nI (8 * t + m))) (ha : (a = 23 ∧ op' = 16) ∨ (a = 24 ∧ op' = 20)) : UsA N κ' (ak (em σ op' 0 (nI m)) (nI (rJ σ)) (nI t) (nI m)) (iC κ) (iC κ') (rJ σ) (rJ (ak (em σ op' 0 (nI m)) (nI (rJ σ)) (nI t) (nI m))) (rU σ) (rU (ak (em σ op' 0 (nI m)) (nI (rJ σ)) (nI t) (nI m))) (rA σ) (rA (ak (em σ op' 0 (nI m)) (nI (rJ σ)) (nI t) (nI m))) 0 0 := by
  obtain ⟨p, tr, n1, n2, n3, n4, n5, n6, n7, n8, n9, n10, n11⟩ := act_ask (op' := op') h hi hj hu ad
  obtain ⟨-, -, q1, q2, q3, q4, q5, q6, -⟩ := act_pair (op := op') (y := 0) (z := nI m) h hi hj ad
  have u := ak_at (σ := em σ op' 0 (nI m)) (q := nI (rJ σ)) (t := nI t) (m := nI m)
  rw [q6] at u
  have mm := em_at (σ := σ) (x := op') (y := 0) (z := nI m)
  rw [n3, n4, n5, n6]
  refine UsA.ask ad.2.2.1 hnk.1 hm (hnk.ad ad) u.1 u.2.1 u.2.2 ?_
  rw [ad.2.1, ak_a (by decide), mm.1]
  exact ha
theorem act_call {t m : Nat} (h : Ps κ σ N b P) (hi : iC κ < 9900) (hj : rJ σ < 11990) (hu : rA σ < 1600) (ht : t < 3001) (hnk : Nk N κ t) (hm : m < 8) (hB : B + m ≤ 150) (ad : AdC κ κ' 24 (nI (8 * t + m))) : ES1 N b P B m 1 κ σ κ' (ak (em σ 20 0 (nI m)) (nI (rJ σ)) (nI t) (nI m)) := by
  obtain ⟨p, tr, n1, n2, n3, n4, n5, n6, n7, n8, n9, n10, n11⟩ := act_ask (op' := 20) h hi hj hu ad
  refine ⟨p, tr, ⟨Tc.same n8, ask_us h hi hj hu hnk hm ad (Or.inr ⟨rfl, rfl⟩)⟩, fun κF σF vr br hf he A L n hn hg g => ?_⟩
  obtain ⟨e1, e2, e3, e4, c, e5, e6, e7⟩ := ask_ext hf h hi hj hu ht hm (Or.inr rfl) ad (Nat.le_refl _) he
  rw [if_neg (by decide)] at e7
  rw [n3, n4] at g
  refine mkG hf.1 hi e2 hj (by omega) hg ?_
  refine Or.inr (Or.inr (Or.inr (Or.inr (Or.inr (Or.inr (Or.inr (Or.inr (Or.inr (Or.inr (Or.inl ⟨rfl, e1, e3, c, m, e5, e6, e7, e4, by omega, ?_⟩))))))))))
  rw [show n + m - m + 1 = n + 1 by omega]; exact g
theorem act_new1 {t : Nat} (h : Ps κ σ N b P) (hi : iC κ < 9900) (hj : rJ σ < 11990) (hu : rA σ < 1600) (ht : t < 3001) (hnk : Nk N κ t) (hB : B + 1 ≤ 150) (ad : AdC κ κ' 23 (nI (8 * t + 1))) : ES1 N b P B 1 1 κ σ κ' (ak (em σ 16 0 (nI 1)) (nI (rJ σ)) (nI t) (nI 1)) := by
  obtain ⟨p, tr, n1, n2, n3, n4, n5, n6, n7, n8, n9, n10, n11⟩ := act_ask (op' := 16) h hi hj hu ad
  refine ⟨p, tr, ⟨Tc.same n8, ask_us h hi hj hu hnk (by decide) ad (Or.inl ⟨rfl, rfl⟩)⟩, fun κF σF vr br hf he A L n hn hg g => ?_⟩
  obtain ⟨e1, e2, e3, e4, c, e5, e6, e7⟩ := ask_ext hf h hi hj hu ht (by omega) (Or.inl rfl) ad (Nat.le_refl _) he
  rw [if_pos rfl] at e7
  rw [n3, n4] at g
  exact mkG hf.1 hi e2 hj (by omega) hg (Or.inr (Or.inr (Or.inl ⟨rfl, e1, e3, e4, by omega, ⟨c, e5, e6, e7⟩, g⟩)))
/-- new without a value: two acts of the class -/
theorem act_new0 {κ1 : Km} {t : Nat} (h : Ps κ σ N b P) (hi : iC κ < 9890) (hj : rJ σ < 11990) (hu : rA σ < 1600) (ht : t < 3001) (hnk : Nk N κ t) (hB : B ≤ 150) (ad0 : AdC κ κ1 1 0) (ad : AdC κ1 κ' 23 (nI (8 * t + 0))) : ES1 N b P B 0 1 κ σ κ' (ak (em σ 16 0 (nI 0)) (nI (rJ σ)) (nI t) (nI 0)) ∧ Nu κ' (ak (em σ 16 0 (nI 0)) (nI (rJ σ)) (nI t) (nI 0)) (pC κ) (oC κ) (iC κ + 2) (rJ σ + 1) (rU σ) (rA σ + 1) (rT σ) (rC σ) (rV σ) (rK σ) (rE σ) := by
  obtain ⟨⟨p1, tr1⟩, m1, m2, m3, m4, m5, m6, m7, m8, m9, m10, m11⟩ := h.addC (by omega) ad0
  obtain ⟨p, tr, n1, n2, n3, n4, n5, n6, n7, n8, n9, n10, n11⟩ := act_ask (op' := 16) p1 (by omega) hj hu ad
  have usx : Tu N κ σ κ' (ak (em σ 16 0 (nI 0)) (nI (rJ σ)) (nI t) (nI 0)) := by
    have x1 : Tu N κ σ κ1 σ := Tu.one rfl m3 rfl rfl ad0.2.1 (by decide) (Nat.le_refl _)
    have x2 : Tu N κ1 σ κ' (ak (em σ 16 0 (nI 0)) (nI (rJ σ)) (nI t) (nI 0)) := ⟨Tc.same n8, ask_us p1 (by omega) hj hu (hnk.tr tr1) (by decide) ad (Or.inl ⟨rfl, rfl⟩)⟩
    exact x1.trans x2 tr1 tr
  refine ⟨⟨p, tr1.trans tr, usx, fun κF σF vr br hf he A L n hn hg g => ?_⟩, by omega, by omega, by omega, by omega, by omega, by omega, by omega, by omega, by omega, by omega, by omega⟩
  obtain ⟨e1, e2, e3, e4, c, e5, e6, e7⟩ := ask_ext hf p1 (by omega) hj hu ht (by omega) (Or.inl rfl) ad (by omega) he
  rw [if_pos rfl] at e7
  have e0 := he.1 (iC κ) (Nat.le_refl _) (by omega)
  have k0 := (ad.2.2.2.1 (iC κ) (by omega))
  rw [k0.1, k0.2, ad0.2.1, ad0.2.2.1] at e0
  rw [n3, n4, m3] at g
  rw [m3] at e1 e5
  refine mkG hf.1 (by omega) e0.2.1 hj (by omega) hg ?_
  exact Or.inr (Or.inl ⟨rfl, e0.1, e0.2.2.1 (by decide) (by decide) (by decide) (by decide), e1, e3, e4, ⟨c, e5, e6, e7⟩, g⟩)
end ACTS
