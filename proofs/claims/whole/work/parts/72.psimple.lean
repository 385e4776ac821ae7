/-! tell, close, assignments, expressions as statements -/
theorem np76 {b : Nat} : ¬ hP b 76 := by unfold hP hE; omega
section SIMP2
variable {X : Cx} {N b P : Nat} {κ κ1 κe : Km} {σ σe : Rm}
theorem simp_tail {m d0 : Nat} {a x op y : Int32} {F : Int32 → Km → Prop} (hE : SpE X N b P m) (h : Ps κ σ N b P) (hb : Bds κ σ) (hm : N + 1 - pC κe ≤ m) (ad : AdC κ κ1 20 (kI κ 72 8)) (tp : TP N b P κ1 (sg κ σ) κe σe) (hbe : Bdd κe σe) (hpe : pC κ ≤ pC κe) (oe : oC κe = oC κ) (ue : rU σe = rU σ) (ae : rA σe = rA σ) (te : rT σe = rT σ) (ce : rC σe = rC σ) (ke : rK σe = rK σ) (ee : rE σe = rE σ) (ve : 2 * rV σe ≤ 2 * rV σ + (pC κe - pC κ)) (ha : i8 a) (hst : (a ≠ 2 ∧ a ≠ 3 ∧ a ≠ 23 ∧ a ≠ 24 ∧ rV σe = rV σ) ∨ (a = 3 ∧ ∃ t v, x = -1 - nI t ∧ Dn N κe σ σe t v)) (hd0 : dS (oC κ) ≤ d0)
    (cl : ∀ (κ2 : Km) (σ2 : Rm) (κ3 : Km) (σ3 : Rm), Tr b κe σe κ3 σ3 → ∀ (κF : Km) (σF : Rm) (vr br : Nat → Nat → Prop), Fnc σF vr br b → Ext κF σF vr br b κ2 σ2 κ3 σ3 → kI κ3 69 (iC κ2) = a → kI κ3 70 (iC κ2) = x → iC κ2 < iC κ3 → kI κF 69 (iC κ2) = a → (a ≠ 2 → a ≠ 3 → a ≠ 23 → a ≠ 24 → kI κF 70 (iC κ2) = x) → aI σF 13 (rJ σ2) = op → aI σF 15 (rJ σ2) = 0 → (op ≠ 2 → op ≠ 16 → op ≠ 20 → aI σF 14 (rJ σ2) = y) → ∀ (W : Pt → Prop) (L : List Itm), W (b, iC κ2 + 1, rJ σ2 + 1, L, 0, 0) → Cl κF σF W b (iC κ2) (rJ σ2) L 1 1)
    (path : ∀ (d : Nat) (Q : Res → Rm → Prop), dS (oC κ) + 19 ≤ d → (∃ e1 : Nat, e1 + 1 ≤ d ∧ AC X 92 e1 MX13_readE [vR 92] σe (aTV Q fun s4 => ∃ e5 : Nat, e5 + 1 ≤ d ∧ AC X 92 e5 MX13_mustSign [vR 92, vI 59] s4 (aTV Q fun s8 => ∃ e9 : Nat, e9 + 1 ≤ d ∧ AC X 92 e9 MX13_emit [vR 92, vI op, vI y, vI 0] s8 (aRI fun y12 s13 => A X 92 d MX13_readStatement 526 [(0, vR 92), (1, vI (kI κ 72 8)), (2, vI y12)] [] s13 Q)))) → A X 92 d MX13_readStatement 0 [(0, vR 92)] [] σ Q)
    (q1 : ∀ κ', OkS X N b P κ σ κ' → F 1 κ') (q0 : ∀ κ', BadS X b κ σ κ' → F 0 κ') : K X d0 MX5_readSimple 105 [(0, vR 77), (1, vI a), (2, vI x)] [] κe (kRI F) := by
  have ho2 : oC κ ≤ 24 := h.2.2.2.2.2.2.2.2.1
  have bi := hb.1.i h
  obtain ⟨p1, t1, n1, n2, n3, n4, n5, n6, n7, n8, n9, n10, n11⟩ := act_pair (op := 0) (y := kI κ 72 8) (z := 0) h (by omega) (by omega) ad
  have sub := hE _ _ tp.1 hbe hm
  rw [oe] at sub
  have bad : ∀ (κ' : Km), F 0 κ' → K X d0 MX5_readSimple 121 [(0, vR 77), (1, vI a), (2, vI x)] [] κ' (kRI F) := fun κ' hF => k_5_readSimple_121 _ _ ⟨_, rfl, hF⟩
  have trE := t1.trans tp.2.1
  refine k_5_readSimple_105 _ _ ⟨_, by simp only [dS, dU] at hd0 ⊢; omega, sub.k (fun κ2 σ2 hr ok => ⟨fun z => absurd z (by decide), fun _ => ?_⟩) (fun κ2 σ2 hr bd => ⟨fun _ => bad _ (q0 _ ⟨σ2, (bd.pre trE).weak (by omega), fun d Q hd hq => path d Q hd ⟨_, by simp only [dS, dU] at hd ⊢; omega, acr_bad hr hq⟩⟩), fun z => absurd rfl z⟩)⟩
  obtain ⟨e2, dE⟩ := ok
  have hp2 := e2.1.p3
  have b2 : iC κ2 ≤ 9010 ∧ rJ σ2 ≤ 9010 := by
    obtain ⟨b1, b2, b3, b4, b5, b6, b7⟩ := hbe
    obtain ⟨f1, f2, f3, f4, f5, f6, f7, f8, f9, f10, f11⟩ := dE
    omega
  refine ⟨1, by simp only [dS] at hd0; omega, kc_take e2.1 (c := 59) (by decide) (by decide) (fun c => ⟨fun z => absurd z (by decide), fun _ => ?_⟩) (fun c => ⟨fun _ => bad _ (q0 _ ⟨_, ((Flt.at e2.1 (by omega)).pre e2.2.1).pre trE, fun d Q hd hq => path d Q hd ⟨_, by simp only [dS, dU] at hd ⊢; omega, acr_ok hr ⟨1, by simp only [dS] at hd; omega, ac_mustSign e2.1 (by decide) (fun z => absurd z c) (fun _ => hq)⟩⟩⟩), fun z => absurd rfl z⟩)⟩
  have hlt := e2.1.n0 (c := 59) c (by omega) (by omega)
  obtain ⟨p3, t3, m1, m2, m3, m4, m5, m6, m7, m8, m9, m10, m11⟩ := e2.1.next hlt
  have tp3 := e2.1.tp hlt
  refine ⟨2, by simp only [dS] at hd0; omega, p3.add (by omega) ha (fun κ3 ad3 => ⟨_, rfl, q1 _ ?_⟩)⟩
  obtain ⟨p4, t4, w1, w2, w3, w4, w5, w6, w7, w8, w9, w10, w11⟩ := act_pair (op := op) (y := y) (z := 0) p3 (by omega) (by omega) ad3
  have mm := em_at (σ := wS σ2 10 (nI (pC κ2 + 1))) (x := op) (y := y) (z := 0)
  rw [m4] at mm
  have ad1 := ad3.2.1
  have ad2 := ad3.2.2.1
  rw [m3] at ad1 ad2
  have fa : FA b κ2 σ2 κ3 (em (wS σ2 10 (nI (pC κ2 + 1))) op y 0) := FA.of (a := a) (x := x) (op := op) (y := y) (z := 0) (by omega) (by omega) (by omega) (by omega) ad1 ad2 mm.1 mm.2.1 mm.2.2.1 (fun κF σF vr br hf he g1 g2 g3 g4 g5 W L _ w => cl κ2 σ2 κ3 _ (e2.2.1.trans (t3.trans t4)) κF σF vr br hf he ad1 ad2 (by omega) g1 g2 g3 g4 g5 W L w)
  have eo2 : oC κ2 = oC κ := by have := dE.2.2.2.2.2.2.2.2.1; omega
  have e2' : ES N b P 0 0 1 κ1 (sg κ σ) κ2 σ2 := (tp.es.trans ((e2.weak (by omega)).two))
  obtain ⟨f1, f2, f3, f4, f5, f6, f7, f8, f9, f10, f11⟩ := dE
  have tci : iC κe = iC κ1 := tp.2.2.1
  have tcj : rJ σe = rJ (em σ 0 (kI κ 72 8) 0) := tp.2.2.2.1
  have usx := one_us ad n3 n4 n5 n6 e2' (t3.trans t4) (by omega) (by omega) (by omega) ad1 (by
    rcases hst with ⟨h1, h2, h3, h4, h5⟩ | ⟨h1, t, v, h2, h3⟩
    · exact Or.inl ⟨h1, h2, h3, h4, by omega⟩
    · have tt := h3.t0 (e2.2.1.trans (t3.trans t4)).t0
      obtain ⟨g1, g2, g3, g4, g5, g6, g7⟩ := h3
      exact Or.inr ⟨h1, t, v, by rw [ad2]; exact h2, tt.1, tt.2.1, tt.2.2.1, tt.2.2.2, by omega, by omega, fun z => g7 (by omega)⟩)
  refine ⟨_, ⟨p4, (trE.trans e2.2.1).trans (t3.trans t4), ⟨Tc.same (by omega), usx⟩, st_expr h (by omega) (by omega) ad e2' (t3.trans t4) (Tc.same (by omega)) (by omega) (by omega) fa, ?_⟩, by omega, fun d Q hd hq => path d Q hd ⟨_, by simp only [dS, dU] at hd ⊢; omega, acr_ok hr ⟨1, by simp only [dS] at hd; omega, ac_mustSign e2.1 (by decide) (fun _ => ⟨0, by simp only [dS] at hd; omega, ac_emit p3.2.2.2.2.2.2.2.2.2.2.2.1 (by omega) (a_readStatement_526 _ _ hq)⟩) (fun z => absurd c z)⟩⟩⟩
  unfold Ds
  rw [w1, w2, w3, w4, w5, w6, w7, w8, w9, w10, w11]
  omega
theorem least {Pr : Nat → Prop} : ∀ n, Pr n → ∃ i, i ≤ n ∧ Pr i ∧ ∀ u, u < i → ¬ Pr u := by
  intro n
  induction n using Nat.strongRecOn with
  | _ n ih =>
    intro hn
    by_cases c : ∃ u, u < n ∧ Pr u
    · obtain ⟨u, u1, u2⟩ := c
      obtain ⟨i, i1, i2, i3⟩ := ih u u1 u2
      exact ⟨i, by omega, i2, i3⟩
    · exact ⟨n, Nat.le_refl _, hn, fun u hu z => c ⟨u, hu, z⟩⟩
/-- the reference declares the name where both stand -/
theorem decl_ref (h : Ps κ σ N b P) : ∃ (v : Nat) (σd : Rm), (∀ κ', DcR b (cV κ b) κ κ' (kL κ 76 (pC κ)) (kI κ 72 8) → DcS b κ σ κ' σd v) ∧ (∀ (F : Int32 → Rm → Prop) (x : Int32), F (nI v) (wS σd 10 x) → AC X 92 1 MX13_variable [vR 92, vI (nI (pC κ))] (wS σ 10 x) (aRI F)) ∧ v < 1600 := by
  obtain ⟨E, D, n1, n2, n3, n4, n5, n6, n7, n8, nE, n9, n10⟩ := h.1.2.2.2.2
  have hp := h.p3
  have er : rV σ = E.length := by unfold rV; rw [n8, cl_nI (by omega)]
  have s25 : sI σ 25 = nI (rV σ) := by rw [er]; exact n8
  by_cases c : ∃ u, u < rV σ ∧ aL σ 24 u = aL σ 9 (pC κ)
  · obtain ⟨u, u1, u2⟩ := c
    obtain ⟨i, i1, i2, i3⟩ := least (Pr := fun u => aL σ 24 u = aL σ 9 (pC κ)) u u2
    have fi : FstR σ (rV σ) (aL σ 9 (pC κ)) i := ⟨by omega, i2, i3⟩
    refine ⟨i, σ, fun κ' dc => ⟨dc, Or.inl ⟨fi, rfl⟩⟩, fun F x hF => ac_variable (n := rV σ) (by rw [sI_ne (by decide)]; exact s25) (by omega) (by omega) (fun i' fi' => ?_) (fun no => absurd u2 (no u u1)), by omega⟩
    have e : i' = i := by
      by_cases c1 : i' < i
      · exact absurd fi'.2.1 (i3 i' c1)
      · by_cases c2 : i < i'
        · exact absurd i2 (fi'.2.2 i c2)
        · omega
    rw [e]; exact hF
  · refine ⟨rV σ, vd σ (pC κ), fun κ' dc => ⟨dc, Or.inr ⟨fun u hu z => c ⟨u, hu, z⟩, rfl, rfl⟩⟩, fun F x hF => ac_variable (n := rV σ) (by rw [sI_ne (by decide)]; exact s25) (by omega) (by omega) (fun i fi => absurd ⟨i, fi.1, fi.2.1⟩ c) (fun _ => ?_), by omega⟩
    rw [vd_comm]; exact hF
/-- a STORE and its number -/
theorem store_ext {κd κ2 κ3 : Km} {σd σ2 σ3 : Rm} {κF : Km} {σF : Rm} {vr br : Nat → Nat → Prop} {t v i : Nat} (hf : Fnc σF vr br b) (he : Ext κF σF vr br b κ2 σ2 κ3 σ3) (nf : cV κd b ≤ rV σd) (tn : Tn b κd σd κ3 σ3) (tl : kL κ3 76 = kL κd 76) (hv : rV σd = cV κd b → VnR κd b t v) (ht : t < 3001) (h1 : iC κ2 ≤ i) (h2 : i < iC κ3) (ha : kI κ3 69 i = 3) (hx : kI κ3 70 i = -1 - nI t) : v < nvB σF b ∧ kI κF 70 i = nI v := by
  have n3 := he.2.2.2.2.2.2.2.1
  have e1 : rV σd = cV κd b := by
    have := tn.2.1
    omega
  have vn := he.2.2.2.2.2.2.2.2 t v ((hv e1).tn tn tl)
  obtain ⟨v', w1, w2⟩ := (he.1 i h1 h2).2.2.2.1 (Or.inr ha) t ht hx
  have := hf.2.1 t v v' vn w1
  subst this
  exact ⟨hf.2.2.2 t v vn, w2⟩
theorem simple_core {m d0 : Nat} {F : Int32 → Km → Prop} (hE : SpE X N b P m) (h : Ps κ σ N b P) (hb : Bds κ σ) (hm : N + 1 - pC κ ≤ m) (ad : AdC κ κ1 20 (kI κ 72 8)) (hd0 : dS (oC κ) ≤ d0) (n2 : kI κ1 72 7 ≠ 202) (n4 : kI κ1 72 7 ≠ 204) (n8 : kI κ1 72 7 ≠ 208) (n9 : kI κ1 72 7 ≠ 209) (n21 : kI κ1 72 7 ≠ 221) (n5 : kI κ1 72 7 ≠ 205) (q1 : ∀ κ', OkS X N b P κ σ κ' → F 1 κ') (q0 : ∀ κ', BadS X b κ σ κ' → F 0 κ') : KC' X d0 MX5_readSimple [vR 77] κ1 (kRI F) := by
  have ho2 : oC κ ≤ 24 := h.2.2.2.2.2.2.2.2.1
  have bi := hb.1.i h
  have hj : rJ σ < 12000 := by omega
  obtain ⟨p1, t1, w1, w2, w3, w4, w5, w6, w7, w8, w9, w10, w11⟩ := act_pair (op := 0) (y := kI κ 72 8) (z := 0) h (by omega) (by omega) ad
  have hbd : ∀ (κa : Km) (σa : Rm), pC κ ≤ pC κa → oC κa = oC κ → iC κa = iC κ + 1 → rJ σa = rJ σ + 1 → rU σa = rU σ → rA σa = rA σ → rT σa = rT σ → rC σa = rC σ → 2 * rV σa ≤ 2 * rV σ + (pC κa - pC κ) → Bdd κa σa := fun κa σa g1 g2 g3 g4 g5 g6 g7 g8 g9 => by
    obtain ⟨⟨b1, b2, b3, b4, b5, b6, b7⟩, b8, b9⟩ := hb
    unfold Bdd
    omega
  have clU : ∀ (a op : Int32), ((a = 21 ∧ op = 21) ∨ (a = 29 ∧ op = 27)) → ∀ (κF : Km) (σF : Rm) (i j : Nat) (W : Pt → Prop) (L : List Itm), kI κF 69 i = a → aI σF 13 j = op → W (b, i + 1, j + 1, L, 0, 0) → Cl κF σF W b i j L 1 1 := fun a op ho κF σF i j W L g1 g3 w => Or.inr (Or.inr (Or.inr (Or.inr (Or.inr (Or.inr (Or.inr (Or.inr (Or.inr (Or.inr (Or.inr (Or.inl ⟨rfl, rfl, by rw [g1, g3]; exact ho, w⟩)))))))))))
  refine KC_of_K rfl (Nat.le_of_ble_eq_true rfl) rfl (k_5_readSimple_0 ⟨fun c => ?_, fun c10 => ⟨fun c => ?_, fun c15 => ⟨fun c => ?_, fun c2 => ?_⟩⟩⟩)
  · -- tell
    have hlt := p1.n0 (c := 210) c (by omega) (by omega)
    obtain ⟨p2, t2, m1, m2, m3, m4, m5, m6, m7, m8, m9, m10, m11⟩ := p1.next hlt
    refine k_5_readSimple_30 _ _ ⟨fun _ => k_5_readSimple_50 _ _ _ ⟨0, by simp only [dS] at hd0; omega, kc_nextP p1 hlt ?_⟩, fun z => absurd c z⟩
    refine simp_tail (op := 21) (y := 0) hE h hb (by omega) ad (p1.tp hlt) (hbd _ _ (by omega) (by omega) (by omega) (by omega) (by omega) (by omega) (by omega) (by omega) (by omega)) (by omega) (by omega) (by omega) (by omega) (by omega) (by omega) (by omega) (by omega) (by omega) (by unfold i8; decide) (Or.inl ⟨by decide, by decide, by decide, by decide, by omega⟩) hd0 (fun κ2 σ2 κ3 σ3 _ κF σF vr br _ _ _ _ _ g1 _ g3 _ _ W L w => clU 21 21 (Or.inl ⟨rfl, rfl⟩) κF σF _ _ W L g1 g3 w) (fun d Q hd hA => rs_tell h hj p1 (by simp only [dS] at hd; omega) c (by
      rintro s1 rfl
      rw [wS_at p1]
      exact hA)) q1 q0
  · -- close
    have hlt := p1.n0 (c := 215) c (by omega) (by omega)
    obtain ⟨p2, t2, m1, m2, m3, m4, m5, m6, m7, m8, m9, m10, m11⟩ := p1.next hlt
    refine k_5_readSimple_30 _ _ ⟨fun z => absurd z c10, fun _ => k_5_readSimple_50 _ _ _ ⟨0, by simp only [dS] at hd0; omega, kc_nextP p1 hlt ?_⟩⟩
    refine simp_tail (op := 27) (y := 0) hE h hb (by omega) ad (p1.tp hlt) (hbd _ _ (by omega) (by omega) (by omega) (by omega) (by omega) (by omega) (by omega) (by omega) (by omega)) (by omega) (by omega) (by omega) (by omega) (by omega) (by omega) (by omega) (by omega) (by omega) (by unfold i8; decide) (Or.inl ⟨by decide, by decide, by decide, by decide, by omega⟩) hd0 (fun κ2 σ2 κ3 σ3 _ κF σF vr br _ _ _ _ _ g1 _ g3 _ _ W L w => clU 29 27 (Or.inr ⟨rfl, rfl⟩) κF σF _ _ W L g1 g3 w) (fun d Q hd hA => rs_close h hj p1 (by simp only [dS] at hd; omega) c (by
      rintro s1 rfl
      rw [wS_at p1]
      exact hA)) q1 q0
  · have hlt := p1.n0 (c := 2) c (by omega) (by omega)
    refine ⟨0, by simp only [dS] at hd0; omega, kc_kindBehind p1 hlt ⟨fun c61 => ?_, fun c61 => ?_⟩⟩
    · -- an assignment
      obtain ⟨v, σd, hds, href, v16⟩ := decl_ref (X := X) p1
      refine ⟨2, by simp only [dS] at hd0; omega, kc_declareHere p1 (fun κd dc => ?_)⟩
      have hb1 : Bdd κ1 (sg κ σ) := hbd _ _ (by omega) w2 w3 w4 w5 w6 w7 w8 (by rw [w9]; omega)
      obtain ⟨pd, td, ⟨u1, u2, u3, u4, u5, u6, u7, u8, u9, u10, u11⟩, u12, u13⟩ := p1.decl hb1 c (hds κd dc)
      have hltd : pC κd < N := by omega
      obtain ⟨pX, tX, m1, m2, m3, m4, m5, m6, m7, m8, m9, m10, m11⟩ := pd.next hltd
      have e74 : kI κd 74 = kI κ1 74 := (dc.kf.1.1 74 (by omega)).1
      have k61 : kI (setC κd (pC κd + 1)) 72 7 = 61 := by rw [setC_cur.2.1, setC_ne (by decide), e74, u1]; exact c61
      have hltX := pX.n0 (c := 61) k61 (by omega) (by omega)
      obtain ⟨pY, tY, v1, v2, v3, v4, v5, v6, v7, v8, v9, v10, v11⟩ := pX.next hltX
      have tpd : TP N b P κ1 (sg κ σ) κd σd := ⟨pd, td, u3, u4, u8, u5, u6⟩
      have tpa := (tpd.trans (pd.tp hltd)).trans (pX.tp hltX)
      refine ⟨0, by simp only [dS] at hd0; omega, kc_nextP pd hltd ⟨0, by simp only [dS] at hd0; omega, kc_nextP pX hltX ?_⟩⟩
      have g9 : 2 * rV (wS (wS σd 10 (nI (pC κd + 1))) 10 (nI (pC (setC κd (pC κd + 1)) + 1))) ≤ 2 * rV σ + (pC (setC (setC κd (pC κd + 1)) (pC (setC κd (pC κd + 1)) + 1)) - pC κ) := by
        have : rV (em σ 0 (kI κ 72 8) 0) = rV σ := w9
        have u12' : rV σd ≤ rV (em σ 0 (kI κ 72 8) 0) + 1 := u12
        omega
      have dn : Dn N κd (em σ 0 (kI κ 72 8) 0) σd (pC κ1) v := DcS.nm p1 (by
        have h9 : 2 * rV (em σ 0 (kI κ 72 8) 0) ≤ pC κ1 := hb1.2.2.2.2.2.2
        have := p1.p3
        omega) c (hds κd dc) td
      have dnY : Dn N (setC (setC κd (pC κd + 1)) (pC (setC κd (pC κd + 1)) + 1)) σ (wS (wS σd 10 (nI (pC κd + 1))) 10 (nI (pC (setC κd (pC κd + 1)) + 1))) (pC κ1) v := by
        have w9' : rV (em σ 0 (kI κ 72 8) 0) = rV σ := w9
        have tt := dn.t0 (tX.trans tY).t0
        obtain ⟨-, -, -, -, g5, g6, g7⟩ := dn
        exact ⟨tt.1, tt.2.1, tt.2.2.1, tt.2.2.2, by omega, by omega, fun z => (g7 (by omega)).trans w9'⟩
      have j4 : rJ σd = rJ (em σ 0 (kI κ 72 8) 0) := u4
      have j5 : rU σd = rU (em σ 0 (kI κ 72 8) 0) := u5
      have j6 : rA σd = rA (em σ 0 (kI κ 72 8) 0) := u6
      have j7 : rT σd = rT (em σ 0 (kI κ 72 8) 0) := u7
      have j8 : rC σd = rC (em σ 0 (kI κ 72 8) 0) := u8
      have j10 : rK σd = rK (em σ 0 (kI κ 72 8) 0) := u10
      have j11 : rE σd = rE (em σ 0 (kI κ 72 8) 0) := u11
      refine simp_tail (op := 3) (y := nI v) hE h hb (by omega) ad tpa (hbd _ _ (by omega) (by omega) (by omega) (by omega) (by omega) (by omega) (by omega) (by omega) g9) (by omega) (by omega) (by omega) (by omega) (by omega) (by omega) (by omega) (by omega) g9 (by unfold i8; decide) (Or.inr ⟨rfl, pC κ1, v, rfl, dnY⟩) hd0 (fun κ2 σ2 κ3 σ3 tr3 κF σF vr br hf he ha hx hlt3 g1 _ g3 _ g5 W L w => ?_) (fun d Q hd hA => rs_plain h hj p1 (by simp only [dS] at hd; omega) c10 n2 n4 n8 n9 c15 n21 n5 (fun _ _ => ⟨1, by simp only [dS] at hd; omega, ac_mustName p1 (fun _ => ⟨1, by simp only [dS] at hd; omega, href _ _ ⟨1, by simp only [dS] at hd; omega, ?_⟩⟩) (fun z => absurd (c.symm.trans z) (by decide)) (fun z => absurd c z)⟩) (fun z => absurd ⟨Or.inl c, c61⟩ z)) q1 q0
      · have trd := (tX.trans tY).trans tr3
        obtain ⟨s1, s2⟩ := store_ext (t := pC κ1) (v := v) hf he pd.1.2.2.2.2.cv trd.2.2.2 ((trd.1.1.1 76 np76).2.1) u13 (by have := p1.p3; omega) (Nat.le_refl _) hlt3 ha hx
        exact Or.inr (Or.inr (Or.inr (Or.inr (Or.inl ⟨rfl, g1, g3, rfl, ⟨v, s1, s2, g5 (by decide) (by decide) (by decide)⟩, w⟩))))
      · rw [← u1]
        exact ac_mustSign pX (by decide) (fun _ => hA) (fun z => absurd k61 z)
    · refine simp_tail (op := 22) (y := 0) hE h hb (by omega) ad (⟨p1, Tr.refl, rfl, rfl, rfl, rfl, rfl⟩ : TP N b P κ1 (sg κ σ) κ1 (sg κ σ)) (hbd _ _ (by omega) w2 w3 w4 w5 w6 w7 w8 (by rw [w9]; omega)) (by omega) w2 w5 w6 w7 w8 w10 w11 (by rw [w9]; omega) (by unfold i8; decide) (Or.inl ⟨by decide, by decide, by decide, by decide, w9⟩) hd0 (fun κ2 σ2 κ3 σ3 _ κF σF vr br _ _ _ _ _ g1 _ g3 _ _ W L w => Or.inr (Or.inr (Or.inr (Or.inr (Or.inr (Or.inl ⟨rfl, g1, g3, rfl, w⟩)))))) (fun d Q hd hA => rs_plain h hj p1 (by simp only [dS] at hd; omega) c10 n2 n4 n8 n9 c15 n21 n5 (fun _ z => absurd z c61) (fun _ => a_readStatement_507 _ _ hA)) q1 q0
  · -- an expression
    by_cases c5 : kI κ1 72 7 = 5 ∧ kI κ1 74 (pC κ1 + 1) = 61
    · refine k_5_readSimple_105 _ _ ⟨d0 - 1, by simp only [dS] at hd0; omega, long_name (by simp only [dS] at hd0; omega) c5.1 ⟨fun _ => k_5_readSimple_121 _ _ ⟨_, rfl, q0 _ ⟨_, (Flt.at' (k := 8) p1 (by omega) (by omega)).pre t1, fun d Q hd hq => rs_plain h hj p1 (by simp only [dS] at hd; omega) c10 n2 n4 n8 n9 c15 n21 n5 (fun _ _ => ⟨1, by simp only [dS] at hd; omega, ac_mustName p1 (fun z => absurd z c2) (fun _ => hq) (fun _ z => absurd c5.1 z)⟩) (fun z => absurd ⟨Or.inr c5.1, c5.2⟩ z)⟩⟩, fun z => absurd rfl z⟩⟩
    · refine simp_tail (op := 22) (y := 0) hE h hb (by omega) ad (⟨p1, Tr.refl, rfl, rfl, rfl, rfl, rfl⟩ : TP N b P κ1 (sg κ σ) κ1 (sg κ σ)) (hbd _ _ (by omega) w2 w3 w4 w5 w6 w7 w8 (by rw [w9]; omega)) (by omega) w2 w5 w6 w7 w8 w10 w11 (by rw [w9]; omega) (by unfold i8; decide) (Or.inl ⟨by decide, by decide, by decide, by decide, w9⟩) hd0 (fun κ2 σ2 κ3 σ3 _ κF σF vr br _ _ _ _ _ g1 _ g3 _ _ W L w => Or.inr (Or.inr (Or.inr (Or.inr (Or.inr (Or.inl ⟨rfl, g1, g3, rfl, w⟩)))))) (fun d Q hd hA => rs_plain h hj p1 (by simp only [dS] at hd; omega) c10 n2 n4 n8 n9 c15 n21 n5 (fun z1 z2 => absurd (z1.resolve_left c2) (fun z => c5 ⟨z, z2⟩)) (fun _ => a_readStatement_507 _ _ hA)) q1 q0
end SIMP2
