/-! catch: its head, for both -/
section CAT
variable {X : Cx} {N b P : Nat} {κ κn κx κk : Km} {σ σn σx σk : Rm}
/-- the reference's readTry comes to a place -/
def RPt (X : Cx) (κ : Km) (σ : Rm) (pc : Nat) (lv : Lv) (s : Rm) : Prop := ∀ (e : Nat) (Q : Res → Rm → Prop), dS (oC κ) + 18 ≤ e → A X 92 e MX13_readTry pc lv [] s Q → A X 92 e MX13_readTry 0 [(0, vR 92)] [] (em σ 0 (kI κ 72 8) 0) Q
/-- .. to an end -/
def RTr (X : Cx) (κ : Km) (σ σ' : Rm) (r : Res) : Prop := ∀ (e : Nat) (Q : Res → Rm → Prop), dS (oC κ) + 18 ≤ e → Q r σ' → A X 92 e MX13_readTry 0 [(0, vR 92)] [] (em σ 0 (kI κ 72 8) 0) Q
/-- .. to the block of a catch -/
def RBk (X : Cx) (κ : Km) (σ : Rm) (t : Nat) (s : Rm) : Prop := ∀ (e : Nat) (Q : Res → Rm → Prop), dS (oC κ) + 18 ≤ e → (∃ e23 : Nat, e23 + 1 ≤ e ∧ AC X 92 e23 MX13_readBlock [vR 92] s (aTV Q fun s26 => ∀ s27 : Rm, s27 = wS s26 35 ((sI s26 35) - 1) → ∃ e28 : Nat, e28 + 1 ≤ e ∧ AC X 92 e28 MX13_emit [vR 92, vI 29, vI (nI t), vI 0] s27 (aRI fun y31 s32 => A X 92 e MX13_readTry 57 [(0, vR 92), (1, vI (nI t)), (2, vI y31), (3, vI 1)] [] s32 Q))) → A X 92 e MX13_readTry 0 [(0, vR 92)] [] (em σ 0 (kI κ 72 8) 0) Q
/-- a catch's head was read by both -/
def CH (X : Cx) (N b P n : Nat) (κ : Km) (σ : Rm) (t : Nat) (κx : Km) (σx : Rm) (κk : Km) (σk : Rm) : Prop := ∃ (κd : Km) (σd : Rm) (v tok : Nat) (y x30 : Int32), (Ps κk σk N b P ∧ Tr b κx σx κk σk) ∧ (pC κx + n ≤ pC κk ∧ oC κk = oC κx ∧ iC κk = iC κx + 3 ∧ rJ σk = rJ σx ∧ rU σk = rU σx ∧ rA σk = rA σx ∧ rT σk = rT σx ∧ rC σk = rC σx + 1 ∧ rV σk ≤ rV σx + 1 ∧ rK σk = rK σx + 1 ∧ rE σk = rE σx) ∧ (kI κk 69 (iC κx) = 41 ∧ kI κk 70 (iC κx) = y) ∧ kI κk 69 (iC κx + 1) = 42 ∧ (kI κk 69 (iC κx + 2) = 3 ∧ kI κk 70 (iC κx + 2) = -1 - nI tok) ∧ (aI σk 30 (rC σx) = x30 ∧ aI σk 31 (rC σx) = nI v ∧ aI σk 32 (rC σx) = nI (rJ σk) ∧ aI σk 33 (rC σx) = nI (rK σx) ∧ aI σk 45 (rC σx) = nI t) ∧ ((y = -1 ∧ x30 = -9) ∨ ∃ x, x < 1000000000 ∧ y = nI x ∧ x30 = nI x) ∧ cV κd b ≤ rV σd ∧ T0 b κd σd κk σk ∧ (rV σd = cV κd b → VnR κd b tok v) ∧ tok < 3001 ∧ RBk X κ σ t σk ∧ Dn N κd σx σd tok v ∧ rV σk = rV σd
theorem CH.pre {t : Nat} (ch : CH X N b P 1 κ σ t κx σx κk σk) (tx : Tr b κn σn κx σx) (e1 : pC κn + 1 ≤ pC κx) (e2 : oC κx = oC κn) (e3 : iC κx = iC κn) (e4 : rJ σx = rJ σn) (e5 : rU σx = rU σn) (e6 : rA σx = rA σn) (e7 : rT σx = rT σn) (e8 : rC σx = rC σn) (e9 : rV σx = rV σn) (e10 : rK σx = rK σn) (e11 : rE σx = rE σn) : CH X N b P 2 κ σ t κn σn κk σk := by
  obtain ⟨κd, σd, v, tok, y, x30, ⟨c1, c2⟩, ⟨d1, d2, d3, d4, d5, d6, d7, d8, d9, d10, d11⟩, c3, c4, c5, c6, c7, c8, c9, c10, c11, c12, ⟨z1, z2, z3, z4, z5, z6, z7⟩, c14⟩ := ch
  rw [e3] at c3 c4 c5
  rw [e8, e10] at c6
  exact ⟨κd, σd, v, tok, y, x30, ⟨c1, tx.trans c2⟩, ⟨by omega, by omega, by omega, by omega, by omega, by omega, by omega, by omega, by omega, by omega, by omega⟩, c3, c4, c5, c6, c7, c8, c9, c10, c11, c12, ⟨z1, z2, z3, z4, by omega, by omega, fun z => (z7 (by omega)).trans e9⟩, c14⟩
theorem catch_name {d t : Nat} {x1 x2 x4 : Int32} {G : Int32 → Km → Prop} (px : Ps κx σx N b P) (hv : rV σx ≤ 1500) (hi : iC κx ≤ 9100) (hc : rC σx < 1000) (hk : rK σx < 1000) (hd : 3 ≤ d) (num : (x1 = -1 ∧ x4 = -9) ∨ ∃ x, x < 1000000000 ∧ x1 = nI x ∧ x4 = nI x) (rp : RPt X κ σ 101 [(0, vR 92), (1, vI (nI t)), (2, vI x2), (3, vI 1), (4, vI x4)] σx)
    (q0 : ∀ κ' σ', Flt b κx σx 9200 κ' σ' → RTr X κ σ σ' (.inr 93) → G (-9) κ') (q1 : ∀ κk σk, CH X N b P 1 κ σ t κx σx κk σk → G (nI (iC κx + 1)) κk) : K X d MX5_readCatchHead 54 [(0, vR 77), (1, vI x1)] [] κx (kRI G) := by
  have hp := px.p3
  refine k_5_readCatchHead_54 _ ⟨1, by omega, kc_isName (fun c => ⟨fun z => absurd z (by decide), fun _ => ?_⟩) (fun c => ⟨fun _ => ⟨_, rfl, q0 _ _ (Flt.at' (k := 8) px (by omega) (by omega)) (fun e Q he hq => rp e Q he (a_readTry_101 _ _ _ _ ⟨1, by simp only [dS] at he; omega, ac_mustName px (fun z => absurd (c.symm.trans z) (by decide)) (fun _ => hq) (fun _ z => absurd c z)⟩))⟩, fun z => absurd rfl z⟩) (fun c c5 => ⟨fun _ => ⟨_, rfl, q0 _ _ (Flt.at px (by omega)) (fun e Q he hq => rp e Q he (a_readTry_101 _ _ _ _ ⟨1, by simp only [dS] at he; omega, ac_mustName px (fun z => absurd z c) (fun z => absurd z c5) (fun _ _ => hq)⟩))⟩, fun z => absurd rfl z⟩)⟩
  have hlt := px.n0 (c := 2) c (by omega) (by omega)
  refine ⟨2, by omega, px.add (by omega) (by unfold i8; decide) (fun κ41 ad1 => ?_)⟩
  obtain ⟨⟨p1, t1⟩, a1, a2, a3, -⟩ := px.addC (by omega) ad1
  refine ⟨2, by omega, p1.add (by omega) (by unfold i8; decide) (fun κ42 ad2 => ?_)⟩
  obtain ⟨⟨p2, t2⟩, b1, b2, b3, -⟩ := p1.addC (by omega) ad2
  obtain ⟨v, σd, hds, href, v16⟩ := decl_ref (X := X) p2
  refine ⟨2, by omega, kc_declareHere p2 (fun κd dc => ?_)⟩
  have c' : kI κ42 72 7 = 2 := by rw [(ad2.2.2.2.2.2.1.1 72 (by decide)).1, (ad1.2.2.2.2.2.1.1 72 (by decide)).1]; exact c
  obtain ⟨pd, td, ⟨u1, u2, u3, u4, u5, u6, u7, u8, u9, u10, u11⟩, u12, u13⟩ := p2.decl0 hv c' (hds κd dc)
  refine ⟨2, by omega, pd.add (by omega) (by unfold i8; decide) (fun κ3 ad3 => ?_)⟩
  obtain ⟨⟨p3, t3⟩, c1, c2, c3, -⟩ := pd.addC (by omega) ad3
  refine ⟨0, by omega, kc_nextP p3 (by omega) ⟨_, rfl, ?_⟩⟩
  obtain ⟨pX, tX, x1', x2', x3', x4', x5', x6', x7', x8', x9', x10', x11'⟩ := p3.next (by omega)
  have e10 : pC κ3 = pC κx := by omega
  have e42 : pC κ42 = pC κx := by omega
  have dn := DcS.nm p2 hv c' (hds κd dc) td
  rw [e42] at href u13 ad3 dn
  generalize hσX : wS σd 10 (nI (pC κ3 + 1)) = σX at *
  generalize hκX : setC κ3 (pC κ3 + 1) = κX at *
  have hcX : rC σX < 1000 := by omega
  obtain ⟨pk, tk, k1, k2, k3, k4, k5, k6, k7, k8, k9, k10, k11⟩ := pX.ctw (x := x4) (v := v) (t := t) hcX (by omega)
  have atk := ctW_at (σ := σX) (x := x4) (v := v) (t := t)
  obtain ⟨B1, B2, B3, B4, B5, B6, B7, B8, B9, B10, B11, B12, B13, B14, B15, B16, B17⟩ := pX.2
  have rows : ∀ k, k < iC κX → kI κX 69 k = kI κ3 69 k ∧ kI κX 70 k = kI κ3 70 k := fun k hk => tX.2.2.1.2.2.2.2.2.2.1 k (by omega)
  have rowd : ∀ k, k < iC κ42 → kI κd 69 k = kI κ42 69 k ∧ kI κd 70 k = kI κ42 70 k := fun k hk => td.2.2.1.2.2.2.2.2.2.1 k hk
  have w1 : kI κX 69 (iC κx) = 41 ∧ kI κX 70 (iC κx) = x1 := by
    have r1 := rows (iC κx) (by omega)
    have r2 := add_old ad3 (k := iC κx) (by omega)
    have r3 := rowd (iC κx) (by omega)
    have r4 := add_old ad2 (k := iC κx) (by omega)
    rw [r1.1, r1.2, r2.1, r2.2, r3.1, r3.2, r4.1, r4.2]
    exact ⟨ad1.2.1, ad1.2.2.1⟩
  have w2 : kI κX 69 (iC κx + 1) = 42 := by
    have r1 := rows (iC κx + 1) (by omega)
    have r2 := add_old ad3 (k := iC κx + 1) (by omega)
    have r3 := rowd (iC κx + 1) (by omega)
    have r4 := ad2.2.1
    rw [a3] at r4
    rw [r1.1, r2.1, r3.1, r4]
  have w3 : kI κX 69 (iC κx + 2) = 3 ∧ kI κX 70 (iC κx + 2) = -1 - nI (pC κx) := by
    have r1 := rows (iC κx + 2) (by omega)
    have e : iC κd = iC κx + 2 := by omega
    have r4 := ad3.2.1
    have r5 := ad3.2.2.1
    rw [e] at r4 r5
    rw [r1.1, r1.2]
    exact ⟨r4, r5⟩
  have e8 : rC σX = rC σx := by omega
  have e10' : rK σX = rK σx := by omega
  rw [e8, e10'] at atk
  have e4 : rJ (ctW σX x4 v t) = rJ σX := k4
  rw [a3]
  refine q1 κX (ctW σX x4 v t) ⟨κd, σd, v, pC κx, x1, x4, ⟨pk, (t1.trans (t2.trans td)).trans ((t3.trans tX).trans tk)⟩, ⟨by omega, by omega, by omega, by omega, by omega, by omega, by omega, by omega, by omega, by omega, by omega⟩, w1, w2, w3, ⟨atk.1, atk.2.1, by rw [e4]; exact atk.2.2.1, atk.2.2.2.1, atk.2.2.2.2⟩, num, pd.1.2.2.2.2.cv, ((t3.trans tX).trans tk).t0, u13, by omega, fun e Q he hA => rp e Q he (a_readTry_101 _ _ _ _ ⟨1, by simp only [dS] at he; omega, ac_mustName px (fun _ => ⟨1, by simp only [dS] at he; omega, href _ _ ?_⟩) (fun z => absurd (c.symm.trans z) (by decide)) (fun z => absurd c z)⟩), dn, by omega⟩
  rw [← e10, hσX, B13, vpn (by omega), cl_nI (by omega), nI_1]
  rintro s11 rfl
  refine ⟨hcX, ?_⟩
  rintro s13 rfl
  refine ⟨hcX, ?_⟩
  rintro s15 rfl
  refine ⟨hcX, ?_⟩
  rw [sI_ne (by decide), sI_ne (by decide), sI_ne (by decide), B11]
  rintro s17 rfl
  refine ⟨hcX, ?_⟩
  rw [sI_ne (by decide), sI_ne (by decide), sI_ne (by decide), sI_ne (by decide), B16]
  rintro s19 rfl
  refine ⟨hcX, ?_⟩
  rintro s21 rfl
  rw [sI_ne (by decide), sI_ne (by decide), sI_ne (by decide), sI_ne (by decide), sI_ne (by decide), sI_ne (by decide), B16, nI_1]
  rintro s22 rfl
  exact hA
theorem catch_head {d t : Nat} {x2 x3 : Int32} {G : Int32 → Km → Prop} (pn : Ps κn σn N b P) (hv : rV σn ≤ 1500) (hi : iC κn ≤ 9100) (hc : rC σn < 1000) (hk : rK σn < 1000) (hd : 3 ≤ d) (c206 : kI κn 72 7 = 206) (rp : RPt X κ σ 57 [(0, vR 92), (1, vI (nI t)), (2, vI x2), (3, vI x3)] σn)
    (q0 : ∀ κ' σ', Flt b κn σn 9200 κ' σ' → RTr X κ σ σ' (.inr 93) → G (-9) κ') (q1 : ∀ κk σk, CH X N b P 2 κ σ t κn σn κk σk → G (nI (iC κn + 1)) κk) : KC' X d MX5_readCatchHead [vR 77] κn (kRI G) := by
  have hp := pn.p3
  have hlt := pn.n0 (c := 206) c206 (by omega) (by omega)
  obtain ⟨p4, t4, m1, m2, m3, m4, m5, m6, m7, m8, m9, m10, m11⟩ := pn.next hlt
  obtain ⟨f, tt, g1, g2, g3, g4, g5, g6, g7, g8⟩ := p4.tok
  have rp2 : ∀ (e : Nat) (Q : Res → Rm → Prop), dS (oC κ) + 18 ≤ e → ((aI (wS σn 10 (nI (pC κn + 1))) 5 (pC (setC κn (pC κn + 1))) = 2 → ∃ e28 : Nat, e28 + 1 ≤ e ∧ AC X 92 e28 MX13_mustNumber [vR 92] (wS σn 10 (nI (pC κn + 1))) (aTI Q fun y31 s32 => A X 92 e MX13_readTry 101 [(0, vR 92), (1, vI (nI t)), (2, vI x2), (3, vI 1), (4, vI y31)] [] s32 Q)) ∧ (¬ aI (wS σn 10 (nI (pC κn + 1))) 5 (pC (setC κn (pC κn + 1))) = 2 → A X 92 e MX13_readTry 101 [(0, vR 92), (1, vI (nI t)), (2, vI x2), (3, vI 1), (4, vI (-9))] [] (wS σn 10 (nI (pC κn + 1))) Q)) → A X 92 e MX13_readTry 0 [(0, vR 92)] [] (em σ 0 (kI κ 72 8) 0) Q := fun e Q he hA => rp e Q he (a_readTry_57 _ _ _ ⟨5, by simp only [dS] at he; omega, ac_isWord (w := 6) pn (by decide) (fun _ => ⟨fun z => absurd z (by decide), fun _ => by
    rintro s25 rfl
    rw [wS_at pn, p4.2.2.2.2.1, vpn (by omega), cl_nI (by omega)]
    exact ⟨by omega, hA⟩⟩) (fun z => absurd c206 z)⟩)
  refine KC_of_K rfl (Nat.le_of_ble_eq_true rfl) rfl (k_5_readCatchHead_0 ⟨0, by omega, kc_nextP pn hlt ⟨fun c3 => ?_, fun n3 => ⟨fun c6 => ?_, fun n6 => ?_⟩⟩⟩)
  · rcases g7.number with ⟨x, hx, -, s2, -, hL, -⟩ | ⟨z, -⟩ | ⟨z, -⟩
    · have hlt4 := p4.n0 (c := 3) c3 (by omega) (by omega)
      obtain ⟨p5, t5, l1, l2, l3, l4, l5, l6, l7, l8, l9, l10, l11⟩ := p4.next hlt4
      refine k_5_readCatchHead_32 _ ⟨1, by omega, kc_isNumber (fun _ => ⟨fun z => absurd z (by decide), fun _ => ⟨1, by omega, kc_numberHere p4 hx hL ⟨0, by omega, kc_nextP p4 hlt4 (catch_name (t := t) (x2 := x2) (x4 := nI x) (κ := κ) (σ := σ) p5 (by omega) (by omega) (by omega) (by omega) hd (Or.inr ⟨x, hx, rfl, rfl⟩) ?_ (fun κ' σ' fl r => q0 κ' σ' (fl.pre (t4.trans t5)) r) (fun κk σk ch => ?_))⟩⟩⟩) (fun c => absurd (c3.symm.trans c) (by decide)) (fun c => absurd c3 c)⟩
      · intro e Q he hA
        exact rp2 e Q he ⟨fun _ => ⟨1, by simp only [dS] at he; omega, ac_mustNumber p4 (fun x' hx' _ h' => by
          have e : x' = x := ofNat64_inj (by omega) (by omega) (h'.symm.trans hL)
          rw [e]
          exact hA) (fun c => absurd (c3.symm.trans c) (by decide)) (fun c => absurd c3 c)⟩, fun z => absurd s2 z⟩
      · have := q1 κk σk (ch.pre (t4.trans t5) (by omega) (by omega) (by omega) (by omega) (by omega) (by omega) (by omega) (by omega) (by omega) (by omega) (by omega))
        rw [l3, m3]
        exact this
    · exact absurd (c3.symm.trans z) (by decide)
    · exact absurd c3 z
  · rcases g7.number with ⟨x, hx, z, -⟩ | ⟨z, s2, -⟩ | ⟨-, z, -⟩
    · exact absurd z n3
    · exact k_5_readCatchHead_32 _ ⟨1, by omega, kc_isNumber (fun c => absurd c n3) (fun _ => ⟨fun _ => ⟨_, rfl, q0 _ _ ((Flt.at' (k := 9) p4 (by omega) (by omega)).pre t4) (fun e Q he hq => rp2 e Q he ⟨fun _ => ⟨1, by simp only [dS] at he; omega, ac_mustNumber p4 (fun _ _ c _ => absurd c n3) (fun _ => hq) (fun _ c => absurd c6 c)⟩, fun c => absurd s2 c⟩)⟩, fun z => absurd rfl z⟩) (fun _ c => absurd c6 c)⟩
    · exact absurd c6 z
  · rcases g7.number with ⟨x, hx, z, -⟩ | ⟨z, -⟩ | ⟨-, -, s2⟩
    · exact absurd z n3
    · exact absurd z n6
    · refine catch_name (t := t) (x2 := x2) (x4 := -9) (κ := κ) (σ := σ) p4 (by omega) (by omega) (by omega) (by omega) hd (Or.inl ⟨rfl, rfl⟩) (fun e Q he hA => rp2 e Q he ⟨fun z => absurd z s2, fun _ => hA⟩) (fun κ' σ' fl r => q0 κ' σ' (fl.pre t4) r) (fun κk σk ch => ?_)
      have := q1 κk σk (ch.pre t4 (by omega) (by omega) (by omega) (by omega) (by omega) (by omega) (by omega) (by omega) (by omega) (by omega) (by omega))
      rw [m3]
      exact this
end CAT
