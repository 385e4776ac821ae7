/-! each: both run -/
section EAR
variable {X : Cx} {N b P : Nat} {κ κ1 : Km} {σ : Rm}
theorem each_core {m d0 : Nat} {F : Int32 → Km → Prop} (hE : SpE X N b P m) (hB : SpB X N b P m) (h : Ps κ σ N b P) (hb : Bds κ σ) (hm : N + 1 - pC κ ≤ m + 1) (ad : AdC κ κ1 20 (kI κ 72 8)) (hd0 : dS (oC κ) + 5 ≤ d0) (hc : kI κ1 72 7 = 221) (q1 : ∀ κ', OkS X N b P κ σ κ' → F 1 κ') (q0 : ∀ κ', BadS X b κ σ κ' → F 0 κ') : KC' X d0 MX5_readEach [vR 77, vI (kI κ 72 8)] κ1 (kRI F) := by
  have ho2 : oC κ ≤ 24 := h.2.2.2.2.2.2.2.2.1
  have bi := hb.1.i h
  have hp0 := h.p3
  have hj : rJ σ < 12000 := by omega
  obtain ⟨⟨b1, b2, b3, b4, b5, b6, b7⟩, b8, b9, b10⟩ := hb
  obtain ⟨p1, t1, w1, w2, w3, w4, w5, w6, w7, w8, w9, w10, w11⟩ := act_pair (op := 0) (y := kI κ 72 8) (z := 0) h (by omega) (by omega) ad
  have hlt := p1.n0 (c := 221) hc (by omega) (by omega)
  obtain ⟨p2, t2, m1, m2, m3, m4, m5, m6, m7, m8, m9, m10, m11⟩ := p1.next hlt
  have st := em_at (σ := σ) (x := 0) (y := kI κ 72 8) (z := 0)
  have hi2 : iC (setC κ1 (pC κ1 + 1)) ≤ 9200 := by omega
  have bad : ∀ (κ' : Km) (σ' : Rm), Flt b κ σ 9200 κ' σ' → RE X κ σ σ' (.inr 93) → kRI F (.inl (some (vI 0))) κ' := fun κ' σ' fl re => ⟨_, rfl, q0 _ ⟨σ', fl, re.rs h hj p1 hc (Or.inr rfl)⟩⟩
  -- the reference up to the name
  have path1 : ∀ (e : Nat) (Q : Res → Rm → Prop), dS (oC κ) + 18 ≤ e → (∃ e2 : Nat, e2 + 1 ≤ e ∧ AC X 92 e2 MX13_mustName [vR 92] (wS (em σ 0 (kI κ 72 8) 0) 10 (nI (pC κ1 + 1))) (aTI Q fun y5 s6 => ∃ e7 : Nat, e7 + 1 ≤ e ∧ AC X 92 e7 MX13_variable [vR 92, vI y5] s6 (aRI fun y10 s11 => ∃ e12 : Nat, e12 + 1 ≤ e ∧ AC X 92 e12 MX13_mustWord [vR 92, vR 26] s11 (aTV Q fun s15 => ∃ e16 : Nat, e16 + 1 ≤ e ∧ AC X 92 e16 MX13_readE [vR 92] s15 (aTV Q fun s19 => ∀ s20 : Rm, s20 = wS s19 36 ((sI s19 36) + 1) → ∃ e21 : Nat, e21 + 1 ≤ e ∧ AC X 92 e21 MX13_emit [vR 92, vI 31, vI (12 + (sI s19 36)), vI 0] s20 (aRI fun y24 s25 => ∃ e26 : Nat, e26 + 1 ≤ e ∧ AC X 92 e26 MX13_emit [vR 92, vI 32, vI y10, vI (12 + (sI s19 36))] s25 (aRI fun y29 s30 => ∃ e31 : Nat, e31 + 1 ≤ e ∧ AC X 92 e31 MX13_readBlock [vR 92] s30 (aTV Q fun s34 => ∃ e35 : Nat, e35 + 1 ≤ e ∧ AC X 92 e35 MX13_emit [vR 92, vI 0, vI (kI κ 72 8), vI 0] s34 (aRI fun y38 s39 => ∃ e40 : Nat, e40 + 1 ≤ e ∧ AC X 92 e40 MX13_emit [vR 92, vI 23, vI y29, vI 0] s39 (aRI fun y43 s44 => (vp_in y29 12000) ∧ ∀ s46 : Rm, s46 = wI s44 16 ((y29 : Int32).toNatClampNeg) (sI s44 17) → ∀ s47 : Rm, s47 = wS s46 36 ((sI s46 36) - 1) → Q (.inl none) s47)))))))))) → A X 92 e MX13_readEach 0 [(0, vR 92), (1, vI (kI κ 72 8))] [] (em σ 0 (kI κ 72 8) 0) Q := fun e Q he hA => a_readEach_0 _ (by
    rintro s1 rfl
    rw [wS_at p1]
    exact hA)
  refine KC_of_K rfl (Nat.le_of_ble_eq_true rfl) rfl (k_5_readEach_0 _ ⟨0, by simp only [dS] at hd0; omega, kc_nextP p1 hlt ⟨1, by simp only [dS] at hd0; omega, kc_isName (fun c => ⟨fun z => absurd z (by decide), fun _ => ?_⟩) (fun c => ⟨fun _ => bad _ _ ((Flt.at' (k := 8) p2 hi2 (by omega)).pre (t1.trans t2)) (fun e Q he hq => path1 e Q he ⟨1, by simp only [dS] at he; omega, ac_mustName p2 (fun z => absurd (c.symm.trans z) (by decide)) (fun _ => hq) (fun _ z => absurd c z)⟩), fun z => absurd rfl z⟩) (fun c c5 => ⟨fun _ => bad _ _ ((Flt.at p2 hi2).pre (t1.trans t2)) (fun e Q he hq => path1 e Q he ⟨1, by simp only [dS] at he; omega, ac_mustName p2 (fun z => absurd z c) (fun z => absurd z c5) (fun _ _ => hq)⟩), fun z => absurd rfl z⟩)⟩⟩)
  obtain ⟨v, σd, hds, href, v16⟩ := decl_ref (X := X) p2
  refine ⟨2, by simp only [dS] at hd0; omega, kc_declareHere p2 (fun κd dc => ?_)⟩
  have hb2 : Bdd (setC κ1 (pC κ1 + 1)) (wS (em σ 0 (kI κ 72 8) 0) 10 (nI (pC κ1 + 1))) := by
    unfold Bdd
    omega
  obtain ⟨pd, td, ⟨u1, u2, u3, u4, u5, u6, u7, u8, u9, u10, u11⟩, u12, u13⟩ := p2.decl hb2 c (hds κd dc)
  have hlt2 := p2.n0 (c := 2) c (by omega) (by omega)
  have hltd : pC κd < N := by omega
  obtain ⟨pX, tX, x1, x2, x3, x4, x5, x6, x7, x8, x9, x10, x11⟩ := pd.next hltd
  have hp2 := p2.p3
  have hiX : iC (setC κd (pC κd + 1)) ≤ 9200 := by omega
  have tdX : Tr b κ σ (setC κd (pC κd + 1)) (wS σd 10 (nI (pC κd + 1))) := (t1.trans t2).trans (td.trans tX)
  have path2 : ∀ (e : Nat) (Q : Res → Rm → Prop), dS (oC κ) + 18 ≤ e → (∃ e12 : Nat, e12 + 1 ≤ e ∧ AC X 92 e12 MX13_mustWord [vR 92, vR 26] (wS σd 10 (nI (pC κd + 1))) (aTV Q fun s15 => ∃ e16 : Nat, e16 + 1 ≤ e ∧ AC X 92 e16 MX13_readE [vR 92] s15 (aTV Q fun s19 => ∀ s20 : Rm, s20 = wS s19 36 ((sI s19 36) + 1) → ∃ e21 : Nat, e21 + 1 ≤ e ∧ AC X 92 e21 MX13_emit [vR 92, vI 31, vI (12 + (sI s19 36)), vI 0] s20 (aRI fun y24 s25 => ∃ e26 : Nat, e26 + 1 ≤ e ∧ AC X 92 e26 MX13_emit [vR 92, vI 32, vI (nI v), vI (12 + (sI s19 36))] s25 (aRI fun y29 s30 => ∃ e31 : Nat, e31 + 1 ≤ e ∧ AC X 92 e31 MX13_readBlock [vR 92] s30 (aTV Q fun s34 => ∃ e35 : Nat, e35 + 1 ≤ e ∧ AC X 92 e35 MX13_emit [vR 92, vI 0, vI (kI κ 72 8), vI 0] s34 (aRI fun y38 s39 => ∃ e40 : Nat, e40 + 1 ≤ e ∧ AC X 92 e40 MX13_emit [vR 92, vI 23, vI y29, vI 0] s39 (aRI fun y43 s44 => (vp_in y29 12000) ∧ ∀ s46 : Rm, s46 = wI s44 16 ((y29 : Int32).toNatClampNeg) (sI s44 17) → ∀ s47 : Rm, s47 = wS s46 36 ((sI s46 36) - 1) → Q (.inl none) s47)))))))) → A X 92 e MX13_readEach 0 [(0, vR 92), (1, vI (kI κ 72 8))] [] (em σ 0 (kI κ 72 8) 0) Q := fun e Q he hA => path1 e Q he ⟨1, by simp only [dS] at he; omega, ac_mustName p2 (fun _ => ⟨1, by simp only [dS] at he; omega, href _ _ (by rw [← u1]; exact hA)⟩) (fun z => absurd (c.symm.trans z) (by decide)) (fun z => absurd c z)⟩
  refine ⟨0, by simp only [dS] at hd0; omega, kc_nextP pd hltd ⟨1, by simp only [dS] at hd0; omega, kc_take pX (c := 222) (by decide) (by decide) (fun c2 => ⟨fun z => absurd z (by decide), fun _ => ?_⟩) (fun c2 => ⟨fun _ => k_5_readEach_45 _ _ (bad _ _ ((Flt.at pX hiX).pre tdX) (fun e Q he hq => path2 e Q he ⟨6, by simp only [dS] at he; omega, ac_mustWord (w := 22) pX (by decide) (fun z => absurd z c2) (fun _ => hq)⟩)), fun z => absurd rfl z⟩)⟩⟩
  have hltX := pX.n0 (c := 222) c2 (by omega) (by omega)
  obtain ⟨pY, tY, y1, y2, y3, y4, y5, y6, y7, y8, y9, y10, y11⟩ := pX.next hltX
  have tpd : TP N b P (setC κ1 (pC κ1 + 1)) (wS (em σ 0 (kI κ 72 8) 0) 10 (nI (pC κ1 + 1))) κd σd := ⟨pd, td, u3, u4, u8, u5, u6⟩
  have tpa := (((p1.tp hlt).trans tpd).trans (pd.tp hltd)).trans (pX.tp hltX)
  have tdY := tX.trans tY
  have path3 : ∀ (e : Nat) (Q : Res → Rm → Prop), dS (oC κ) + 18 ≤ e → (∃ e16 : Nat, e16 + 1 ≤ e ∧ AC X 92 e16 MX13_readE [vR 92] (wS (wS σd 10 (nI (pC κd + 1))) 10 (nI (pC (setC κd (pC κd + 1)) + 1))) (aTV Q fun s19 => ∀ s20 : Rm, s20 = wS s19 36 ((sI s19 36) + 1) → ∃ e21 : Nat, e21 + 1 ≤ e ∧ AC X 92 e21 MX13_emit [vR 92, vI 31, vI (12 + (sI s19 36)), vI 0] s20 (aRI fun y24 s25 => ∃ e26 : Nat, e26 + 1 ≤ e ∧ AC X 92 e26 MX13_emit [vR 92, vI 32, vI (nI v), vI (12 + (sI s19 36))] s25 (aRI fun y29 s30 => ∃ e31 : Nat, e31 + 1 ≤ e ∧ AC X 92 e31 MX13_readBlock [vR 92] s30 (aTV Q fun s34 => ∃ e35 : Nat, e35 + 1 ≤ e ∧ AC X 92 e35 MX13_emit [vR 92, vI 0, vI (kI κ 72 8), vI 0] s34 (aRI fun y38 s39 => ∃ e40 : Nat, e40 + 1 ≤ e ∧ AC X 92 e40 MX13_emit [vR 92, vI 23, vI y29, vI 0] s39 (aRI fun y43 s44 => (vp_in y29 12000) ∧ ∀ s46 : Rm, s46 = wI s44 16 ((y29 : Int32).toNatClampNeg) (sI s44 17) → ∀ s47 : Rm, s47 = wS s46 36 ((sI s46 36) - 1) → Q (.inl none) s47))))))) → A X 92 e MX13_readEach 0 [(0, vR 92), (1, vI (kI κ 72 8))] [] (em σ 0 (kI κ 72 8) 0) Q := fun e Q he hA => path2 e Q he ⟨6, by simp only [dS] at he; omega, ac_mustWord (w := 22) pX (by decide) (fun _ => hA) (fun z => absurd c2 z)⟩
  have tt1 : pC κ + 1 = pC (setC κ1 (pC κ1 + 1)) := by omega
  have dn : Dn N κd (wS (em σ 0 (kI κ 72 8) 0) 10 (nI (pC κ1 + 1))) σd (pC (setC κ1 (pC κ1 + 1))) v := DcS.nm p2 (by have := hb2.2.2.2.2.2.2; omega) c (hds κd dc) td
  have z9e : rV (wS (em σ 0 (kI κ 72 8) 0) 10 (nI (pC κ1 + 1))) = rV σ := m9.trans w9
  clear path1 path2
  generalize hκY : setC (setC κd (pC κd + 1)) (pC (setC κd (pC κd + 1)) + 1) = κY at *
  generalize hσY : wS (wS σd 10 (nI (pC κd + 1))) 10 (nI (pC (setC κd (pC κd + 1)) + 1)) = σY at *
  have z1 : pC κY = pC κ + 3 := by omega
  have z2 : oC κY = oC κ := by omega
  have z3 : iC κY = iC κ + 1 := by omega
  have z4 : rJ σY = rJ σ + 1 := by omega
  have z5 : rU σY = rU σ := by omega
  have z6 : rA σY = rA σ := by omega
  have z7 : rT σY = rT σ := by omega
  have z8 : rC σY = rC σ := by omega
  have z9 : rV σY ≤ rV σ + 1 := by omega
  have z9d : rV σY = rV σd := by omega
  have z10 : rK σY = rK σ := by omega
  have z11 : rE σY = rE σ := by omega
  have tkt : pC (setC κ1 (pC κ1 + 1)) < 3001 := by omega
  have i1 : iC κ1 = iC κ + 1 := w3
  have cvd := pd.1.2.2.2.2.cv
  clear m1 m2 m3 m4 m5 m6 m7 m8 m9 m10 m11 x1 x2 x3 x4 x5 x6 x7 x8 x9 x10 x11 y1 y2 y3 y4 y5 y6 y7 y8 y9 y10 y11 u2 u3 u4 u5 u6 u7 u8 u9 u10 u11 u12 hltX hltd hlt2
  have hbe : Bdd κY σY := by
    unfold Bdd
    omega
  have sub := hE _ _ pY hbe (by omega)
  rw [z2] at sub
  have trY : Tr b κ σ κY σY := t1.trans tpa.2.1
  refine ⟨_, by simp only [dS, dU] at hd0 ⊢; omega, sub.k (fun κc σc hr ok => ⟨fun z => absurd z (by decide), fun _ => ?_⟩) (fun κc σc hr bd => ⟨fun _ => k_5_readEach_45 _ _ (bad _ _ ((bd.pre trY).weak (by omega)) (fun e Q he hq => path3 e Q he ⟨_, by simp only [dS, dU] at he ⊢; omega, acr_bad hr hq⟩)), fun z => absurd rfl z⟩)⟩
  obtain ⟨es, f1, f2, f3, f4, f5, f6, f7, f8, f9, f10, f11⟩ := ok
  have hpc := es.1.p3
  have ex : ES N b P 0 0 1 κ1 (em σ 0 (kI κ 72 8) 0) κc σc := tpa.es.trans (es.weak (by omega)).two
  have s36 : sI σc 36 = nI (rE σ) := by
    have e := es.1.2.2.2.2.2.2.2.2.2.2.2.2.2.2.2.2.2
    rw [e, f11, z11]
  have e12 : (12 : Int32) + nI (rE σ) = nI (12 + rE σ) := nI_add 12 _
  obtain ⟨pn, tn, n1, n2, n3, n4, n5, n6, n7, n8, n9, n10, n11⟩ := es.1.nest (f := 36) (v := rE σ + 1) (Or.inr rfl) (by omega)
  rw [if_neg (by decide)] at n10
  rw [if_pos rfl] at n11
  generalize hσn : wS σc 36 (nI (rE σ + 1)) = σn at *
  refine ⟨2, by simp only [dS] at hd0; omega, es.1.add (by omega) (by unfold i8; decide) (fun κe ade => ?_)⟩
  obtain ⟨pe, te, g1, g2, g3, g4, g5, g6, g7, g8, g9, g10, g11⟩ := act_pair (op := 31) (y := nI (12 + rE σ)) (z := 0) pn (by omega) (by omega) ade
  have se := em_at (σ := σn) (x := 31) (y := nI (12 + rE σ)) (z := 0)
  have sen := fun q hq => em_ne (σ := σn) (x := 31) (y := nI (12 + rE σ)) (z := 0) (q := q) hq
  have s17n : sI σn 17 = nI (rJ σn) := pn.2.2.2.2.2.2.2.2.2.2.2.1
  refine ⟨2, by simp only [dS] at hd0; omega, pe.add (by omega) (by unfold i8; decide) (fun κk adk => ?_)⟩
  obtain ⟨pk, tk, k1, k2, k3, k4, k5, k6, k7, k8, k9, k10, k11⟩ := act_pair (op := 32) (y := nI v) (z := nI (12 + rE σ)) pe (by omega) (by omega) adk
  have sk := em_at (σ := em σn 31 (nI (12 + rE σ)) 0) (x := 32) (y := nI v) (z := nI (12 + rE σ))
  have skn := fun q hq => em_ne (σ := em σn 31 (nI (12 + rE σ)) 0) (x := 32) (y := nI v) (z := nI (12 + rE σ)) (q := q) hq
  have s17e : sI (em σn 31 (nI (12 + rE σ)) 0) 17 = nI (rJ (em σn 31 (nI (12 + rE σ)) 0)) := pe.2.2.2.2.2.2.2.2.2.2.2.1
  have j12 : rJ σn < 12000 ∧ rJ (em σn 31 (nI (12 + rE σ)) 0) < 12000 := by omega
  have jj : rJ (em σn 31 (nI (12 + rE σ)) 0) = rJ σc + 1 := by omega
  have an : ∀ g, g ≠ 36 → aI σn g = aI σc g := fun g hg => by rw [← hσn, aI_ne hg]
  have pathK : ∀ (e : Nat) (Q : Res → Rm → Prop), dS (oC κ) + 18 ≤ e → (∃ e31 : Nat, e31 + 1 ≤ e ∧ AC X 92 e31 MX13_readBlock [vR 92] (em (em σn 31 (nI (12 + rE σ)) 0) 32 (nI v) (nI (12 + rE σ))) (aTV Q fun s34 => ∃ e35 : Nat, e35 + 1 ≤ e ∧ AC X 92 e35 MX13_emit [vR 92, vI 0, vI (kI κ 72 8), vI 0] s34 (aRI fun _ s39 => ∃ e40 : Nat, e40 + 1 ≤ e ∧ AC X 92 e40 MX13_emit [vR 92, vI 23, vI (nI (rJ σc + 1)), vI 0] s39 (aRI fun _ s44 => (vp_in (nI (rJ σc + 1)) 12000) ∧ ∀ s46 : Rm, s46 = wI s44 16 ((nI (rJ σc + 1) : Int32).toNatClampNeg) (sI s44 17) → ∀ s47 : Rm, s47 = wS s46 36 ((sI s46 36) - 1) → Q (.inl none) s47)))) → A X 92 e MX13_readEach 0 [(0, vR 92), (1, vI (kI κ 72 8))] [] (em σ 0 (kI κ 72 8) 0) Q := fun e Q he hA => path3 e Q he ⟨_, by simp only [dS, dU] at he ⊢; omega, acr_ok hr (by
    rintro s20 rfl
    rw [s36, e12, nI_1, hσn]
    refine ⟨0, by simp only [dS] at he; omega, ac_emit s17n j12.1 ⟨0, by simp only [dS] at he; omega, ac_emit s17e j12.2 ?_⟩⟩
    rw [jj]
    exact hA)⟩
  clear path3
  generalize hσe : em σn 31 (nI (12 + rE σ)) 0 = σe at *
  generalize hσk : em σe 32 (nI v) (nI (12 + rE σ)) = σk at *
  have hbk : Bdb κk σk := by
    unfold Bdb
    omega
  have sub2 := hB _ _ pk hbk (by omega)
  have ok1 : oC κk = oC κ := by omega
  rw [ok1] at sub2
  have tcK : Tr b κc σc κk σk := tn.trans (te.trans tk)
  have tA : Tr b κ σ κc σc := t1.trans ex.2.1
  refine ⟨_, by simp only [dS] at hd0 ⊢; omega, sub2.k (fun κb σb hr okb => ⟨fun z => absurd z (by decide), fun _ => ?_⟩) (fun κb σb hr bd => ⟨fun _ => bad _ _ (bd.pre (tA.trans tcK)) (fun e Q he hq => pathK e Q he ⟨_, by simp only [dS] at he ⊢; omega, acr_bad hr hq⟩), fun z => absurd rfl z⟩)⟩
  obtain ⟨blk, hp2', hi6, hj6⟩ := okb
  have blk' := blk
  obtain ⟨pb, tb, cb, sb, l1, l2, l3, l4, l5, l6, l7, l8, l9, l10, l11⟩ := blk
  have hpb := pb.p3
  have lE : iC κ1 ≤ iC κc := ex.2.1.2.2.1.1
  have lE2 : rJ (em σ 0 (kI κ 72 8) 0) ≤ rJ σc := ex.2.1.2.2.1.2.1
  have lB : iC κk ≤ iC κb := tb.2.2.1.1
  have lB2 : rJ σk ≤ rJ σb := tb.2.2.1.2.1
  have lB3 : rT σk ≤ rT σb := tb.2.2.1.2.2.1
  have hi3 : iC κb ≤ 9010 ∧ rJ σb ≤ 9010 ∧ rT σb ≤ 999 := by omega
  have ko : ∀ k, k < iC κk → kI κb 69 k = kI κk 69 k ∧ kI κb 70 k = kI κk 70 k := tb.2.2.1.2.2.2.2.2.2.1
  have ro : ∀ k, k < rJ σk → aI σb 13 k = aI σk 13 k ∧ aI σb 14 k = aI σk 14 k ∧ aI σb 15 k = aI σk 15 k := fun k hk => by
    have e := tb.2.2.1.2.2.2.2.2.2.2.1 k hk
    exact ⟨e.1, e.2.1, e.2.2.1⟩
  have rS : kI κb 69 (iC κ) = 20 ∧ kI κb 70 (iC κ) = kI κ 72 8 ∧ aI σb 13 (rJ σ) = 0 ∧ aI σb 14 (rJ σ) = kI κ 72 8 := by
    have e1 := ko (iC κ) (by omega)
    have e2 := add_old adk (k := iC κ) (by omega)
    have e2b := add_old ade (k := iC κ) (by omega)
    have e3 := ex.2.1.2.2.1.2.2.2.2.2.2.1 (iC κ) (by omega)
    have r1 := ro (rJ σ) (by omega)
    have r2 := skn (rJ σ) (by omega)
    have r2b := sen (rJ σ) (by omega)
    have r3 := ex.2.1.2.2.1.2.2.2.2.2.2.2.1 (rJ σ) (by omega)
    rw [e1.1, e1.2, e2.1, e2.2, e2b.1, e2b.2, r1.1, r1.2.1, r2.1, r2.2.1, r2b.1, r2b.2.1, an 13 (by decide), an 14 (by decide)]
    exact ⟨e3.1.trans ad.2.1, e3.2.trans ad.2.2.1, r3.1.trans st.1, r3.2.1.trans st.2.1⟩
  have rC1 : kI κb 69 (iC κc) = 30 ∧ aI σb 13 (rJ σc) = 31 ∧ aI σb 14 (rJ σc) = nI (12 + rE σ) := by
    have e1 := ko (iC κc) (by omega)
    have e2 := add_old adk (k := iC κc) (by omega)
    have r1 := ro (rJ σc) (by omega)
    have r2 := skn (rJ σc) (by omega)
    rw [n4] at se
    rw [e1.1, e2.1, r1.1, r1.2.1, r2.1, r2.2.1]
    exact ⟨ade.2.1, se.1, se.2.1⟩
  have rC2 : kI κb 69 (iC κc + 1) = 3 ∧ kI κb 70 (iC κc + 1) = -1 - nI (pC (setC κ1 (pC κ1 + 1))) ∧ aI σb 13 (rJ σc + 1) = 32 ∧ aI σb 14 (rJ σc + 1) = nI v ∧ aI σb 15 (rJ σc + 1) = nI (12 + rE σ) := by
    have e1 := ko (iC κc + 1) (by omega)
    have r1 := ro (rJ σc + 1) (by omega)
    have a1 := adk.2.1
    have a2 := adk.2.2.1
    rw [g3] at a1 a2
    rw [jj] at sk
    rw [e1.1, e1.2, r1.1, r1.2.1, r1.2.2]
    exact ⟨a1, a2, sk.1, sk.2.1, sk.2.2.1⟩
  have dt := dn.t0 ((tdY.trans es.2.1).trans (tcK.trans tb)).t0
  obtain ⟨-, -, dn3, -, dn5, dn6, dn7⟩ := dn
  have vk : rV σk = rV σd := by omega
  have usB := pre_us2 (κ1 := κ1) (σ1 := em σ 0 (kI κ 72 8) 0) (κk := κk) (σk := σk) (t := pC (setC κ1 (pC κ1 + 1))) (v := v) w3 (by omega) w5 w6 ex.2.2.1.2 ex.2.1 (tcK.trans tb) (by omega) (by omega) (by omega) (by omega) blk' rS.1 rC1.1 ⟨rC2.1, rC2.2.1⟩ ⟨dt.1, dt.2.1, by omega, dt.2.2.2⟩ ⟨by omega, by omega, fun z => (dn7 (by omega)).trans z9e⟩
  exact each_end (F := fun y κ' => kRI F (.inl (some (vI y))) κ') h hd0 ho2 (by omega) (by omega) (by omega) (by omega) (by omega) (by omega) (by omega) (by omega) (by omega) (by omega) (by omega) (by omega) (by omega) (by omega) (by omega) (by omega) hi3 ⟨by omega, by omega⟩ pb t1 w3 w4 ex (by omega) (by omega) tcK.t0 ok1 (by omega) (by omega) blk' ⟨by omega, by omega, by show rT σc = rT (em σ 0 (kI κ 72 8) 0); omega⟩ rS rC1 rC2 (Agr.step (tcK.trans tb)) (Agr.step (tA.trans (tcK.trans tb))) (tA.trans (tcK.trans tb)).t0 (tcK.trans tb).t0 usB cvd ((tdY.trans es.2.1).trans (tcK.trans tb)).t0 u13 tkt (fun e Q he hA => pathK e Q he ⟨_, by simp only [dS] at he ⊢; omega, acr_ok hr hA⟩) (fun κ' σ' s lt re => ⟨_, rfl, q1 κ' ⟨σ', s, lt, re.rs h hj p1 hc (Or.inl rfl)⟩⟩)
end EAR
