/-! try: both run, from its first word -/
section TRR
variable {X : Cx} {N b P : Nat} {κ κ0 κ1 κn κk κb κp κ' : Km} {σ σ0 σ1 σn σk σb σ' : Rm}
theorem try_core {m d0 : Nat} {F : Int32 → Km → Prop} (hB : SpB X N b P m) (h : Ps κ σ N b P) (hb : Bds κ σ) (hm : N + 1 - pC κ ≤ m + 1) (ad : AdC κ κ1 20 (kI κ 72 8)) (hd0 : dS (oC κ) + 5 ≤ d0) (hc : kI κ1 72 7 = 205) (q1 : ∀ κ', OkS X N b P κ σ κ' → F 1 κ') (q0 : ∀ κ', BadS X b κ σ κ' → F 0 κ') : KC' X d0 MX5_readTry [vR 77] κ1 (kRI F) := by
  have ho2 : oC κ ≤ 24 := h.2.2.2.2.2.2.2.2.1
  have bi := hb.1.i h
  have hp0 := h.p3
  have hj : rJ σ < 12000 := by omega
  have hb' := hb
  obtain ⟨⟨b1, b2, b3, b4, b5, b6, b7⟩, b8, b9, b10⟩ := hb
  obtain ⟨p1, t1, w1, w2, w3, w4, w5, w6, w7, w8, w9, w10, w11⟩ := act_pair (op := 0) (y := kI κ 72 8) (z := 0) h (by omega) (by omega) ad
  have hlt := p1.n0 (c := 205) hc (by omega) (by omega)
  obtain ⟨p2, t2, m1, m2, m3, m4, m5, m6, m7, m8, m9, m10, m11⟩ := p1.next hlt
  have st := em_at (σ := σ) (x := 0) (y := kI κ 72 8) (z := 0)
  have okq : ∀ κ' σ', ST N b P 1 κ σ κ' σ' → pC κ < pC κ' → RTr X κ σ σ' (.inl none) → F 1 κ' := fun κ' σ' s lt r => q1 κ' ⟨σ', s, lt, r.rs h hj p1 hc (Or.inl rfl)⟩
  have badq : ∀ κ' σ', Flt b κ σ 9200 κ' σ' → RTr X κ σ σ' (.inr 93) → F 0 κ' := fun κ' σ' fl r => q0 κ' ⟨σ', fl, r.rs h hj p1 hc (Or.inr rfl)⟩
  have s29 : sI (wS (em σ 0 (kI κ 72 8) 0) 10 (nI (pC κ1 + 1))) 29 = nI (rT σ) := by
    have e := p2.2.2.2.2.2.2.2.2.2.2.2.2.1
    rw [e, m7, w7]
  refine KC_of_K rfl (Nat.le_of_ble_eq_true rfl) rfl (k_5_readTry_0 ⟨0, by simp only [dS] at hd0; omega, kc_nextP p1 hlt ⟨2, by simp only [dS] at hd0; omega, p2.add (by omega) (by unfold i8; decide) (fun κg adg => ?_)⟩⟩)
  have hT2 : rT (wS (em σ 0 (kI κ 72 8) 0) 10 (nI (pC κ1 + 1))) = rT σ := m7.trans w7
  obtain ⟨pk, tk, ⟨k1, k2, k3, k4, k5, k6, k7, k8, k9, k10, k11⟩, r13, r14, r27⟩ := p2.tyw (by omega) (by omega) (by omega) adg
  obtain ⟨pt, -, -, -, -, pt4, -⟩ := p2.cnt (f := 29) (v := rT σ + 1) (Or.inl rfl) (by omega) ⟨fun _ => by omega, fun z => absurd z (by decide)⟩
  have path1 : ∀ (e : Nat) (Q : Res → Rm → Prop), dS (oC κ) + 18 ≤ e → (∃ e10 : Nat, e10 + 1 ≤ e ∧ AC X 92 e10 MX13_readBlock [vR 92] (tyW (wS (em σ 0 (kI κ 72 8) 0) 10 (nI (pC κ1 + 1)))) (aTV Q fun s13 => ∃ e14 : Nat, e14 + 1 ≤ e ∧ AC X 92 e14 MX13_emit [vR 92, vI 29, vI (nI (rT σ)), vI 0] s13 (aRI fun y17 s18 => A X 92 e MX13_readTry 57 [(0, vR 92), (1, vI (nI (rT σ))), (2, vI y17), (3, vI 0)] [] s18 Q))) → A X 92 e MX13_readTry 0 [(0, vR 92)] [] (em σ 0 (kI κ 72 8) 0) Q := fun e Q he hA => a_readTry_0 (by
    rintro s1 rfl
    rw [wS_at p1, s29, nI_1]
    rintro s2 rfl
    refine ⟨0, by simp only [dS] at he; omega, ac_emit pt.2.2.2.2.2.2.2.2.2.2.2.1 (by omega) ?_⟩
    rw [vpn (by omega), cl_nI (by omega)]
    refine ⟨by omega, ?_⟩
    rintro s9 rfl
    unfold tyW at hA
    rw [hT2] at hA
    exact hA)
  rw [m4, w4] at r13 r14
  rw [hT2] at r14 r27
  generalize hσk : tyW (wS (em σ 0 (kI κ 72 8) 0) 10 (nI (pC κ1 + 1))) = σk at *
  have z1 : pC κg = pC κ + 1 := by omega
  have z2 : oC κg = oC κ := by omega
  have z3 : iC κg = iC κ + 2 := by omega
  have z4 : rJ σk = rJ σ + 2 := by omega
  have z5 : rU σk = rU σ := by omega
  have z6 : rA σk = rA σ := by omega
  have z7 : rT σk = rT σ + 1 := by omega
  have z8 : rC σk = rC σ := by omega
  have z9 : rV σk = rV σ := by omega
  have z10 : rK σk = rK σ := by omega
  have z11 : rE σk = rE σ := by omega
  have i2 : iC (setC κ1 (pC κ1 + 1)) = iC κ + 1 := by omega
  have j2 : rJ (wS (em σ 0 (kI κ 72 8) 0) 10 (nI (pC κ1 + 1))) = rJ σ + 1 := by omega
  have tAk : Tr b κ σ κg σk := (t1.trans t2).trans tk
  have g20 : kI κg 69 (iC κ) = 20 ∧ kI κg 70 (iC κ) = kI κ 72 8 := by
    have e1 := add_old adg (k := iC κ) (by omega)
    have e2 := t2.2.2.1.2.2.2.2.2.2.1 (iC κ) (by omega)
    rw [e1.1, e1.2, e2.1, e2.2]
    exact ⟨ad.2.1, ad.2.2.1⟩
  have g40 : kI κg 69 (iC κ + 1) = 40 := by
    have := adg.2.1
    rw [i2] at this
    exact this
  have gr : aI σk 13 (rJ σ) = 0 ∧ aI σk 14 (rJ σ) = kI κ 72 8 := by
    have e := (t2.trans tk).2.2.1.2.2.2.2.2.2.2.1 (rJ σ) (by omega)
    exact ⟨e.1.trans st.1, e.2.1.trans st.2.1⟩
  clear w1 w2 w3 w4 w5 w6 w7 w8 w9 w10 w11 m1 m2 m3 m4 m5 m6 m7 m8 m9 m10 m11 k1 k2 k3 k4 k5 k6 k7 k8 k9 k10 k11
  have hbk : Bdb κg σk := by
    unfold Bdb
    omega
  have sub := hB _ _ pk hbk (by omega)
  rw [z2] at sub
  refine ⟨_, by simp only [dS] at hd0 ⊢; omega, sub.k (fun κb σb hr okb => ⟨fun z => absurd z (by decide), fun _ => ?_⟩) (fun κb σb hr bd => ⟨fun _ => ⟨_, rfl, badq _ _ (bd.pre tAk) (fun e Q he hq => path1 e Q he ⟨_, by simp only [dS] at he ⊢; omega, acr_bad hr hq⟩)⟩, fun z => absurd rfl z⟩)⟩
  obtain ⟨blk, hp2, hi6, hj6, ht2, hc2⟩ := okb
  have blk' := blk
  obtain ⟨pb, tb, cb, sb, l1, l2, l3, l4, l5, l6, l7, l8, l9, l10, l11⟩ := blk
  have hpb := pb.p3
  have lB : iC κg ≤ iC κb := tb.2.2.1.1
  have lB2 : rJ σk ≤ rJ σb := tb.2.2.1.2.1
  have lB3 : rT σk ≤ rT σb := tb.2.2.1.2.2.1
  have lB4 : rC σk ≤ rC σb := tb.2.2.1.2.2.2.1
  have hi3 : iC κb ≤ 9010 ∧ rJ σb ≤ 9010 ∧ rT σb ≤ 999 := by omega
  have s17b : sI σb 17 = nI (rJ σb) := pb.2.2.2.2.2.2.2.2.2.2.2.1
  have rp57 : RPt X κ σ 57 [(0, vR 92), (1, vI (nI (rT σ))), (2, vI (nI (rJ σb))), (3, vI (nI 0))] (em σb 29 (nI (rT σ)) 0) := fun e Q he hA => path1 e Q he ⟨_, by simp only [dS] at he ⊢; omega, acr_ok hr ⟨0, by simp only [dS] at he; omega, ac_emit s17b (by omega) hA⟩⟩
  have main : kI κb 72 7 = 206 ∨ kI κb 72 7 = 207 → K X d0 MX5_readTry 65 [(0, vR 77), (1, vI (nI (iC (setC κ1 (pC κ1 + 1)))))] [] κb (kRI F) := fun hk => by
    refine k_5_readTry_65 _ ⟨2, by simp only [dS] at hd0; omega, pb.add (by omega) (by unfold i8; decide) (fun κa ada => ?_)⟩
    obtain ⟨pa, ta, a1, a2, a3, a4, a5, a6, a7, a8, a9, a10, a11⟩ := act_pair (op := 29) (y := nI (rT σ)) (z := 0) pb (by omega) (by omega) ada
    have sat := em_at (σ := σb) (x := 29) (y := nI (rT σ)) (z := 0)
    have aem : ∀ g, 17 < g → aI (em σb 29 (nI (rT σ)) 0) g = aI σb g := fun g hg => em_a (Or.inr hg)
    have emo : ∀ q, q < rJ σb → aI (em σb 29 (nI (rT σ)) 0) 13 q = aI σb 13 q ∧ aI (em σb 29 (nI (rT σ)) 0) 14 q = aI σb 14 q := fun q hq => by
      have e := em_ne (σ := σb) (x := 29) (y := nI (rT σ)) (z := 0) (q := q) (by omega)
      exact ⟨e.1, e.2.1⟩
    generalize hσ0 : em σb 29 (nI (rT σ)) 0 = σ0 at *
    refine ⟨0, by simp only [dS] at hd0; omega, kc_csize pa ⟨0, by simp only [dS] at hd0; omega, kc_patch pa (k := iC (setC κ1 (pC κ1 + 1))) (by omega) (by omega) ?_⟩⟩
    obtain ⟨pj, tj, c1, c2, c3, c4, c5, c6, c7, c8, c9, c10, c11⟩ := pa.pk (k := iC κ + 1) (v := nI (iC κa))
    rw [i2]
    have k69 : kI (cI κa 70 (iC κ + 1) (nI (iC κa))) 69 = kI κa 69 := kI_ne (by decide)
    have k72 : kI (cI κa 70 (iC κ + 1) (nI (iC κa))) 72 = kI κb 72 := by rw [kI_ne (by decide)]; exact (ada.2.2.2.2.2.1.1 72 (by decide)).1
    have k70 : ∀ k, k ≠ iC κ + 1 → kI (cI κa 70 (iC κ + 1) (nI (iC κa))) 70 k = kI κa 70 k := fun k hk => kI_nk hk
    have k70e : kI (cI κa 70 (iC κ + 1) (nI (iC κa))) 70 (iC κ + 1) = nI (iC κa) := kI_eq
    have agB : Agr κg σk κb σb (cI κa 70 (iC κ + 1) (nI (iC κa))) σ0 := Agr.pk (Agr.step ta) (Or.inl (by omega))
    have bel : Bel κ σ (cI κa 70 (iC κ + 1) (nI (iC κa))) σ0 := Agr.pk (Agr.step ((tAk.trans tb).trans ta)) (Or.inr (by omega))
    have tbj : T0 b κb σb (cI κa 70 (iC κ + 1) (nI (iC κa))) σ0 := ta.t0.trans tj
    generalize hκ0 : cI κa 70 (iC κ + 1) (nI (iC κa)) = κ0 at *
    have i0 : iC κ0 = iC κb + 1 := by omega
    have ia : iC κa = iC κ0 := c3.symm
    have j0 : rJ σ0 = rJ σb + 1 := by omega
    have x1 : rC σ0 = rC σb := by omega
    have x2 : rT σ0 = rT σb := by omega
    have x3 : pC κ0 = pC κb ∧ oC κ0 = oC κb ∧ rU σ0 = rU σb ∧ rA σ0 = rA σb ∧ rV σ0 = rV σb ∧ rK σ0 = rK σb ∧ rE σ0 = rE σb := by omega
    clear a1 a2 a3 a4 a5 a6 a7 a8 a9 a10 a11 c1 c2 c3 c4 c5 c6 c7 c8 c9 c10 c11
    have ko : ∀ k, k < iC κg → kI κa 69 k = kI κg 69 k ∧ kI κa 70 k = kI κg 70 k := fun k hk => by
      have e1 := add_old ada (k := k) (by omega)
      have e2 := tb.2.2.1.2.2.2.2.2.2.1 k hk
      rw [e1.1, e1.2]
      exact e2
    have ro : ∀ k, k < rJ σk → aI σ0 13 k = aI σk 13 k ∧ aI σ0 14 k = aI σk 14 k := fun k hk => by
      have e1 := emo k (by omega)
      have e2 := tb.2.2.1.2.2.2.2.2.2.2.1 k hk
      exact ⟨e1.1.trans e2.1, e1.2.trans e2.2.1⟩
    have o1 : kI κ0 69 (iC κ) = 20 ∧ kI κ0 70 (iC κ) = kI κ 72 8 ∧ aI σ0 13 (rJ σ) = 0 ∧ aI σ0 14 (rJ σ) = kI κ 72 8 := by
      have e1 := ko (iC κ) (by omega)
      have e2 := ro (rJ σ) (by omega)
      rw [k69, k70 _ (by omega), e1.1, e1.2, e2.1, e2.2]
      exact ⟨g20.1, g20.2, gr.1, gr.2⟩
    have o2 : kI κ0 69 (iC κ + 1) = 40 ∧ kI κ0 70 (iC κ + 1) = nI (iC κ0) ∧ aI σ0 13 (rJ σ + 1) = 28 ∧ aI σ0 14 (rJ σ + 1) = nI (rT σ) := by
      have e1 := ko (iC κ + 1) (by omega)
      have e2 := ro (rJ σ + 1) (by omega)
      rw [k69, k70e, e1.1, e2.1, e2.2, ia]
      exact ⟨g40, rfl, r13, r14⟩
    have oj : kI κ0 69 (iC κb) = 15 ∧ aI σ0 13 (rJ σb) = 29 ∧ aI σ0 14 (rJ σb) = nI (rT σ) := by
      rw [k69]
      exact ⟨ada.2.1, sat.1, sat.2.1⟩
    have ol : kI κ0 70 (iC κb) = -9 := by
      rw [k70 _ (by omega)]
      exact ada.2.2.1
    have o27 : aI σ0 27 (rT σ) = -9 := by
      rw [aem 27 (by decide), (tb.2.2.1.2.2.2.2.2.2.2.2.2.2.1 (rT σ) (by omega)).1]
      exact r27
    have t00 : T00 N b P κ σ κg σk κb σb κ0 σ0 := ⟨tAk.t0, blk', tbj, agB, ⟨z3, z4, z8, z7, i0, j0, x1, x2, z2, z11, z10⟩, o1, o2, oj, o27, bel⟩
    have tc0 : Tc σk σ0 := fun c h1 h2 => by
      obtain ⟨u, u1, u2, u3, u4⟩ := cb.1 c h1 (by omega)
      exact ⟨u, by rw [aem 45 (by decide)]; exact u1, u2, by omega, u4⟩
    have lb : rU σk ≤ rU σb ∧ rA σk ≤ rA σb ∧ rV σk ≤ rV σb := ⟨tb.2.2.1.2.2.2.2.1, tb.2.2.1.2.2.2.2.2.1, tb.2.2.2.2.2.2.1⟩
    have us0 : UsA N κ0 σ0 (iC κ) (iC κ0) (rJ σ) (rJ σ0) (rU σ) (rU σ0) (rA σ) (rA σ0) (rV σ) (rV σ0) := by
      have y1 := (UsA.nil (N := N) (κ := κ0) (σ := σ0) (i0 := iC κ) (j0 := rJ σ) (j1 := rJ σ) (u0 := rU σ) (a0 := rA σ) (v := rV σ)).act (j2 := rJ σ) o1.1 (by decide) ⟨rfl, Nat.le_refl _, Nat.le_refl _, Nat.le_refl _, Nat.le_refl _, Nat.le_refl _, Nat.le_refl _⟩
      have y2 := y1.act (j2 := rJ σk) o2.1 (by decide) ⟨rfl, by omega, by omega, Nat.le_refl _, Nat.le_refl _, Nat.le_refl _, by omega⟩
      have y3 := y2.app (blk'.2.2.1.2.agr agB tbj (Nat.le_refl _)) ⟨by omega, by omega, by omega, by omega, by omega, by omega, by omega, by omega, by omega, by omega, by omega, by omega, by omega, by omega, by omega⟩
      have y4 := y3.act (j2 := rJ σ0) oj.1 (by decide) ⟨rfl, by omega, by omega, by omega, by omega, by omega, by omega⟩
      exact y4.to ⟨by omega, by omega, by omega, by omega, Nat.le_refl _⟩
    have ti : TyI N b P κ σ κ0 σ0 κ0 σ0 [iC κb] (iC κb) 0 := by
      refine ⟨pj, Tr.refl, fun c h1 h2 => ?_, fun c h1 h2 => absurd h1 (by omega), cs_nil tc0 z8 z7 (by omega), fun k hk => ?_, ⟨rfl, fun q hq => absurd hq List.not_mem_nil, ol⟩, ?_, ?_, us0, ?_⟩
      · obtain ⟨u, u1, u2, u3, u4⟩ := tc0 c (by omega) h2
        exact ⟨u, u1, by omega, u3, u4⟩
      · have e : k = iC κb := List.mem_singleton.mp hk
        exact ⟨by omega, by omega, by rw [e]; exact oj.1⟩
      · show 1 ≤ _
        omega
      · rw [i0]
        exact List.mem_singleton.mpr rfl
      · unfold TN
        omega
    have kk := try_loop (m := m) (d0 := d0) (x1 := nI (iC κ + 1)) hB h hb' hd0 t00 okq badq (N + 1 - pC κ0) 0 κ0 σ0 [iC κb] (iC κb) 0 (nI (rJ σb)) (Nat.le_refl _) (by omega) (Nat.zero_le _) (by omega) ti (by decide) rp57 (Or.inr (by rw [k72]; exact hk))
    exact kk
  refine ⟨fun c => main (Or.inl c), fun n6 => ⟨fun c => main (Or.inr c), fun n7 => ⟨0, by simp only [dS] at hd0; omega, kc_refuse ⟨Or.inl rfl, _, rfl, ?_⟩⟩⟩⟩
  obtain ⟨⟨pe, te⟩, -⟩ := pb.emit (x := 29) (y := nI (rT σ)) (z := 0) (by omega)
  refine badq _ _ ((Flt.at pe (by omega)).pre ((tAk.trans tb).trans te)) (fun e Q he hq => rp57 e Q he (a_readTry_57 _ _ _ ⟨5, by simp only [dS] at he; omega, ac_isWord (w := 6) pe (by decide) (fun z => absurd z n6) (fun _ => ⟨fun _ => ⟨5, by simp only [dS] at he; omega, ac_isWord (w := 7) pe (by decide) (fun z => absurd z n7) (fun _ => ⟨fun _ => a_readTry_255 _ _ _ ⟨fun _ => ?_, fun z => absurd rfl z⟩, fun z => absurd rfl z⟩)⟩, fun z => absurd rfl z⟩)⟩))
  obtain ⟨f, t, f1, f2, -⟩ := pe.tok
  rw [pe.2.2.2.2.1, vpn (by omega), cl_nI (by omega), f2, ← f1]
  exact ⟨by omega, 0, by simp only [dS] at he; omega, ac_failT hq⟩
end TRR
