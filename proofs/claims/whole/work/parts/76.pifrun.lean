/-! if: both run -/
section IFR
variable {X : Cx} {N b P : Nat} {κ κ1 : Km} {σ : Rm}
theorem Agr.step {κ1 κ2 κ' : Km} {σ1 σ2 σ' : Rm} (t : Tr b κ2 σ2 κ' σ') : Agr κ1 σ1 κ2 σ2 κ' σ' := Agr.refl.tw t.2.2.1 (b := b) T0.refl
theorem add_old {a x : Int32} {κ2 : Km} (ad : AdC κ κ2 a x) {k : Nat} (hk : k < iC κ) : kI κ2 69 k = kI κ 69 k ∧ kI κ2 70 k = kI κ 70 k := ad.2.2.2.1 k hk
theorem nbl {N p q m : Nat} (h : N + 1 - p ≤ m + 1) (hq : p < q) : N + 1 - q ≤ m := by omega
theorem if_else {m d0 : Nat} {F : Int32 → Km → Prop} {κc κk κb : Km} {σc σk σb : Rm} (hB : SpB X N b P m) (h : Ps κ σ N b P) (b8 : iC κ ≤ 3 * pC κ) (b9 : rJ σ ≤ 3 * pC κ) (b10 : rE σ + rK σ + 1 ≤ oC κ) (b3 : 2 * rU σ ≤ pC κ) (b4 : 2 * rA σ ≤ pC κ) (b5 : 6 * rT σ ≤ pC κ + 5 * oC κ) (b6 : 4 * rC σ ≤ pC κ + 3 * oC κ) (b7 : 2 * rV σ ≤ pC κ) (hNb : N + 1 - pC κb ≤ m) (hd0 : dS (oC κ) + 5 ≤ d0) (ho2 : oC κ ≤ 24)
    (a1 : pC κ + 3 ≤ pC κb) (a2 : iC κb + 1 ≤ iC κ + 3 * (pC κb - pC κ)) (a3 : rJ σb + 1 ≤ rJ σ + 3 * (pC κb - pC κ)) (a4 : 2 * rU σb ≤ 2 * rU σ + (pC κb - pC κ)) (a5 : 2 * rA σb ≤ 2 * rA σ + (pC κb - pC κ)) (a6 : 6 * rT σb ≤ 6 * rT σ + (pC κb - pC κ)) (a7 : 4 * rC σb ≤ 4 * rC σ + (pC κb - pC κ)) (a8 : 2 * rV σb ≤ 2 * rV σ + (pC κb - pC κ)) (a9 : oC κb = oC κ) (a10 : rK σb = rK σ) (a11 : rE σb = rE σ) (ic : iC κ < iC κc) (icb : iC κc < iC κb) (jc : rJ σ < rJ σc) (jcb : rJ σc < rJ σb) (hi3 : iC κb ≤ 9010 ∧ rJ σb ≤ 9010 ∧ rT σb ≤ 999) (hpb : pC κb ≤ 3000 ∧ N ≤ 3000) (pb : Ps κb σb N b P)
    (t1 : Tr b κ σ κ1 (sg κ σ)) (w3 : iC κ1 = iC κ + 1) (w4 : rJ (sg κ σ) = rJ σ + 1) (ex : ES N b P 0 0 1 κ1 (sg κ σ) κc σc) (n3 : iC κk = iC κc + 1) (n4 : rJ σk = rJ σc + 1) (tk : Tr b κc σc κk σk) (ok1 : oC κk = oC κ) (eK : rE σk = rE σ) (kK : rK σk = rK σ) (blk' : ST N b P 0 κk σk κb σb) (cT : rT σk = rT σ ∧ rC σk = rC σ ∧ rT σc = rT (sg κ σ)) (cbr : rC σ ≤ rC σb ∧ rT σ ≤ rT σb)
    (rS : kI κb 69 (iC κ) = 20 ∧ kI κb 70 (iC κ) = kI κ 72 8 ∧ aI σb 13 (rJ σ) = 0 ∧ aI σb 14 (rJ σ) = kI κ 72 8) (rC1 : kI κb 69 (iC κc) = 16 ∧ aI σb 13 (rJ σc) = 24) (agE : Agr κ1 (sg κ σ) κc σc κb σb) (agB : Agr κk σk κb σb κb σb) (bel : Bel κ σ κb σb) (tAll : T0 b κ σ κb σb) (tkb : T0 b κc σc κb σb) (usB : UsA N κb σb (iC κ) (iC κb) (rJ σ) (rJ σb) (rU σ) (rU σb) (rA σ) (rA σb) (rV σ) (rV σb))
    (pathB : ∀ (d : Nat) (Q : Res → Rm → Prop), dS (oC κ) + 19 ≤ d → (∃ e185 : Nat, e185 + 1 ≤ d ∧ AC X 92 e185 MX13_isWord [vR 92, vR 7] σb (aRI fun y188 s189 => ((y188 = 0 → (vp_in (nI (rJ σc)) 12000) ∧ ∀ s192 : Rm, s192 = wI s189 14 ((nI (rJ σc) : Int32).toNatClampNeg) (sI s189 17) → A X 92 d MX13_readStatement 162 [(0, vR 92), (1, vI (kI κ 72 8)), (2, vI (nI (rJ σ))), (3, vI (nI (rJ σc)))] [] s192 Q) ∧ (¬ y188 = 0 → ∀ s193 : Rm, s193 = wS s189 10 ((sI s189 10) + 1) → ∃ e194 : Nat, e194 + 1 ≤ d ∧ AC X 92 e194 MX13_emit [vR 92, vI 23, vI 0, vI 0] s193 (aRI fun y197 s198 => (vp_in (nI (rJ σc)) 12000) ∧ ∀ s200 : Rm, s200 = wI s198 14 ((nI (rJ σc) : Int32).toNatClampNeg) (sI s198 17) → ∃ e201 : Nat, e201 + 1 ≤ d ∧ AC X 92 e201 MX13_readBlock [vR 92] s200 (aTV Q fun s204 => (vp_in y197 12000) ∧ ∀ s206 : Rm, s206 = wI s204 14 ((y197 : Int32).toNatClampNeg) (sI s204 17) → A X 92 d MX13_readStatement 162 [(0, vR 92), (1, vI (kI κ 72 8)), (2, vI (nI (rJ σ))), (3, vI (nI (rJ σc)))] [] s206 Q)))))) → A X 92 d MX13_readStatement 0 [(0, vR 92)] [] σ Q)
    (fin162 : ∀ (d : Nat) (Q : Res → Rm → Prop) (s : Rm) (y : Int32), Q (.inl none) s → A X 92 d MX13_readStatement 162 [(0, vR 92), (1, vI (kI κ 72 8)), (2, vI (nI (rJ σ))), (3, vI y)] [] s Q) (c203 : kI κb 72 7 = 203)
    (q1 : ∀ κ', OkS X N b P κ σ κ' → F 1 κ') (q0 : ∀ κ', BadS X b κ σ κ' → F 0 κ') : ∃ e27 : Nat, e27 + 1 ≤ d0 ∧ KC' X e27 MX9_next [vR 72] κb (kRV fun κ30 => ∃ e32 : Nat, e32 + 1 ≤ d0 ∧ KC' X e32 MX1_add [vR 68, vI 15, vI 0] κ30 (kRI fun y35 κ36 => ∃ e38 : Nat, e38 + 1 ≤ d0 ∧ KC' X e38 MX1_size [vR 68] κ36 (kRI fun y41 κ42 => ∃ e44 : Nat, e44 + 1 ≤ d0 ∧ KC' X e44 MX1_patch [vR 68, vI (nI (iC κc)), vI y41] κ42 (kRV fun κ47 => ∃ e49 : Nat, e49 + 1 ≤ d0 ∧ KC' X e49 MX5_readBlock [vR 77] κ47 (kRI fun y52 κ53 => ((y52 = 0 → kRI F (.inl (some (vI 0))) κ53) ∧ (¬ y52 = 0 → K X d0 MX5_readIf 93 [(0, vR 77), (1, vI y35)] [] κ53 (kRI F)))))))) := by
  have hltb := pb.n0 (c := 203) c203 (by omega) (by omega)
  obtain ⟨pe, te, e1, e2, e3, e4, e5, e6, e7, e8, e9, e10, e11⟩ := pb.next hltb
  refine ⟨0, by simp only [dS] at hd0; omega, kc_nextP pb hltb ⟨2, by simp only [dS] at hd0; omega, pe.add (by omega) (by unfold i8; decide) (fun κj adj => ?_)⟩⟩
  obtain ⟨pj, tj, j1, j2, j3, j4, j5, j6, j7, j8, j9, j10, j11⟩ := act_pair (op := 23) (y := 0) (z := 0) pe (by omega) (by omega) adj
  have sj := em_at (σ := wS σb 10 (nI (pC κb + 1))) (x := 23) (y := 0) (z := 0)
  have iej : iC (setC κb (pC κb + 1)) = iC κb := e3
  obtain ⟨pp0, tp0, l1, l2, l3, l4, l5, l6, l7, l8, l9, l10, l11⟩ := pj.pk (k := iC κc) (v := nI (iC κj))
  obtain ⟨pp, tpr, k1, k2, k3, k4, k5, k6, k7, k8, k9, k10, k11⟩ := pp0.pr (k := rJ σc) (f := 14) (v := nI (rJ (em (wS σb 10 (nI (pC κb + 1))) 23 0 0))) (Or.inl rfl)
  refine ⟨0, by simp only [dS] at hd0; omega, kc_csize pj ⟨0, by simp only [dS] at hd0; omega, kc_patch pj (k := iC κc) (by omega) (by omega) ?_⟩⟩
  have hbp : Bdb (cI κj 70 (iC κc) (nI (iC κj))) (wI (em (wS σb 10 (nI (pC κb + 1))) 23 0 0) 14 (rJ σc) (nI (rJ (em (wS σb 10 (nI (pC κb + 1))) 23 0 0)))) := by
    unfold Bdb
    rw [l1, l2, l3, k4, k5, k6, k7, k8, k9, k10, k11, j1, j2, j3, j4, j5, j6, j7, j8, j9, j10, j11, e1, e2, e3, e4, e5, e6, e7, e8, e9, e10, e11]
    clear k1 k2 k3 k4 k5 k6 k7 k8 k9 k10 k11 l1 l2 l3 l4 l5 l6 l7 l8 l9 l10 l11 j1 j2 j3 j4 j5 j6 j7 j8 j9 j10 j11 e1 e2 e3 e4 e5 e6 e7 e8 e9 e10 e11
    omega
  have pcp : pC (cI κj 70 (iC κc) (nI (iC κj))) = pC κb + 1 := l1.trans (j1.trans e1)
  have sub2 := hB _ _ pp hbp (Nat.le_trans (Nat.sub_le_sub_left (by rw [pcp]; exact Nat.le_succ _) _) hNb)
  have ok2 : oC (cI κj 70 (iC κc) (nI (iC κj))) = oC κ := l2.trans (j2.trans (e2.trans a9))
  rw [ok2] at sub2
  have tP : T0 b κb σb (cI κj 70 (iC κc) (nI (iC κj))) (wI (em (wS σb 10 (nI (pC κb + 1))) 23 0 0) 14 (rJ σc) (nI (rJ (em (wS σb 10 (nI (pC κb + 1))) 23 0 0)))) := (te.trans tj).t0.trans (tp0.trans tpr)
  have s17 : sI (em (wS σb 10 (nI (pC κb + 1))) 23 0 0) 17 = nI (rJ (em (wS σb 10 (nI (pC κb + 1))) 23 0 0)) := pj.2.2.2.2.2.2.2.2.2.2.2.1
  have pathE : ∀ (d : Nat) (Q : Res → Rm → Prop), dS (oC κ) + 19 ≤ d → (∃ e201 : Nat, e201 + 1 ≤ d ∧ AC X 92 e201 MX13_readBlock [vR 92] (wI (em (wS σb 10 (nI (pC κb + 1))) 23 0 0) 14 (rJ σc) (nI (rJ (em (wS σb 10 (nI (pC κb + 1))) 23 0 0)))) (aTV Q fun s204 => (vp_in (nI (rJ (wS σb 10 (nI (pC κb + 1))))) 12000) ∧ ∀ s206 : Rm, s206 = wI s204 14 ((nI (rJ (wS σb 10 (nI (pC κb + 1)))) : Int32).toNatClampNeg) (sI s204 17) → A X 92 d MX13_readStatement 162 [(0, vR 92), (1, vI (kI κ 72 8)), (2, vI (nI (rJ σ))), (3, vI (nI (rJ σc)))] [] s206 Q)) → A X 92 d MX13_readStatement 0 [(0, vR 92)] [] σ Q := fun d Q hd hA => pathB d Q hd ⟨5, by simp only [dS] at hd; omega, ac_isWord (w := 3) pb (by decide) (fun _ => ⟨fun z => absurd z (by decide), fun _ => by
    rintro s193 rfl
    rw [wS_at pb]
    refine ⟨0, by simp only [dS] at hd; omega, ac_emit pe.2.2.2.2.2.2.2.2.2.2.2.1 (by omega) ?_⟩
    rw [vpn (by omega), cl_nI (by omega)]
    refine ⟨by omega, ?_⟩
    rintro s200 rfl
    rw [s17]
    exact hA⟩) (fun z => absurd c203 z)⟩
  have hje : rJ (wS σb 10 (nI (pC κb + 1))) < 12000 := by omega
  refine ⟨_, by simp only [dS] at hd0 ⊢; omega, sub2.k (fun κ2 σ2 hr2 ok2 => ⟨fun z => absurd z (by decide), fun _ => k_5_readIf_93 _ ?_⟩) (fun κ2 σ2 hr2 bd => ⟨fun _ => ⟨_, rfl, q0 _ ⟨σ2, ?_, fun d Q hd hq => pathE d Q hd ⟨_, by simp only [dS] at hd ⊢; omega, acr_bad hr2 hq⟩⟩⟩, fun z => absurd rfl z⟩)⟩
  · obtain ⟨blk2, hp3, -⟩ := ok2
    have blk2' := blk2
    obtain ⟨pd, td, cd, sd, u1, u2, u3, u4, u5, u6, u7, u8, u9, u10, u11⟩ := blk2
    have hpd := pd.p3
    have lD : iC (cI κj 70 (iC κc) (nI (iC κj))) ≤ iC κ2 := td.2.2.1.1
    have lD2 : rJ (wI (em (wS σb 10 (nI (pC κb + 1))) 23 0 0) 14 (rJ σc) (nI (rJ (em (wS σb 10 (nI (pC κb + 1))) 23 0 0)))) ≤ rJ σ2 := td.2.2.1.2.1
    have lD3 := td.2.2.1.2.2.1
    have lD4 := td.2.2.1.2.2.2.1
    obtain ⟨pf0, tf0, v1, v2, v3, v4, v5, v6, v7, v8, v9, v10, v11⟩ := pd.pk (k := iC κb) (v := nI (iC κ2))
    obtain ⟨pf, tf, x1, x2, x3, x4, x5, x6, x7, x8, x9, x10, x11⟩ := pf0.pr (k := rJ σb) (f := 14) (v := nI (rJ σ2)) (Or.inl rfl)
    refine ⟨0, by simp only [dS] at hd0; omega, kc_csize pd ⟨0, by simp only [dS] at hd0; omega, ?_⟩⟩
    rw [iej]
    refine kc_patch pd (k := iC κb) (by omega) (by omega) ⟨_, rfl, q1 _ ?_⟩
    have s17b : sI σ2 17 = nI (rJ σ2) := pd.2.2.2.2.2.2.2.2.2.2.2.1
    -- agreements up to the end
    have t3 : T0 b κb σb κ2 σ2 := tP.trans td.t0
    have tF : T0 b κ2 σ2 (cI κ2 70 (iC κb) (nI (iC κ2))) (wI σ2 14 (rJ σb) (nI (rJ σ2))) := tf0.trans tf
    have tej := te.trans tj
    have agP : ∀ {κx : Km} {σx : Rm} {κy : Km} {σy : Rm}, Agr κx σx κy σy κb σb → T0 b κy σy κb σb → (iC κy ≤ iC κc ∨ iC κc < iC κx) → (rJ σy ≤ rJ σc ∨ rJ σc < rJ σx) → Agr κx σx κy σy (cI κ2 70 (iC κb) (nI (iC κ2))) (wI σ2 14 (rJ σb) (nI (rJ σ2))) := fun {κx σx κy σy} ag tt c1 c2 => by
      have a1 := ag.tw tej.2.2.1 tt
      have a2 := (a1.pk (k := iC κc) (v := nI (iC κj)) (by omega)).pr (k := rJ σc) (f := 14) (v := nI (rJ (em (wS σb 10 (nI (pC κb + 1))) 23 0 0))) (Or.inl rfl) (by omega)
      have a3 := a2.tw td.2.2.1 (tt.trans tP)
      have y1 := tt.2.2.2.1
      have y2 := tt.2.2.2.2.1
      exact (a3.pk (k := iC κb) (v := nI (iC κ2)) (by omega)).pr (k := rJ σb) (f := 14) (v := nI (rJ σ2)) (Or.inl rfl) (by omega)
    have agE' := agP agE tkb (Or.inl (Nat.le_refl _)) (Or.inl (Nat.le_refl _))
    have agB' := agP agB T0.refl (Or.inr (by omega)) (Or.inr (by omega))
    have bel' := agP bel tAll (Or.inl (by omega)) (Or.inl (by omega))
    have agC' : Agr (cI κj 70 (iC κc) (nI (iC κj))) (wI (em (wS σb 10 (nI (pC κb + 1))) 23 0 0) 14 (rJ σc) (nI (rJ (em (wS σb 10 (nI (pC κb + 1))) 23 0 0)))) κ2 σ2 (cI κ2 70 (iC κb) (nI (iC κ2))) (wI σ2 14 (rJ σb) (nI (rJ σ2))) := (Agr.refl.pk (k := iC κb) (v := nI (iC κ2)) (by omega)).pr (k := rJ σb) (f := 14) (v := nI (rJ σ2)) (Or.inl rfl) (by omega)
    -- own rows at the end
    have row : ∀ k, k < iC κb → k ≠ iC κc → kI (cI κ2 70 (iC κb) (nI (iC κ2))) 69 k = kI κb 69 k ∧ kI (cI κ2 70 (iC κb) (nI (iC κ2))) 70 k = kI κb 70 k := fun k hk hn => by
      have y1 := td.2.2.1.2.2.2.2.2.2.1 k (by omega)
      have y2 := add_old adj (k := k) (by omega)
      rw [kI_ne (by decide), kI_nk (by omega), y1.1, y1.2, kI_ne (by decide), kI_nk hn, y2.1, y2.2, setC_ne (by decide), setC_ne (by decide)]
      exact ⟨rfl, rfl⟩
    have rrow : ∀ k, k < rJ σb → k ≠ rJ σc → aI (wI σ2 14 (rJ σb) (nI (rJ σ2))) 13 k = aI σb 13 k ∧ aI (wI σ2 14 (rJ σb) (nI (rJ σ2))) 14 k = aI σb 14 k := fun k hk hn => by
      have y1 := td.2.2.1.2.2.2.2.2.2.2.1 k (by omega)
      have y2 := em_ne (σ := wS σb 10 (nI (pC κb + 1))) (x := 23) (y := 0) (z := 0) (q := k) (by omega)
      rw [aI_ne (by decide), aI_ni (by omega), y1.1, y1.2.1, aI_ne (by decide), aI_ni hn, y2.1, y2.2.1, aI_ne (by decide), aI_ne (by decide)]
      exact ⟨rfl, rfl⟩
    have o1 : kI (cI κ2 70 (iC κb) (nI (iC κ2))) 69 (iC κ) = 20 ∧ kI (cI κ2 70 (iC κb) (nI (iC κ2))) 70 (iC κ) = kI κ 72 8 ∧ aI (wI σ2 14 (rJ σb) (nI (rJ σ2))) 13 (rJ σ) = 0 ∧ aI (wI σ2 14 (rJ σb) (nI (rJ σ2))) 14 (rJ σ) = kI κ 72 8 := by
      have y1 := row (iC κ) (by omega) (by omega)
      have y2 := rrow (rJ σ) (by omega) (by omega)
      exact ⟨y1.1.trans rS.1, y1.2.trans rS.2.1, y2.1.trans rS.2.2.1, y2.2.trans rS.2.2.2⟩
    have o2 : kI (cI κ2 70 (iC κb) (nI (iC κ2))) 69 (iC κc) = 16 ∧ kI (cI κ2 70 (iC κb) (nI (iC κ2))) 70 (iC κc) = nI (iC (cI κj 70 (iC κc) (nI (iC κj)))) ∧ aI (wI σ2 14 (rJ σb) (nI (rJ σ2))) 13 (rJ σc) = 24 ∧ aI (wI σ2 14 (rJ σb) (nI (rJ σ2))) 14 (rJ σc) = nI (rJ (wI (em (wS σb 10 (nI (pC κb + 1))) 23 0 0) 14 (rJ σc) (nI (rJ (em (wS σb 10 (nI (pC κb + 1))) 23 0 0))))) := by
      have y1 := td.2.2.1.2.2.2.2.2.2.1 (iC κc) (by omega)
      have y2 := add_old adj (k := iC κc) (by omega)
      have z1 := td.2.2.1.2.2.2.2.2.2.2.1 (rJ σc) (by omega)
      have z2 := em_ne (σ := wS σb 10 (nI (pC κb + 1))) (x := 23) (y := 0) (z := 0) (q := rJ σc) (by omega)
      rw [kI_ne (by decide), kI_nk (by omega), y1.1, y1.2, kI_ne (by decide), kI_eq, y2.1, setC_ne (by decide), rC1.1, l3, aI_ne (by decide), aI_ni (by omega), z1.1, z1.2.1, aI_ne (by decide), aI_eq, z2.1, aI_ne (by decide), rC1.2, k4]
      exact ⟨rfl, rfl, rfl, rfl⟩
    have o3 : kI (cI κ2 70 (iC κb) (nI (iC κ2))) 69 (iC κb) = 15 ∧ kI (cI κ2 70 (iC κb) (nI (iC κ2))) 70 (iC κb) = nI (iC κ2) ∧ aI (wI σ2 14 (rJ σb) (nI (rJ σ2))) 13 (rJ σb) = 23 ∧ aI (wI σ2 14 (rJ σb) (nI (rJ σ2))) 14 (rJ σb) = nI (rJ σ2) := by
      have y1 := td.2.2.1.2.2.2.2.2.2.1 (iC κb) (by omega)
      have z1 := td.2.2.1.2.2.2.2.2.2.2.1 (rJ σb) (by omega)
      have a1 := adj.2.1
      rw [iej] at a1
      rw [e4] at sj
      rw [kI_ne (by decide), kI_eq, y1.1, kI_ne (by decide), a1, aI_ne (by decide), aI_eq, z1.1, aI_ne (by decide), sj.1]
      exact ⟨rfl, rfl, rfl, rfl⟩
    obtain ⟨ss, tc⟩ := if2_ss (κp := cI κj 70 (iC κc) (nI (iC κj))) (σp := wI (em (wS σb 10 (nI (pC κb + 1))) 23 0 0) 14 (rJ σc) (nI (rJ (em (wS σb 10 (nI (pC κb + 1))) 23 0 0)))) h (by omega) (by omega) (by omega) (by omega) (by omega) (by omega) t1.t0 w3 w4 ex n3 n4 tk.t0 ok1 eK kK blk' tP (by omega) (by omega) ok2 (by omega) (by omega) blk2' tF (by omega) (by omega) ⟨cT.1, cT.2.1, by omega, by omega, by omega, by omega, cT.2.2⟩ (by omega) o1 o2 o3 agE' agB' agC'
    have us' : UsA N (cI κ2 70 (iC κb) (nI (iC κ2))) (wI σ2 14 (rJ σb) (nI (rJ σ2))) (iC κ) (iC (cI κ2 70 (iC κb) (nI (iC κ2)))) (rJ σ) (rJ (wI σ2 14 (rJ σb) (nI (rJ σ2)))) (rU σ) (rU (wI σ2 14 (rJ σb) (nI (rJ σ2)))) (rA σ) (rA (wI σ2 14 (rJ σb) (nI (rJ σ2)))) (rV σ) (rV (wI σ2 14 (rJ σb) (nI (rJ σ2)))) := by
      have e15 : kI κj 69 (iC κb) = 15 := by have := adj.2.1; rw [iej] at this; exact this
      have e16 : kI κj 69 (iC κc) = 16 := ((te.trans tj).2.2.1.2.2.2.2.2.2.1 (iC κc) (by omega)).1.trans rC1.1
      have e15' : kI κ2 69 (iC κb) = 15 := (td.2.2.1.2.2.2.2.2.2.1 (iC κb) (by omega)).1.trans (by rw [kI_ne (by decide)]; exact e15)
      have lu : rU σ ≤ rU σb ∧ rA σ ≤ rA σb ∧ rV σ ≤ rV σb := ⟨tAll.2.2.2.2.2.2.2.1, tAll.2.2.2.2.2.2.2.2, tAll.2.2.1.2.2.2.1⟩
      have lv := td.2.2.2.2.2.2.1
      have lu2 := td.2.2.1.2.2.2.2.1
      have la2 := td.2.2.1.2.2.2.2.2.1
      have y1 := (usB.step (te.trans tj) ⟨Nat.le_refl _, Nat.le_refl _, Nat.le_refl _, Nat.le_refl _, Nat.le_refl _⟩).act (j2 := rJ (em (wS σb 10 (nI (pC κb + 1))) 23 0 0)) e15 (by decide) ⟨rfl, by omega, by omega, lu.1, lu.2.1, lu.2.2, by omega⟩
      have y2 := (y1.pk (k := iC κc) (v := nI (iC κj)) e16 (by decide)).pw (k := rJ σc) (f := 14) (v := nI (rJ (em (wS σb 10 (nI (pC κb + 1))) 23 0 0))) (by decide)
      have y3 := (y2.step td ⟨by omega, by omega, by omega, by omega, by omega⟩).app blk2'.2.2.1.2 ⟨by omega, by omega, by omega, by omega, by omega, by omega, by omega, by omega, by omega, by omega, by omega, by omega, by omega, by omega, by omega⟩
      exact ((y3.pk (k := iC κb) (v := nI (iC κ2)) e15' (by decide)).pw (k := rJ σb) (f := 14) (v := nI (rJ σ2)) (by decide)).to ⟨by omega, by omega, by omega, by omega, by omega⟩
    refine ⟨_, ⟨pf, Bel.tr (tAll.trans (t3.trans tF)) bel', ⟨tc, us'⟩, ss, ?_⟩, by omega, fun d Q hd hq => pathE d Q hd ⟨_, by simp only [dS] at hd ⊢; omega, acr_ok hr2 ?_⟩⟩
    · unfold Ds
      omega
    · rw [vpn (by omega), cl_nI (by omega)]
      refine ⟨hje, ?_⟩
      rintro s206 rfl
      rw [s17b, e4]
      exact fin162 d Q _ _ hq
  · exact ⟨bd.1, tAll.1.trans (tP.1.trans bd.2.1), tAll.2.1.trans (tP.2.1.trans bd.2.2.1), bd.2.2.2⟩
theorem if_core {m d0 : Nat} {F : Int32 → Km → Prop} (hE : SpE X N b P m) (hB : SpB X N b P m) (h : Ps κ σ N b P) (hb : Bds κ σ) (hm : N + 1 - pC κ ≤ m + 1) (ad : AdC κ κ1 20 (kI κ 72 8)) (hd0 : dS (oC κ) + 5 ≤ d0) (hc : kI κ1 72 7 = 202) (q1 : ∀ κ', OkS X N b P κ σ κ' → F 1 κ') (q0 : ∀ κ', BadS X b κ σ κ' → F 0 κ') : KC' X d0 MX5_readIf [vR 77] κ1 (kRI F) := by
  have ho2 : oC κ ≤ 24 := h.2.2.2.2.2.2.2.2.1
  have bi := hb.1.i h
  have hp0 := h.p3
  have hj : rJ σ < 12000 := by omega
  have hb' := hb
  obtain ⟨⟨b1, b2, b3, b4, b5, b6, b7⟩, b8, b9, b10⟩ := hb
  obtain ⟨p1, t1, w1, w2, w3, w4, w5, w6, w7, w8, w9, w10, w11⟩ := act_pair (op := 0) (y := kI κ 72 8) (z := 0) h (by omega) (by omega) ad
  have hlt := p1.n0 (c := 202) hc (by omega) (by omega)
  obtain ⟨p2, t2, m1, m2, m3, m4, m5, m6, m7, m8, m9, m10, m11⟩ := p1.next hlt
  have tp := p1.tp hlt
  have hbe : Bdd _ _ := bds_e (κa := setC κ1 (pC κ1 + 1)) (σa := wS (em σ 0 (kI κ 72 8) 0) 10 (nI (pC κ1 + 1))) hb' (by omega) (by omega) (by omega) (by omega) (by omega) (by omega) (by omega) (by omega) (by omega)
  -- own rows of STEP
  have st := em_at (σ := σ) (x := 0) (y := kI κ 72 8) (z := 0)
  refine KC_of_K rfl (Nat.le_of_ble_eq_true rfl) rfl (k_5_readIf_0 ⟨0, by simp only [dS] at hd0; omega, kc_nextP p1 hlt ⟨d0 - 1, by simp only [dS] at hd0; omega, test_core hE p2 hbe (by omega) (by rw [m2, w2]; simp only [dS, dU] at hd0 ⊢; omega) (fun κc σc es de ref => ⟨fun z => absurd z (by decide), fun _ => ?_⟩) (fun κc σc fl ref => ⟨fun _ => ⟨_, rfl, q0 _ ⟨σc, (fl.pre (t1.trans t2)).weak (by omega), fun d Q hd hq => rs_if h hj p1 (by simp only [dS] at hd; omega) hc (by
    rintro s1 rfl
    rw [wS_at p1]
    exact ⟨d - 1, by simp only [dS] at hd; omega, acr_bad (ref (d - 1) (by rw [m2, w2]; simp only [dS, dU] at hd ⊢; omega)) hq⟩)⟩⟩, fun z => absurd rfl z⟩)⟩⟩)
  rw [m2, w2] at ref
  obtain ⟨f1, f2, f3, f4, f5, f6, f7, f8, f9, f10, f11⟩ := de
  have ex : ES N b P 0 0 1 κ1 (em σ 0 (kI κ 72 8) 0) κc σc := tp.es.trans (es.weak (by omega)).two
  have hpc := es.1.p3
  refine ⟨2, by simp only [dS] at hd0; omega, es.1.add (by omega) (by unfold i8; decide) (fun κk adk => ?_)⟩
  obtain ⟨pk, tk, n1, n2, n3, n4, n5, n6, n7, n8, n9, n10, n11⟩ := act_pair (op := 24) (y := 0) (z := 0) es.1 (by omega) (by omega) adk
  have sk := em_at (σ := σc) (x := 24) (y := 0) (z := 0)
  have hbk : Bdb κk (em σc 24 0 0) := by
    unfold Bdb
    omega
  have sub := hB _ _ pk hbk (by omega)
  have ok1 : oC κk = oC κ := by omega
  rw [ok1] at sub
  have pathK : ∀ (d : Nat) (Q : Res → Rm → Prop), dS (oC κ) + 19 ≤ d → (∃ e181 : Nat, e181 + 1 ≤ d ∧ AC X 92 e181 MX13_readBlock [vR 92] (em σc 24 0 0) (aTV Q fun s184 => ∃ e185 : Nat, e185 + 1 ≤ d ∧ AC X 92 e185 MX13_isWord [vR 92, vR 7] s184 (aRI fun y188 s189 => ((y188 = 0 → (vp_in (nI (rJ σc)) 12000) ∧ ∀ s192 : Rm, s192 = wI s189 14 ((nI (rJ σc) : Int32).toNatClampNeg) (sI s189 17) → A X 92 d MX13_readStatement 162 [(0, vR 92), (1, vI (kI κ 72 8)), (2, vI (nI (rJ σ))), (3, vI (nI (rJ σc)))] [] s192 Q) ∧ (¬ y188 = 0 → ∀ s193 : Rm, s193 = wS s189 10 ((sI s189 10) + 1) → ∃ e194 : Nat, e194 + 1 ≤ d ∧ AC X 92 e194 MX13_emit [vR 92, vI 23, vI 0, vI 0] s193 (aRI fun y197 s198 => (vp_in (nI (rJ σc)) 12000) ∧ ∀ s200 : Rm, s200 = wI s198 14 ((nI (rJ σc) : Int32).toNatClampNeg) (sI s198 17) → ∃ e201 : Nat, e201 + 1 ≤ d ∧ AC X 92 e201 MX13_readBlock [vR 92] s200 (aTV Q fun s204 => (vp_in y197 12000) ∧ ∀ s206 : Rm, s206 = wI s204 14 ((y197 : Int32).toNatClampNeg) (sI s204 17) → A X 92 d MX13_readStatement 162 [(0, vR 92), (1, vI (kI κ 72 8)), (2, vI (nI (rJ σ))), (3, vI (nI (rJ σc)))] [] s206 Q))))))) → A X 92 d MX13_readStatement 0 [(0, vR 92)] [] σ Q := fun d Q hd hA => rs_if h hj p1 (by simp only [dS] at hd; omega) hc (by
    rintro s1 rfl
    rw [wS_at p1]
    exact ⟨d - 1, by simp only [dS] at hd; omega, acr_ok (ref (d - 1) (by simp only [dS, dU] at hd ⊢; omega)) ⟨0, by simp only [dS] at hd; omega, ac_emit es.1.2.2.2.2.2.2.2.2.2.2.2.1 (by omega) hA⟩⟩)
  refine ⟨_, by simp only [dS] at hd0 ⊢; omega, sub.k (fun κb σb hr okb => ⟨fun z => absurd z (by decide), fun _ => ?_⟩) (fun κb σb hr bd => ⟨fun _ => ⟨_, rfl, q0 _ ⟨σb, bd.pre ((t1.trans ex.2.1).trans tk), fun d Q hd hq => pathK d Q hd ⟨_, by simp only [dS] at hd ⊢; omega, acr_bad hr hq⟩⟩⟩, fun z => absurd rfl z⟩)⟩
  obtain ⟨blk, hp2, -⟩ := okb
  have blk' := blk
  obtain ⟨pb, tb, cb, sb, g1, g2, g3, g4, g5, g6, g7, g8, g9, g10, g11⟩ := blk
  have hpb := pb.p3
  have tA : Tr b κ σ κc σc := t1.trans ex.2.1
  have lE : iC κ1 ≤ iC κc := ex.2.1.2.2.1.1
  have lE2 : rJ (em σ 0 (kI κ 72 8) 0) ≤ rJ σc := ex.2.1.2.2.1.2.1
  have lB : iC κk ≤ iC κb := tb.2.2.1.1
  have lB2 : rJ (em σc 24 0 0) ≤ rJ σb := tb.2.2.1.2.1
  have lB3 : rT (em σc 24 0 0) ≤ rT σb := tb.2.2.1.2.2.1
  have lB4 : rC (em σc 24 0 0) ≤ rC σb := tb.2.2.1.2.2.2.1
  have hi3 : iC κb ≤ 9010 ∧ rJ σb ≤ 9010 ∧ rT σb ≤ 999 := by omega
  have hNb : N + 1 - pC κb ≤ m := nbl hm (Nat.lt_of_lt_of_le (by rw [← w1, n1]; exact Nat.lt_of_lt_of_le (by rw [m1] at f1; exact Nat.lt_of_succ_lt f1) (Nat.le_add_right _ 2)) hp2)
  -- the rows of STEP and of the test, behind the block
  have rS : kI κb 69 (iC κ) = 20 ∧ kI κb 70 (iC κ) = kI κ 72 8 ∧ aI σb 13 (rJ σ) = 0 ∧ aI σb 14 (rJ σ) = kI κ 72 8 := by
    have e1 := tb.2.2.1.2.2.2.2.2.2.1 (iC κ) (by omega)
    have e2 := add_old adk (k := iC κ) (by omega)
    have e3 := ex.2.1.2.2.1.2.2.2.2.2.2.1 (iC κ) (by omega)
    have r1 := tb.2.2.1.2.2.2.2.2.2.2.1 (rJ σ) (by omega)
    have r2 := em_ne (σ := σc) (x := 24) (y := 0) (z := 0) (q := rJ σ) (by omega)
    have r3 := ex.2.1.2.2.1.2.2.2.2.2.2.2.1 (rJ σ) (by omega)
    exact ⟨e1.1.trans (e2.1.trans (e3.1.trans ad.2.1)), e1.2.trans (e2.2.trans (e3.2.trans ad.2.2.1)), r1.1.trans (r2.1.trans (r3.1.trans st.1)), r1.2.1.trans (r2.2.1.trans (r3.2.1.trans st.2.1))⟩
  have rC1 : kI κb 69 (iC κc) = 16 ∧ aI σb 13 (rJ σc) = 24 := by
    have e1 := tb.2.2.1.2.2.2.2.2.2.1 (iC κc) (by omega)
    have r1 := tb.2.2.1.2.2.2.2.2.2.2.1 (rJ σc) (by omega)
    exact ⟨e1.1.trans adk.2.1, r1.1.trans sk.1⟩
  have agE : Agr κ1 (em σ 0 (kI κ 72 8) 0) κc σc κb σb := Agr.step (tk.trans tb)
  have agB : Agr κk (em σc 24 0 0) κb σb κb σb := Agr.refl
  have bel : Bel κ σ κb σb := Agr.step (tA.trans (tk.trans tb))
  have tAll : T0 b κ σ κb σb := (tA.trans (tk.trans tb)).t0
  have usB := pre_us (κ1 := κ1) (σ1 := em σ 0 (kI κ 72 8) 0) (κk := κk) (σk := em σc 24 0 0) w3 (by omega) w5 w6 ex.2.2.1.2 ex.2.1 (tk.trans tb) n3 (by omega) n5 n6 (by omega) blk' rS.1 rC1.1 (by decide)
  have fin162 : ∀ (d : Nat) (Q : Res → Rm → Prop) (s : Rm) (y : Int32), Q (.inl none) s → A X 92 d MX13_readStatement 162 [(0, vR 92), (1, vI (kI κ 72 8)), (2, vI (nI (rJ σ))), (3, vI y)] [] s Q := fun d Q s y hq => a_readStatement_162 _ _ _ (a_readStatement_526 _ _ hq)
  refine ⟨fun c203 => ?_, fun c203 => k_5_readIf_93 _ ⟨0, by simp only [dS] at hd0; omega, kc_csize pb ⟨0, by simp only [dS] at hd0; omega, kc_patch pb (k := iC κc) (by omega) (by omega) ⟨_, rfl, q1 _ ?_⟩⟩⟩⟩
  · -- else
    exact if_else hB h b8 b9 b10 b3 b4 b5 b6 b7 hNb hd0 ho2 (by omega) (by omega) (by omega) (by omega) (by omega) (by omega) (by omega) (by omega) (by omega) (by omega) (by omega) (by omega) (by omega) (by omega) (by omega) hi3 hpb pb t1 w3 w4 ex n3 n4 tk ok1 (by omega) (by omega) blk' ⟨by omega, by omega, by show rT σc = rT (em σ 0 (kI κ 72 8) 0); omega⟩ ⟨by omega, by omega⟩ rS rC1 agE agB bel tAll (tk.trans tb).t0 usB (fun d Q hd hA => pathK d Q hd ⟨_, by simp only [dS] at hd ⊢; omega, acr_ok hr hA⟩) fin162 c203 q1 q0
  · -- no else
    obtain ⟨pf0, tf0, v1, v2, v3, v4, v5, v6, v7, v8, v9, v10, v11⟩ := pb.pk (k := iC κc) (v := nI (iC κb))
    obtain ⟨pf, tf, x1, x2, x3, x4, x5, x6, x7, x8, x9, x10, x11⟩ := pf0.pr (k := rJ σc) (f := 14) (v := nI (rJ σb)) (Or.inl rfl)
    have s17b : sI σb 17 = nI (rJ σb) := pb.2.2.2.2.2.2.2.2.2.2.2.1
    have tF : T0 b κb σb (cI κb 70 (iC κc) (nI (iC κb))) (wI σb 14 (rJ σc) (nI (rJ σb))) := tf0.trans tf
    have agE' := (agE.pk (k := iC κc) (v := nI (iC κb)) (Or.inr (Nat.le_refl _))).pr (k := rJ σc) (f := 14) (v := nI (rJ σb)) (Or.inl rfl) (Or.inr (Nat.le_refl _))
    have agB' := (agB.pk (k := iC κc) (v := nI (iC κb)) (Or.inl (by omega))).pr (k := rJ σc) (f := 14) (v := nI (rJ σb)) (Or.inl rfl) (Or.inl (by omega))
    have bel' := (bel.pk (k := iC κc) (v := nI (iC κb)) (Or.inr (by omega))).pr (k := rJ σc) (f := 14) (v := nI (rJ σb)) (Or.inl rfl) (Or.inr (by omega))
    have o1 : kI (cI κb 70 (iC κc) (nI (iC κb))) 69 (iC κ) = 20 ∧ kI (cI κb 70 (iC κc) (nI (iC κb))) 70 (iC κ) = kI κ 72 8 ∧ aI (wI σb 14 (rJ σc) (nI (rJ σb))) 13 (rJ σ) = 0 ∧ aI (wI σb 14 (rJ σc) (nI (rJ σb))) 14 (rJ σ) = kI κ 72 8 := by
      rw [kI_ne (by decide), kI_nk (by omega), aI_ne (by decide), aI_ni (by omega)]
      exact rS
    have o2 : kI (cI κb 70 (iC κc) (nI (iC κb))) 69 (iC κc) = 16 ∧ kI (cI κb 70 (iC κc) (nI (iC κb))) 70 (iC κc) = nI (iC κb) ∧ aI (wI σb 14 (rJ σc) (nI (rJ σb))) 13 (rJ σc) = 24 ∧ aI (wI σb 14 (rJ σc) (nI (rJ σb))) 14 (rJ σc) = nI (rJ σb) := by
      rw [kI_ne (by decide), kI_eq, aI_ne (by decide), aI_eq]
      exact ⟨rC1.1, rfl, rC1.2, rfl⟩
    obtain ⟨ss, tc⟩ := if1_ss h (by omega) (by omega) (by omega) (by omega) t1.t0 w3 w4 ex n3 n4 tk.t0 ok1 (by omega) (by omega) blk' tF (by omega) (by omega) ⟨by omega, by omega, by omega, by omega, by show rT σc = rT (em σ 0 (kI κ 72 8) 0); omega⟩ (by omega) o1 o2 agE' agB'
    have us' := ((usB.pk (k := iC κc) (v := nI (iC κb)) rC1.1 (by decide)).pw (k := rJ σc) (f := 14) (v := nI (rJ σb)) (by decide)).to (p1 := iC (cI κb 70 (iC κc) (nI (iC κb)))) (q1 := rJ (wI σb 14 (rJ σc) (nI (rJ σb)))) (w1 := rU (wI σb 14 (rJ σc) (nI (rJ σb)))) (b1 := rA (wI σb 14 (rJ σc) (nI (rJ σb)))) (z1 := rV (wI σb 14 (rJ σc) (nI (rJ σb)))) ⟨by omega, by omega, by omega, by omega, by omega⟩
    refine ⟨_, ⟨pf, Bel.tr (tAll.trans tF) bel', ⟨tc, us'⟩, ss, ?_⟩, by omega, fun d Q hd hq => pathK d Q hd ⟨_, by simp only [dS] at hd ⊢; omega, acr_ok hr ⟨5, by simp only [dS] at hd; omega, ac_isWord (w := 3) pb (by decide) (fun z => absurd z c203) (fun _ => ⟨fun _ => ?_, fun z => absurd rfl z⟩)⟩⟩⟩
    · unfold Ds
      omega
    · rw [vpn (by omega), cl_nI (by omega), s17b]
      refine ⟨by omega, ?_⟩
      rintro s192 rfl
      exact fin162 d Q _ _ hq
end IFR
