/-! while -/
section WHI
variable {X : Cx} {N b P : Nat} {κ κ1 κc κk κb κ' : Km} {σ σc σk σb σ' : Rm}
theorem GC.weak {κF : Km} {σF : Rm} {A A' : Pt → Prop} {L : List Itm} (h : GC κF σF A b L) (ha : ∀ y, A y → A' y) : GC κF σF A' b L := ⟨h.1, h.2.mono (fun _ g => g.weak ha)⟩
theorem while_ss (h : Ps κ σ N b P) (hi : iC κ < 9000) (hj : rJ σ < 9900) (hic : iC κc < 9900) (hjc : rJ σc < 11990) (hib : iC κb < 9900) (hjb : rJ σb < 11980) (t1 : T0 b κ σ κ1 (sg κ σ)) (i1 : iC κ1 = iC κ + 1) (j1 : rJ (sg κ σ) = rJ σ + 1)
    (ex : ES1 N b P 0 0 1 κ1 (sg κ σ) κc σc) (iK : iC κk = iC κc + 1) (jK : rJ σk = rJ σc + 1) (tK : T0 b κc σc κk σk) (oK : oC κk = oC κ) (eK : rE σk = rE σ) (kK : rK σk = rK σ) (blk : ST N b P 0 κk σk κb σb) (tF : T0 b κb σb κ' σ') (iF : iC κ' = iC κb + 2) (jF : rJ σ' = rJ σb + 2) (cT : rT σk = rT σ ∧ rC σk = rC σ ∧ rT σ' = rT σb ∧ rC σ' = rC σb ∧ rT σc = rT (sg κ σ)) (h1000 : rT σ' ≤ 1000)
    (o1 : kI κ' 69 (iC κ) = 20 ∧ kI κ' 70 (iC κ) = kI κ 72 8 ∧ aI σ' 13 (rJ σ) = 0 ∧ aI σ' 14 (rJ σ) = kI κ 72 8) (o2 : kI κ' 69 (iC κc) = 16 ∧ kI κ' 70 (iC κc) = nI (iC κ') ∧ aI σ' 13 (rJ σc) = 24 ∧ aI σ' 14 (rJ σc) = nI (rJ σ')) (o3 : kI κ' 69 (iC κb) = 20 ∧ kI κ' 70 (iC κb) = kI κ 72 8 ∧ aI σ' 13 (rJ σb) = 0 ∧ aI σ' 14 (rJ σb) = kI κ 72 8) (o4 : kI κ' 69 (iC κb + 1) = 15 ∧ kI κ' 70 (iC κb + 1) = nI (iC κ1) ∧ aI σ' 13 (rJ σb + 1) = 23 ∧ aI σ' 14 (rJ σb + 1) = nI (rJ (sg κ σ)))
    (agE : Agr κ1 (sg κ σ) κc σc κ' σ') (agB : Agr κk σk κb σb κ' σ') : SS b 1 κ σ κ' σ' ∧ Tc σ σ' := by
  have lE := ex.2.1.2.2.1.1
  have lE2 := ex.2.1.2.2.1.2.1
  have lB := blk.2.1.2.2.1.1
  have lB2 := blk.2.1.2.2.1.2.1
  have lB3 := blk.2.1.2.2.1.2.2.1
  have tcB := blk.2.2.1.1.a agB
  obtain ⟨c1, c2, c3, c4, c5⟩ := cT
  refine ⟨SS.one fun κF σF vr br hf he A L l1 l2 l3 hg g => ?_, fun c d1 d2 => by have := tcB c (by omega) (by omega); rw [c1, ← c3] at this; exact this⟩
  have heB : Ext κF σF vr br b κk σk κb σb := he.mid (t1.trans (ex.2.1.t0.trans tK)) tF agB (fun c t d1 d2 _ _ _ _ => ⟨by omega, by omega⟩) (by omega) blk.1.1.2.2.2.2.cv
  have heE : Ext κF σF vr br b κ1 (sg κ σ) κc σc := he.mid t1 (tK.trans (blk.2.1.t0.trans tF)) agE (fun c t _ _ _ _ d3 d4 => by omega) (Nat.le_trans tK.2.2.2.2.2.1 (by omega)) ex.1.1.2.2.2.2.cv
  have w1 := own5 (κ := κ) (σ := σ) he (k := iC κ) (j := rJ σ) (Nat.le_refl _) (by omega) (Nat.le_refl _) (by omega) o1.1 o1.2.1 o1.2.2.1 o1.2.2.2 (by decide) (by decide)
  have w2 := own5 (κ := κ) (σ := σ) he (k := iC κc) (j := rJ σc) (by omega) (by omega) (by omega) (by omega) o2.1 o2.2.1 o2.2.2.1 o2.2.2.2 (by decide) (by decide)
  have w3 := own5 (κ := κ) (σ := σ) he (k := iC κb) (j := rJ σb) (by omega) (by omega) (by omega) (by omega) o3.1 o3.2.1 o3.2.2.1 o3.2.2.2 (by decide) (by decide)
  have w4 := own5 (κ := κ) (σ := σ) he (k := iC κb + 1) (j := rJ σb + 1) (by omega) (by omega) (by omega) (by omega) o4.1 o4.2.1 o4.2.2.1 o4.2.2.2 (by decide) (by decide)
  -- the head of the loop is taken as good
  have head : Good2 κF σF A (b, iC κ1, rJ (sg κ σ), L, 0, 1) := by
    refine Good1.loop ?_
    have wk : ∀ y, A y → (A y ∨ y = (b, iC κ1, rJ (sg κ σ), L, 0, 1)) := fun y hy => Or.inl hy
    have hg' := hg.weak wk
    have gs : Good2 κF σF (fun y => A y ∨ y = (b, iC κ1, rJ (sg κ σ), L, 0, 1)) (b, iC κb, rJ σb, L, 0, 0) :=
      (mkG hf.1 hib w3.2.1 (by omega) (by omega) hg' (Or.inr (Or.inr (Or.inr (Or.inr (Or.inr (Or.inr (Or.inr (Or.inr (Or.inr (Or.inr (Or.inr (Or.inr (Or.inr (Or.inr (Or.inr (Or.inl ⟨rfl, w3.1, w3.2.2.2.1, w3.2.2.2.2.trans w3.2.2.1.symm, w4.1, w4.2.1, w4.2.2.2.1, _, _, w4.2.2.1, w4.2.2.2.2, Good2.of (Or.inr rfl)⟩))))))))))))))))).two
    have gB := (blk.2.2.2.1 κF σF vr br hf heB _ L (by omega) (by omega) (by omega) hg').1 gs
    rw [iK, jK] at gB
    have gC := jin_g hf.1 hic hjc w2 (by omega) hg' gB (g.weak wk)
    exact ex.2.2.2 κF σF vr br hf heE _ L 0 (Nat.le_refl _) hg' gC
  rw [i1, j1] at head
  exact step_g hf.1 (by omega) (by omega) w1 hg head
/-- behind the block of a while -/
theorem while_end {d0 : Nat} {F : Int32 → Km → Prop} (h : Ps κ σ N b P) (hd0 : dS (oC κ) + 5 ≤ d0)
    (a1 : pC κ + 3 ≤ pC κb) (a2 : iC κb + 2 ≤ iC κ + 3 * (pC κb - pC κ)) (a3 : rJ σb + 2 ≤ rJ σ + 3 * (pC κb - pC κ)) (a4 : 2 * rU σb ≤ 2 * rU σ + (pC κb - pC κ)) (a5 : 2 * rA σb ≤ 2 * rA σ + (pC κb - pC κ)) (a6 : 6 * rT σb ≤ 6 * rT σ + (pC κb - pC κ)) (a7 : 4 * rC σb ≤ 4 * rC σ + (pC κb - pC κ)) (a8 : 2 * rV σb ≤ 2 * rV σ + (pC κb - pC κ)) (a9 : oC κb = oC κ) (a10 : rK σb = rK σ) (a11 : rE σb = rE σ) (ic : iC κ < iC κc) (icb : iC κc < iC κb) (jc : rJ σ < rJ σc) (jcb : rJ σc < rJ σb) (hi3 : iC κb ≤ 9010 ∧ rJ σb ≤ 9010 ∧ rT σb ≤ 999) (hi0 : iC κ < 9000 ∧ rJ σ < 9900) (pb : Ps κb σb N b P)
    (t1 : Tr b κ σ κ1 (sg κ σ)) (w3 : iC κ1 = iC κ + 1) (w4 : rJ (sg κ σ) = rJ σ + 1) (ex : ES1 N b P 0 0 1 κ1 (sg κ σ) κc σc) (n3 : iC κk = iC κc + 1) (n4 : rJ σk = rJ σc + 1) (tk : Tr b κc σc κk σk) (ok1 : oC κk = oC κ) (eK : rE σk = rE σ) (kK : rK σk = rK σ) (blk' : ST N b P 0 κk σk κb σb) (cT : rT σk = rT σ ∧ rC σk = rC σ ∧ rT σc = rT (sg κ σ))
    (rS : kI κb 69 (iC κ) = 20 ∧ kI κb 70 (iC κ) = kI κ 72 8 ∧ aI σb 13 (rJ σ) = 0 ∧ aI σb 14 (rJ σ) = kI κ 72 8) (rC1 : kI κb 69 (iC κc) = 16 ∧ aI σb 13 (rJ σc) = 24) (agE : Agr κ1 (sg κ σ) κc σc κb σb) (bel : Bel κ σ κb σb) (tAll : T0 b κ σ κb σb) (tkb : T0 b κc σc κb σb) (usB : UsA N κb σb (iC κ) (iC κb) (rJ σ) (rJ σb) (rU σ) (rU σb) (rA σ) (rA σb) (rV σ) (rV σb))
    (pathB : ∀ (d : Nat) (Q : Res → Rm → Prop), dS (oC κ) + 19 ≤ d → (∃ e159 : Nat, e159 + 1 ≤ d ∧ AC X 92 e159 MX13_emit [vR 92, vI 0, vI (kI κ 72 8), vI 0] σb (aRI fun _ s163 => ∃ e164 : Nat, e164 + 1 ≤ d ∧ AC X 92 e164 MX13_emit [vR 92, vI 23, vI (nI (rJ (sg κ σ))), vI 0] s163 (aRI fun y167 s168 => (vp_in (nI (rJ σc)) 12000) ∧ ∀ s170 : Rm, s170 = wI s168 14 ((nI (rJ σc) : Int32).toNatClampNeg) (sI s168 17) → A X 92 d MX13_readStatement 526 [(0, vR 92), (1, vI (kI κ 72 8)), (2, vI y167)] [] s170 Q))) → A X 92 d MX13_readStatement 0 [(0, vR 92)] [] σ Q)
    (q1 : ∀ κ', OkS X N b P κ σ κ' → F 1 κ') : ∃ e32 : Nat, e32 + 1 ≤ d0 ∧ KC' X e32 MX1_add [vR 68, vI 20, vI (kI κ 72 8)] κb (kRI fun _ κ36 => ∃ e38 : Nat, e38 + 1 ≤ d0 ∧ KC' X e38 MX1_add [vR 68, vI 15, vI (nI (iC κ1))] κ36 (kRI fun _ κ42 => ∃ e44 : Nat, e44 + 1 ≤ d0 ∧ KC' X e44 MX1_size [vR 68] κ42 (kRI fun y47 κ48 => ∃ e50 : Nat, e50 + 1 ≤ d0 ∧ KC' X e50 MX1_patch [vR 68, vI (nI (iC κc)), vI y47] κ48 (kRV fun κ53 => F 1 κ53)))) := by
  refine ⟨2, by simp only [dS] at hd0; omega, pb.add (by omega) (by unfold i8; decide) (fun κs ads => ?_)⟩
  obtain ⟨ps, ts, s1, s2, s3, s4, s5, s6, s7, s8, s9, s10, s11⟩ := act_pair (op := 0) (y := kI κ 72 8) (z := 0) pb (by omega) (by omega) ads
  refine ⟨2, by simp only [dS] at hd0; omega, ps.add (by omega) (by unfold i8; decide) (fun κj adj => ?_)⟩
  obtain ⟨pj, tj, j1, j2, j3, j4, j5, j6, j7, j8, j9, j10, j11⟩ := act_pair (op := 23) (y := nI (rJ (sg κ σ))) (z := 0) ps (by omega) (by omega) adj
  have ss := em_at (σ := σb) (x := 0) (y := kI κ 72 8) (z := 0)
  have sj := em_at (σ := em σb 0 (kI κ 72 8) 0) (x := 23) (y := nI (rJ (sg κ σ))) (z := 0)
  rw [s4] at sj
  refine ⟨0, by simp only [dS] at hd0; omega, kc_csize pj ⟨0, by simp only [dS] at hd0; omega, kc_patch pj (k := iC κc) (by omega) (by omega) (q1 _ ?_)⟩⟩
  obtain ⟨pf0, tf0, v1, v2, v3, v4, v5, v6, v7, v8, v9, v10, v11⟩ := pj.pk (k := iC κc) (v := nI (iC κj))
  obtain ⟨pf, tf, x1, x2, x3, x4, x5, x6, x7, x8, x9, x10, x11⟩ := pf0.pr (k := rJ σc) (f := 14) (v := nI (rJ (em (em σb 0 (kI κ 72 8) 0) 23 (nI (rJ (sg κ σ))) 0))) (Or.inl rfl)
  have tsj := ts.trans tj
  have iF : iC κj = iC κb + 2 := by omega
  have jF : rJ (em (em σb 0 (kI κ 72 8) 0) 23 (nI (rJ (sg κ σ))) 0) = rJ σb + 2 := by omega
  have s17 : sI (em (em σb 0 (kI κ 72 8) 0) 23 (nI (rJ (sg κ σ))) 0) 17 = nI (rJ (em (em σb 0 (kI κ 72 8) 0) 23 (nI (rJ (sg κ σ))) 0)) := pj.2.2.2.2.2.2.2.2.2.2.2.1
  have tF := tsj.t0.trans (tf0.trans tf)
  have agP : ∀ {κx : Km} {σx : Rm} {κy : Km} {σy : Rm}, Agr κx σx κy σy κb σb → T0 b κy σy κb σb → (iC κy ≤ iC κc ∨ iC κc < iC κx) → (rJ σy ≤ rJ σc ∨ rJ σc < rJ σx) → Agr κx σx κy σy (cI κj 70 (iC κc) (nI (iC κj))) (wI (em (em σb 0 (kI κ 72 8) 0) 23 (nI (rJ (sg κ σ))) 0) 14 (rJ σc) (nI (rJ (em (em σb 0 (kI κ 72 8) 0) 23 (nI (rJ (sg κ σ))) 0)))) := fun {κx σx κy σy} ag tt c1 c2 => ((ag.tw tsj.2.2.1 tt).pk (k := iC κc) (v := nI (iC κj)) (by omega)).pr (k := rJ σc) (f := 14) (Or.inl rfl) (by omega)
  have agE' := agP agE tkb (Or.inl (Nat.le_refl _)) (Or.inl (Nat.le_refl _))
  have agB' := agP (Agr.refl (κ1 := κk) (σ1 := σk)) T0.refl (Or.inr (by omega)) (Or.inr (by omega))
  have bel' := agP bel tAll (Or.inl (by omega)) (Or.inl (by omega))
  have row : ∀ k, k < iC κb → k ≠ iC κc → kI (cI κj 70 (iC κc) (nI (iC κj))) 69 k = kI κb 69 k ∧ kI (cI κj 70 (iC κc) (nI (iC κj))) 70 k = kI κb 70 k := fun k hk hn => by
    have y1 := add_old adj (k := k) (by omega)
    have y2 := add_old ads (k := k) hk
    rw [kI_ne (by decide), kI_nk hn, y1.1, y1.2, y2.1, y2.2]
    exact ⟨rfl, rfl⟩
  have rrow : ∀ k, k < rJ σb → k ≠ rJ σc → aI (wI (em (em σb 0 (kI κ 72 8) 0) 23 (nI (rJ (sg κ σ))) 0) 14 (rJ σc) (nI (rJ (em (em σb 0 (kI κ 72 8) 0) 23 (nI (rJ (sg κ σ))) 0)))) 13 k = aI σb 13 k ∧ aI (wI (em (em σb 0 (kI κ 72 8) 0) 23 (nI (rJ (sg κ σ))) 0) 14 (rJ σc) (nI (rJ (em (em σb 0 (kI κ 72 8) 0) 23 (nI (rJ (sg κ σ))) 0)))) 14 k = aI σb 14 k := fun k hk hn => by
    have y1 := em_ne (σ := em σb 0 (kI κ 72 8) 0) (x := 23) (y := nI (rJ (sg κ σ))) (z := 0) (q := k) (by omega)
    have y2 := em_ne (σ := σb) (x := 0) (y := kI κ 72 8) (z := 0) (q := k) (by omega)
    rw [aI_ne (by decide), aI_ni hn, y1.1, y1.2.1, y2.1, y2.2.1]
    exact ⟨rfl, rfl⟩
  have o1 := row (iC κ) (by omega) (by omega)
  have o1' := rrow (rJ σ) (by omega) (by omega)
  have cc := row
  have o2k : kI (cI κj 70 (iC κc) (nI (iC κj))) 69 (iC κc) = 16 := by
    rw [kI_ne (by decide), (add_old adj (k := iC κc) (by omega)).1, (add_old ads (k := iC κc) (by omega)).1]
    exact rC1.1
  have o2r : aI (wI (em (em σb 0 (kI κ 72 8) 0) 23 (nI (rJ (sg κ σ))) 0) 14 (rJ σc) (nI (rJ (em (em σb 0 (kI κ 72 8) 0) 23 (nI (rJ (sg κ σ))) 0)))) 13 (rJ σc) = 24 := by
    rw [aI_ne (by decide), (em_ne (σ := em σb 0 (kI κ 72 8) 0) (x := 23) (y := nI (rJ (sg κ σ))) (z := 0) (q := rJ σc) (by omega)).1, (em_ne (σ := σb) (x := 0) (y := kI κ 72 8) (z := 0) (q := rJ σc) (by omega)).1]
    exact rC1.2
  have o3k : kI (cI κj 70 (iC κc) (nI (iC κj))) 69 (iC κb) = 20 ∧ kI (cI κj 70 (iC κc) (nI (iC κj))) 70 (iC κb) = kI κ 72 8 := by
    have y1 := add_old adj (k := iC κb) (by omega)
    rw [kI_ne (by decide), kI_nk (by omega), y1.1, y1.2]
    exact ⟨ads.2.1, ads.2.2.1⟩
  have o3r : aI (wI (em (em σb 0 (kI κ 72 8) 0) 23 (nI (rJ (sg κ σ))) 0) 14 (rJ σc) (nI (rJ (em (em σb 0 (kI κ 72 8) 0) 23 (nI (rJ (sg κ σ))) 0)))) 13 (rJ σb) = 0 ∧ aI (wI (em (em σb 0 (kI κ 72 8) 0) 23 (nI (rJ (sg κ σ))) 0) 14 (rJ σc) (nI (rJ (em (em σb 0 (kI κ 72 8) 0) 23 (nI (rJ (sg κ σ))) 0)))) 14 (rJ σb) = kI κ 72 8 := by
    have y1 := em_ne (σ := em σb 0 (kI κ 72 8) 0) (x := 23) (y := nI (rJ (sg κ σ))) (z := 0) (q := rJ σb) (by omega)
    rw [aI_ne (by decide), aI_ni (by omega), y1.1, y1.2.1]
    exact ⟨ss.1, ss.2.1⟩
  have aj1 := adj.2.1
  have aj2 := adj.2.2.1
  rw [s3] at aj1 aj2
  have o4k : kI (cI κj 70 (iC κc) (nI (iC κj))) 69 (iC κb + 1) = 15 ∧ kI (cI κj 70 (iC κc) (nI (iC κj))) 70 (iC κb + 1) = nI (iC κ1) := by
    rw [kI_ne (by decide), kI_nk (by omega)]
    exact ⟨aj1, aj2⟩
  have o4r : aI (wI (em (em σb 0 (kI κ 72 8) 0) 23 (nI (rJ (sg κ σ))) 0) 14 (rJ σc) (nI (rJ (em (em σb 0 (kI κ 72 8) 0) 23 (nI (rJ (sg κ σ))) 0)))) 13 (rJ σb + 1) = 23 ∧ aI (wI (em (em σb 0 (kI κ 72 8) 0) 23 (nI (rJ (sg κ σ))) 0) 14 (rJ σc) (nI (rJ (em (em σb 0 (kI κ 72 8) 0) 23 (nI (rJ (sg κ σ))) 0)))) 14 (rJ σb + 1) = nI (rJ (sg κ σ)) := by
    rw [aI_ne (by decide), aI_ni (by omega)]
    exact ⟨sj.1, sj.2.1⟩
  obtain ⟨sss, tc⟩ := while_ss h hi0.1 hi0.2 (by omega) (by omega) (by omega) (by omega) t1.t0 w3 w4 ex n3 n4 tk.t0 ok1 eK kK blk' tF (v3.trans iF) (x4.trans jF) ⟨cT.1, cT.2.1, by omega, by omega, cT.2.2⟩ (by omega) ⟨o1.1.trans rS.1, o1.2.trans rS.2.1, o1'.1.trans rS.2.2.1, o1'.2.trans rS.2.2.2⟩ ⟨o2k, by rw [kI_eq, v3], o2r, by rw [aI_eq, x4]⟩ ⟨o3k.1, o3k.2, o3r.1, o3r.2⟩ ⟨o4k.1, o4k.2, o4r.1, o4r.2⟩ agE' agB'
  have us' : UsA N (cI κj 70 (iC κc) (nI (iC κj))) (wI (em (em σb 0 (kI κ 72 8) 0) 23 (nI (rJ (sg κ σ))) 0) 14 (rJ σc) (nI (rJ (em (em σb 0 (kI κ 72 8) 0) 23 (nI (rJ (sg κ σ))) 0)))) (iC κ) (iC (cI κj 70 (iC κc) (nI (iC κj)))) (rJ σ) (rJ (wI (em (em σb 0 (kI κ 72 8) 0) 23 (nI (rJ (sg κ σ))) 0) 14 (rJ σc) (nI (rJ (em (em σb 0 (kI κ 72 8) 0) 23 (nI (rJ (sg κ σ))) 0))))) (rU σ) (rU (wI (em (em σb 0 (kI κ 72 8) 0) 23 (nI (rJ (sg κ σ))) 0) 14 (rJ σc) (nI (rJ (em (em σb 0 (kI κ 72 8) 0) 23 (nI (rJ (sg κ σ))) 0))))) (rA σ) (rA (wI (em (em σb 0 (kI κ 72 8) 0) 23 (nI (rJ (sg κ σ))) 0) 14 (rJ σc) (nI (rJ (em (em σb 0 (kI κ 72 8) 0) 23 (nI (rJ (sg κ σ))) 0))))) (rV σ) (rV (wI (em (em σb 0 (kI κ 72 8) 0) 23 (nI (rJ (sg κ σ))) 0) 14 (rJ σc) (nI (rJ (em (em σb 0 (kI κ 72 8) 0) 23 (nI (rJ (sg κ σ))) 0))))) := by
    have e20 : kI κj 69 (iC κb) = 20 := (add_old adj (k := iC κb) (by omega)).1.trans ads.2.1
    have e15 : kI κj 69 (iC κb + 1) = 15 := by have := adj.2.1; rw [s3] at this; exact this
    have e16 : kI κj 69 (iC κc) = 16 := (tsj.2.2.1.2.2.2.2.2.2.1 (iC κc) (by omega)).1.trans rC1.1
    have lu : rU σ ≤ rU σb ∧ rA σ ≤ rA σb ∧ rV σ ≤ rV σb := ⟨tAll.2.2.2.2.2.2.2.1, tAll.2.2.2.2.2.2.2.2, tAll.2.2.1.2.2.2.1⟩
    have y1 := (usB.step tsj ⟨Nat.le_refl _, Nat.le_refl _, Nat.le_refl _, Nat.le_refl _, Nat.le_refl _⟩).act (j2 := rJ σb) e20 (by decide) ⟨rfl, Nat.le_refl _, by omega, lu.1, lu.2.1, lu.2.2, by omega⟩
    have y2 := y1.act (j2 := rJ (em (em σb 0 (kI κ 72 8) 0) 23 (nI (rJ (sg κ σ))) 0)) e15 (by decide) ⟨rfl, by omega, by omega, lu.1, lu.2.1, lu.2.2, by omega⟩
    exact ((y2.pk (k := iC κc) (v := nI (iC κj)) e16 (by decide)).pw (k := rJ σc) (f := 14) (by decide)).to ⟨by omega, by omega, by omega, by omega, by omega⟩
  refine ⟨_, ⟨pf, Bel.tr (tAll.trans tF) bel', ⟨tc, us'⟩, sss, ?_⟩, by omega, fun d Q hd hq => pathB d Q hd ⟨0, by simp only [dS] at hd; omega, ac_emit pb.2.2.2.2.2.2.2.2.2.2.2.1 (by omega) ⟨0, by simp only [dS] at hd; omega, ac_emit ps.2.2.2.2.2.2.2.2.2.2.2.1 (by omega) ?_⟩⟩⟩
  · unfold Ds
    omega
  · rw [vpn (by omega), cl_nI (by omega), s17]
    refine ⟨by omega, ?_⟩
    rintro s170 rfl
    exact a_readStatement_526 _ _ hq
end WHI
