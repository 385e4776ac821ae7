/-! each: behind the block -/
section EAE
variable {X : Cx} {N b P : Nat} {κ κ1 κd κc κk κb κ' : Km} {σ σd σc σk σb σ' : Rm}
/-- the reference's readEach comes to r -/
def RE (X : Cx) (κ : Km) (σ σ' : Rm) (r : Res) : Prop := ∀ (e : Nat) (Q : Res → Rm → Prop), dS (oC κ) + 18 ≤ e → Q r σ' → A X 92 e MX13_readEach 0 [(0, vR 92), (1, vI (kI κ 72 8))] [] (em σ 0 (kI κ 72 8) 0) Q
theorem RE.rs {r : Res} (h : Ps κ σ N b P) (hj : rJ σ < 12000) (h1 : Ps κ1 (sg κ σ) N b P) (hc : kI κ1 72 7 = 221) (hr : r = .inl none ∨ r = .inr 93) (H : RE X κ σ σ' r) : RS X κ σ σ' r := fun d Q hd hq => rs_each h hj h1 (by simp only [dS] at hd; omega) hc ⟨d - 1, by simp only [dS] at hd; omega, AC_of_A rfl (Nat.le_of_ble_eq_true rfl) rfl (H (d - 1) _ (by omega) (by
  rcases hr with rfl | rfl
  · exact Or.inl ⟨rfl, a_readStatement_526 _ _ hq⟩
  · exact Or.inr ⟨93, rfl, hq⟩))⟩
theorem each_end {d0 t v : Nat} {F : Int32 → Km → Prop} (h : Ps κ σ N b P) (hd0 : dS (oC κ) + 5 ≤ d0) (ho : oC κ ≤ 24) (b10 : rE σ ≤ 24)
    (a1 : pC κ + 3 ≤ pC κb) (a2 : iC κb + 2 ≤ iC κ + 3 * (pC κb - pC κ)) (a3 : rJ σb + 2 ≤ rJ σ + 3 * (pC κb - pC κ)) (a4 : 2 * rU σb ≤ 2 * rU σ + (pC κb - pC κ)) (a5 : 2 * rA σb ≤ 2 * rA σ + (pC κb - pC κ)) (a6 : 6 * rT σb ≤ 6 * rT σ + (pC κb - pC κ)) (a7 : 4 * rC σb ≤ 4 * rC σ + (pC κb - pC κ)) (a8 : 2 * rV σb ≤ 2 * rV σ + (pC κb - pC κ)) (a9 : oC κb = oC κ) (a10 : rK σb = rK σ) (a11 : rE σb = rE σ + 1) (ic : iC κ < iC κc) (icb : iC κc + 1 < iC κb) (jc : rJ σ < rJ σc) (jcb : rJ σc + 1 < rJ σb) (hi3 : iC κb ≤ 9010 ∧ rJ σb ≤ 9010 ∧ rT σb ≤ 999) (hi0 : iC κ < 9000 ∧ rJ σ < 9900) (pb : Ps κb σb N b P)
    (t1 : Tr b κ σ κ1 (sg κ σ)) (w3 : iC κ1 = iC κ + 1) (w4 : rJ (sg κ σ) = rJ σ + 1) (ex : ES N b P 0 0 1 κ1 (sg κ σ) κc σc) (n3 : iC κk = iC κc + 2) (n4 : rJ σk = rJ σc + 2) (tk : T0 b κc σc κk σk) (ok1 : oC κk = oC κ) (eK : rE σk = rE σ + 1) (kK : rK σk = rK σ) (blk' : ST N b P 0 κk σk κb σb) (cT : rT σk = rT σ ∧ rC σk = rC σ ∧ rT σc = rT (sg κ σ))
    (rS : kI κb 69 (iC κ) = 20 ∧ kI κb 70 (iC κ) = kI κ 72 8 ∧ aI σb 13 (rJ σ) = 0 ∧ aI σb 14 (rJ σ) = kI κ 72 8) (rC1 : kI κb 69 (iC κc) = 30 ∧ aI σb 13 (rJ σc) = 31 ∧ aI σb 14 (rJ σc) = nI (12 + rE σ)) (rC2 : kI κb 69 (iC κc + 1) = 3 ∧ kI κb 70 (iC κc + 1) = -1 - nI t ∧ aI σb 13 (rJ σc + 1) = 32 ∧ aI σb 14 (rJ σc + 1) = nI v ∧ aI σb 15 (rJ σc + 1) = nI (12 + rE σ)) (agE : Agr κ1 (sg κ σ) κc σc κb σb) (bel : Bel κ σ κb σb) (tAll : T0 b κ σ κb σb) (tkb : T0 b κc σc κb σb) (usB : UsA N κb σb (iC κ) (iC κb) (rJ σ) (rJ σb) (rU σ) (rU σb) (rA σ) (rA σb) (rV σ) (rV σb))
    (nf : cV κd b ≤ rV σd) (td : T0 b κd σd κb σb) (u13 : rV σd = cV κd b → VnR κd b t v) (ht : t < 3001)
    (pathB : ∀ (e : Nat) (Q : Res → Rm → Prop), dS (oC κ) + 18 ≤ e → (∃ e35 : Nat, e35 + 1 ≤ e ∧ AC X 92 e35 MX13_emit [vR 92, vI 0, vI (kI κ 72 8), vI 0] σb (aRI fun _ s39 => ∃ e40 : Nat, e40 + 1 ≤ e ∧ AC X 92 e40 MX13_emit [vR 92, vI 23, vI (nI (rJ σc + 1)), vI 0] s39 (aRI fun _ s44 => (vp_in (nI (rJ σc + 1)) 12000) ∧ ∀ s46 : Rm, s46 = wI s44 16 ((nI (rJ σc + 1) : Int32).toNatClampNeg) (sI s44 17) → ∀ s47 : Rm, s47 = wS s46 36 ((sI s46 36) - 1) → Q (.inl none) s47))) → A X 92 e MX13_readEach 0 [(0, vR 92), (1, vI (kI κ 72 8))] [] (em σ 0 (kI κ 72 8) 0) Q)
    (q1 : ∀ κ' σ', ST N b P 1 κ σ κ' σ' → pC κ < pC κ' → RE X κ σ σ' (.inl none) → F 1 κ') : ∃ e57 : Nat, e57 + 1 ≤ d0 ∧ KC' X e57 MX1_add [vR 68, vI 20, vI (kI κ 72 8)] κb (kRI fun _ κ61 => ∃ e63 : Nat, e63 + 1 ≤ d0 ∧ KC' X e63 MX1_add [vR 68, vI 15, vI (nI (iC κc))] κ61 (kRI fun _ κ67 => ∃ e69 : Nat, e69 + 1 ≤ d0 ∧ KC' X e69 MX1_size [vR 68] κ67 (kRI fun y72 κ73 => ∃ e75 : Nat, e75 + 1 ≤ d0 ∧ KC' X e75 MX1_patch [vR 68, vI (nI (iC κc)), vI y72] κ73 (kRV fun κ78 => F 1 κ78)))) := by
  refine ⟨2, by simp only [dS] at hd0; omega, pb.add (by omega) (by unfold i8; decide) (fun κs ads => ?_)⟩
  obtain ⟨ps, ts, s1, s2, s3, s4, s5, s6, s7, s8, s9, s10, s11⟩ := act_pair (op := 0) (y := kI κ 72 8) (z := 0) pb (by omega) (by omega) ads
  refine ⟨2, by simp only [dS] at hd0; omega, ps.add (by omega) (by unfold i8; decide) (fun κj adj => ?_)⟩
  obtain ⟨pj, tj, j1, j2, j3, j4, j5, j6, j7, j8, j9, j10, j11⟩ := act_pair (op := 23) (y := nI (rJ σc + 1)) (z := 0) ps (by omega) (by omega) adj
  have ss := em_at (σ := σb) (x := 0) (y := kI κ 72 8) (z := 0)
  have sj := em_at (σ := em σb 0 (kI κ 72 8) 0) (x := 23) (y := nI (rJ σc + 1)) (z := 0)
  rw [s4] at sj
  refine ⟨0, by simp only [dS] at hd0; omega, kc_csize pj ⟨0, by simp only [dS] at hd0; omega, kc_patch pj (k := iC κc) (by omega) (by omega) ?_⟩⟩
  generalize hσj : em (em σb 0 (kI κ 72 8) 0) 23 (nI (rJ σc + 1)) 0 = σj at *
  have em1 : ∀ k, k ≠ rJ σb → k ≠ rJ σb + 1 → aI σj 13 k = aI σb 13 k ∧ aI σj 14 k = aI σb 14 k ∧ aI σj 15 k = aI σb 15 k := fun k hk hk2 => by
    have y1 := em_ne (σ := em σb 0 (kI κ 72 8) 0) (x := 23) (y := nI (rJ σc + 1)) (z := 0) (q := k) (by omega)
    have y2 := em_ne (σ := σb) (x := 0) (y := kI κ 72 8) (z := 0) (q := k) (by omega)
    rw [← hσj]
    exact ⟨y1.1.trans y2.1, y1.2.1.trans y2.2.1, y1.2.2.1.trans y2.2.2.1⟩
  have em2 : aI σj 13 (rJ σb) = 0 ∧ aI σj 14 (rJ σb) = kI κ 72 8 := by
    have y1 := em_ne (σ := em σb 0 (kI κ 72 8) 0) (x := 23) (y := nI (rJ σc + 1)) (z := 0) (q := rJ σb) (by omega)
    rw [← hσj]
    exact ⟨y1.1.trans ss.1, y1.2.1.trans ss.2.1⟩
  obtain ⟨pf0, tf0, v1, v2, v3, v4, v5, v6, v7, v8, v9, v10, v11⟩ := pj.pk (k := iC κc) (v := nI (iC κj))
  obtain ⟨pf, tf, x1, x2, x3, x4, x5, x6, x7, x8, x9, x10, x11⟩ := pf0.pr (k := rJ σc + 1) (f := 16) (v := nI (rJ σj)) (Or.inr (Or.inl rfl))
  obtain ⟨pg, tg, y1, y2, y3, y4, y5, y6, y7, y8, y9, y10, y11⟩ := pf.nest (f := 36) (v := rE σ) (Or.inr rfl) (by omega)
  rw [if_neg (by decide)] at y10
  rw [if_pos rfl] at y11
  have tsj := ts.trans tj
  have iF : iC κj = iC κb + 2 := by omega
  have jF : rJ σj = rJ σb + 2 := by omega
  have s17 : sI σj 17 = nI (rJ σj) := pj.2.2.2.2.2.2.2.2.2.2.2.1
  have s36 : sI (wI σj 16 (rJ σc + 1) (nI (rJ σj))) 36 - 1 = nI (rE σ) := by
    have e := pf.2.2.2.2.2.2.2.2.2.2.2.2.2.2.2.2.2
    rw [e, x11, j11, s11, a11]
    exact nI_sb (a := rE σ + 1) (b := 1) (by omega)
  have tF := tsj.t0.trans (tf0.trans (tf.trans tg.t0))
  have agP : ∀ {κx : Km} {σx : Rm} {κy : Km} {σy : Rm}, Agr κx σx κy σy κb σb → T0 b κy σy κb σb → (iC κy ≤ iC κc ∨ iC κc < iC κx) → (rJ σy ≤ rJ σc + 1 ∨ rJ σc + 1 < rJ σx) → Agr κx σx κy σy (cI κj 70 (iC κc) (nI (iC κj))) (wS (wI σj 16 (rJ σc + 1) (nI (rJ σj))) 36 (nI (rE σ))) := fun {κx σx κy σy} ag tt c1 c2 => (((ag.tw tsj.2.2.1 tt).pk (k := iC κc) (v := nI (iC κj)) (by omega)).pr (k := rJ σc + 1) (f := 16) (v := nI (rJ σj)) (Or.inr rfl) (by omega)).ps (Or.inr (Or.inr (Or.inr rfl)))
  have agE' := agP agE tkb (Or.inl (Nat.le_refl _)) (Or.inl (Nat.le_succ _))
  have agB' := agP (Agr.refl (κ1 := κk) (σ1 := σk)) T0.refl (Or.inr (by omega)) (Or.inr (by omega))
  have bel' := agP bel tAll (Or.inl (by omega)) (Or.inl (by omega))
  have usJ : UsA N (cI κj 70 (iC κc) (nI (iC κj))) (wS (wI σj 16 (rJ σc + 1) (nI (rJ σj))) 36 (nI (rE σ))) (iC κ) (iC κb + 1 + 1) (rJ σ) (rJ σj) (rU σ) (rU σb) (rA σ) (rA σb) (rV σ) (rV σb) := by
    have e20 : kI κj 69 (iC κb) = 20 := (add_old adj (k := iC κb) (by omega)).1.trans ads.2.1
    have e15 : kI κj 69 (iC κb + 1) = 15 := by have := adj.2.1; rw [s3] at this; exact this
    have e30 : kI κj 69 (iC κc) = 30 := (tsj.2.2.1.2.2.2.2.2.2.1 (iC κc) (by omega)).1.trans rC1.1
    have lu : rU σ ≤ rU σb ∧ rA σ ≤ rA σb ∧ rV σ ≤ rV σb := ⟨tAll.2.2.2.2.2.2.2.1, tAll.2.2.2.2.2.2.2.2, tAll.2.2.1.2.2.2.1⟩
    have z1 := (usB.step tsj ⟨Nat.le_refl _, Nat.le_refl _, Nat.le_refl _, Nat.le_refl _, Nat.le_refl _⟩).act (j2 := rJ σb) e20 (by decide) ⟨rfl, Nat.le_refl _, by omega, lu.1, lu.2.1, lu.2.2, by omega⟩
    have z2 := z1.act (j2 := rJ σj) e15 (by decide) ⟨rfl, by omega, by omega, lu.1, lu.2.1, lu.2.2, by omega⟩
    exact ((z2.pk (k := iC κc) (v := nI (iC κj)) e30 (by decide)).pw (k := rJ σc + 1) (f := 16) (by decide)).pw (k := 0) (f := 36) (by decide)
  generalize hσ' : wS (wI σj 16 (rJ σc + 1) (nI (rJ σj))) 36 (nI (rE σ)) = σz at *
  have ra : ∀ g, g ≠ 16 → g ≠ 36 → aI σz g = aI σj g := fun g h1 h2 => by rw [← hσ', aI_ne h2, aI_ne h1]
  have ra16 : aI σz 16 (rJ σc + 1) = nI (rJ σj) := by rw [← hσ', aI_ne (by decide), aI_eq]
  generalize hκ' : cI κj 70 (iC κc) (nI (iC κj)) = κz at *
  have ka : kI κz 69 = kI κj 69 := by rw [← hκ', kI_ne (by decide)]
  have kb : ∀ k, k ≠ iC κc → kI κz 70 k = kI κj 70 k := fun k hk => by rw [← hκ', kI_nk hk]
  have kc : kI κz 70 (iC κc) = nI (iC κj) := by rw [← hκ', kI_eq]
  have row : ∀ k, k < iC κb → kI κj 69 k = kI κb 69 k ∧ kI κj 70 k = kI κb 70 k := fun k hk => by
    have y1 := add_old adj (k := k) (by omega)
    have y2 := add_old ads (k := k) hk
    exact ⟨y1.1.trans y2.1, y1.2.trans y2.2⟩
  have o1 : kI κz 69 (iC κ) = 20 ∧ kI κz 70 (iC κ) = kI κ 72 8 ∧ aI σz 13 (rJ σ) = 0 ∧ aI σz 14 (rJ σ) = kI κ 72 8 := by
    have r1 := row (iC κ) (by omega)
    have r2 := em1 (rJ σ) (by omega) (by omega)
    rw [ka, kb _ (by omega), ra 13 (by decide) (by decide), ra 14 (by decide) (by decide), r1.1, r1.2, r2.1, r2.2.1]
    exact rS
  have o2 : kI κz 69 (iC κc) = 30 ∧ kI κz 70 (iC κc) = nI (iC κz) ∧ aI σz 13 (rJ σc) = 31 ∧ aI σz 14 (rJ σc) = nI (12 + rE σ) := by
    have r1 := row (iC κc) (by omega)
    have r2 := em1 (rJ σc) (by omega) (by omega)
    rw [ka, kc, ra 13 (by decide) (by decide), ra 14 (by decide) (by decide), r1.1, r2.1, r2.2.1, v3]
    exact ⟨rC1.1, rfl, rC1.2.1, rC1.2.2⟩
  have o2b : kI κz 69 (iC κc + 1) = 3 ∧ kI κz 70 (iC κc + 1) = -1 - nI t ∧ aI σz 13 (rJ σc + 1) = 32 ∧ aI σz 14 (rJ σc + 1) = nI v ∧ aI σz 15 (rJ σc + 1) = nI (12 + rE σ) ∧ aI σz 16 (rJ σc + 1) = nI (rJ σz) := by
    have r1 := row (iC κc + 1) (by omega)
    have r2 := em1 (rJ σc + 1) (by omega) (by omega)
    rw [ka, kb _ (by omega), ra 13 (by decide) (by decide), ra 14 (by decide) (by decide), ra 15 (by decide) (by decide), ra16, r1.1, r1.2, r2.1, r2.2.1, r2.2.2, y4, x4]
    exact ⟨rC2.1, rC2.2.1, rC2.2.2.1, rC2.2.2.2.1, rC2.2.2.2.2, rfl⟩
  have o3 : kI κz 69 (iC κb) = 20 ∧ kI κz 70 (iC κb) = kI κ 72 8 ∧ aI σz 13 (rJ σb) = 0 ∧ aI σz 14 (rJ σb) = kI κ 72 8 := by
    have r1 := add_old adj (k := iC κb) (by omega)
    rw [ka, kb _ (by omega), ra 13 (by decide) (by decide), ra 14 (by decide) (by decide), r1.1, r1.2]
    exact ⟨ads.2.1, ads.2.2.1, em2.1, em2.2⟩
  have aj1 := adj.2.1
  have aj2 := adj.2.2.1
  rw [s3] at aj1 aj2
  have o4 : kI κz 69 (iC κb + 1) = 15 ∧ kI κz 70 (iC κb + 1) = nI (iC κc) ∧ aI σz 13 (rJ σb + 1) = 23 ∧ aI σz 14 (rJ σb + 1) = nI (rJ σc + 1) := by
    rw [ka, kb _ (by omega), ra 13 (by decide) (by decide), ra 14 (by decide) (by decide)]
    exact ⟨aj1, aj2, sj.1, sj.2.1⟩
  have hv : ∀ (κF : Km) (σF : Rm) (vr br : Nat → Nat → Prop), Fnc σF vr br b → Ext κF σF vr br b κ σ κz σz → v < nvB σF b ∧ kI κF 70 (iC κc + 1) = nI v := fun κF σF vr br hf he => by
    have tt := td.trans tF
    exact store_ext hf he nf tt.2.2.1 ((tt.1.1.1 76 np76).2.1) u13 ht (by omega) (by omega) o2b.1 o2b.2.1
  obtain ⟨sss, tc⟩ := each_ss h hi0.1 hi0.2 (by omega) (by omega) (by omega) (by omega) ho t1.t0 w3 w4 ex n3 n4 tk ok1 eK kK blk' tF (by omega) (by omega) ⟨cT.1, cT.2.1, by omega, by omega, cT.2.2⟩ (by omega) o1 o2 o2b hv o3 o4 agE' agB'
  refine q1 _ _ ⟨pg, Bel.tr (tAll.trans tF) bel', ⟨tc, usJ.to ⟨by omega, by omega, by omega, by omega, by omega⟩⟩, sss, ?_⟩ (by omega) (fun e Q he hq => pathB e Q he ⟨0, by simp only [dS] at he; omega, ac_emit pb.2.2.2.2.2.2.2.2.2.2.2.1 (by omega) ⟨0, by simp only [dS] at he; omega, ac_emit ps.2.2.2.2.2.2.2.2.2.2.2.1 (by omega) ?_⟩⟩)
  · unfold Ds
    omega
  · rw [vpn (by omega), cl_nI (by omega)]
    refine ⟨by omega, ?_⟩
    rintro s46 rfl s47 rfl
    rw [hσj, s17, s36, hσ']
    exact hq
end EAE
