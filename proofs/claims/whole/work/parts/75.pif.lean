/-! if -/
section IFS
variable {X : Cx} {N b P : Nat} {κ κ1 κa κc κk κb κ' κe κj κp κ2 : Km} {σ σa σc σk σb σ' σe σj σp σ2 : Rm}
section GS
variable {κF : Km} {σF : Rm} {vr br : Nat → Nat → Prop} {A : Pt → Prop} {L : List Itm}
theorem step_g {k j : Nat} {x : Int32} (hb : b < 12) (hi : k < 9900) (hj : j < 11990) (o : kI κF 69 k = 20 ∧ nI k < kI κF 68 2 ∧ kI κF 70 k = x ∧ aI σF 13 j = 0 ∧ aI σF 14 j = x) (hg : GC κF σF A b L) (g : Good2 κF σF A (b, k + 1, j + 1, L, 0, 1)) : Good1 κF σF A (b, k, j, L, 0, 0) :=
  mkG hb hi o.2.1 hj (by omega) hg (Or.inr (Or.inr (Or.inr (Or.inr (Or.inr (Or.inr (Or.inr (Or.inr (Or.inr (Or.inr (Or.inr (Or.inr (Or.inr (Or.inr (Or.inl ⟨rfl, o.1, o.2.2.2.1, o.2.2.2.2.trans o.2.2.1.symm, g⟩)))))))))))))))
theorem jin_g {k j i2 j2 : Nat} (hb : b < 12) (hi : k < 9900) (hj : j < 11990) (o : kI κF 69 k = 16 ∧ nI k < kI κF 68 2 ∧ kI κF 70 k = nI i2 ∧ aI σF 13 j = 24 ∧ aI σF 14 j = nI j2) (hlt : k < i2) (hg : GC κF σF A b L) (g : Good2 κF σF A (b, k + 1, j + 1, L, 0, 0)) (g2 : Good2 κF σF A (b, i2, j2, L, 0, 0)) : Good2 κF σF A (b, k, j, L, 1, 1) :=
  (mkG hb hi o.2.1 hj (by omega) hg (Or.inr (Or.inr (Or.inr (Or.inr (Or.inr (Or.inr (Or.inr (Or.inr (Or.inr (Or.inr (Or.inr (Or.inr (Or.inr (Or.inl ⟨rfl, rfl, o.1, o.2.2.2.1, g, i2, j2, o.2.2.1, o.2.2.2.2, hlt, g2⟩))))))))))))))).two
theorem jmp_g {k j i2 j2 s : Nat} (hb : b < 12) (hi : k < 9900) (hj : j < 11990) (o : kI κF 69 k = 15 ∧ nI k < kI κF 68 2 ∧ kI κF 70 k = nI i2 ∧ aI σF 13 j = 23 ∧ aI σF 14 j = nI j2) (hlt : k < i2) (hg : GC κF σF A b L) (g2 : Good2 κF σF A (b, i2, j2, L, 0, 0)) : Good2 κF σF A (b, k, j, L, 0, s) :=
  (mkG hb hi o.2.1 hj (by omega) hg (Or.inr (Or.inr (Or.inr (Or.inr (Or.inr (Or.inr (Or.inr (Or.inr (Or.inr (Or.inr (Or.inr (Or.inr (Or.inl ⟨rfl, o.1, o.2.2.2.1, i2, j2, o.2.2.1, o.2.2.2.2, hlt, g2⟩)))))))))))))).two
end GS
/-- own acts, short -/
theorem own5 {κF : Km} {σF : Rm} {vr br : Nat → Nat → Prop} {k j : Nat} {a op x y : Int32} (he : Ext κF σF vr br b κ σ κ' σ') (k1 : iC κ ≤ k) (k2 : k < iC κ') (j1 : rJ σ ≤ j) (j2 : j < rJ σ') (ea : kI κ' 69 k = a) (ex : kI κ' 70 k = x) (eo : aI σ' 13 j = op) (ey : aI σ' 14 j = y) (na : a ≠ 2 ∧ a ≠ 3 ∧ a ≠ 23 ∧ a ≠ 24) (no : op ≠ 2 ∧ op ≠ 16 ∧ op ≠ 20) : kI κF 69 k = a ∧ nI k < kI κF 68 2 ∧ kI κF 70 k = x ∧ aI σF 13 j = op ∧ aI σF 14 j = y := by
  have := own he k1 k2 j1 j2 ea ex eo ey rfl rfl na no
  exact ⟨this.1, this.2.1, this.2.2.1, this.2.2.2.1, this.2.2.2.2.1⟩
/-- the rows of an act that was added -/
theorem AdC.at {a x : Int32} (ad : AdC κ κ1 a x) (hi : iC κ < 9900) : iC κ1 = iC κ + 1 := by
  show (kI κ1 68 2).toNatClampNeg = iC κ + 1
  rw [ad.1]
  exact cl_nI (by omega)
/-- if without else -/
theorem if1_ss (h : Ps κ σ N b P) (hi : iC κ < 9000) (hj : rJ σ < 9900) (hic : iC κc < 9900) (hjc : rJ σc < 11990) (t1 : T0 b κ σ κ1 (sg κ σ)) (i1 : iC κ1 = iC κ + 1) (j1 : rJ (sg κ σ) = rJ σ + 1)
    (ex : ES N b P 0 0 1 κ1 (sg κ σ) κc σc) (iK : iC κk = iC κc + 1) (jK : rJ σk = rJ σc + 1) (tK : T0 b κc σc κk σk) (oK : oC κk = oC κ) (eK : rE σk = rE σ) (kK : rK σk = rK σ) (blk : ST N b P 0 κk σk κb σb) (tF : T0 b κb σb κ' σ') (iF : iC κ' = iC κb) (jF : rJ σ' = rJ σb) (cT : rT σk = rT σ ∧ rC σk = rC σ ∧ rT σ' = rT σb ∧ rC σ' = rC σb ∧ rT σc = rT (sg κ σ)) (h1000 : rT σ' ≤ 1000)
    (o1 : kI κ' 69 (iC κ) = 20 ∧ kI κ' 70 (iC κ) = kI κ 72 8 ∧ aI σ' 13 (rJ σ) = 0 ∧ aI σ' 14 (rJ σ) = kI κ 72 8) (o2 : kI κ' 69 (iC κc) = 16 ∧ kI κ' 70 (iC κc) = nI (iC κb) ∧ aI σ' 13 (rJ σc) = 24 ∧ aI σ' 14 (rJ σc) = nI (rJ σb))
    (agE : Agr κ1 (sg κ σ) κc σc κ' σ') (agB : Agr κk σk κb σb κ' σ') : SS b 1 κ σ κ' σ' ∧ Tc σ σ' := by
  have lE := ex.2.1.2.2.1.1
  have lE2 := ex.2.1.2.2.1.2.1
  have lB := blk.2.1.2.2.1.1
  have lB2 := blk.2.1.2.2.1.2.1
  have lB3 := blk.2.1.2.2.1.2.2.1
  have tcB := blk.2.2.1.1.a agB
  obtain ⟨c1, c2, c3, c4, c5⟩ := cT
  refine ⟨SS.one fun κF σF vr br hf he A L l1 l2 l3 hg g => ?_, fun c d1 d2 => by have := tcB c (by omega) (by omega); rw [c1, ← c3] at this; exact this⟩
  have heB : Ext κF σF vr br b κk σk κb σb := he.mid (t1.trans (ex.2.1.t0.trans tK)) tF agB (fun c t d1 d2 _ _ _ _ => ⟨by omega, by omega⟩) (by omega) blk.1.1.2.2.2.2.cv
  have heE : Ext κF σF vr br b κ1 (sg κ σ) κc σc := he.mid t1 (tK.trans (blk.2.1.t0.trans tF)) agE (fun c t _ _ _ _ d3 d4 => by omega) (Nat.le_trans tK.2.2.2.2.2.1 (by omega)) ex.1.1.2.2.2.2.cv
  rw [iF, jF] at g
  have gB := (blk.2.2.2.1 κF σF vr br hf heB A L (by omega) (by omega) (by omega) hg).1 g
  rw [iK, jK] at gB
  have w2 := own5 (κ := κ) (σ := σ) he (k := iC κc) (j := rJ σc) (by omega) (by omega) (by omega) (by omega) o2.1 o2.2.1 o2.2.2.1 o2.2.2.2 (by decide) (by decide)
  have gC := jin_g hf.1 hic hjc w2 (by omega) hg gB g
  have gE := ex.2.2.2 κF σF vr br hf heE A L 0 (Nat.le_refl _) hg gC
  have w1 := own5 (κ := κ) (σ := σ) he (k := iC κ) (j := rJ σ) (Nat.le_refl _) (by omega) (Nat.le_refl _) (by omega) o1.1 o1.2.1 o1.2.2.1 o1.2.2.2 (by decide) (by decide)
  rw [i1, j1] at gE
  exact step_g hf.1 (by omega) (by omega) w1 hg gE
/-- if with else -/
theorem if2_ss (h : Ps κ σ N b P) (hi : iC κ < 9000) (hj : rJ σ < 9900) (hic : iC κc < 9900) (hjc : rJ σc < 11990) (hie : iC κb < 9900) (hje : rJ σb < 11990) (t1 : T0 b κ σ κ1 (sg κ σ)) (i1 : iC κ1 = iC κ + 1) (j1 : rJ (sg κ σ) = rJ σ + 1)
    (ex : ES N b P 0 0 1 κ1 (sg κ σ) κc σc) (iK : iC κk = iC κc + 1) (jK : rJ σk = rJ σc + 1) (tK : T0 b κc σc κk σk) (oK : oC κk = oC κ) (eK : rE σk = rE σ) (kK : rK σk = rK σ) (blk : ST N b P 0 κk σk κb σb) (tP : T0 b κb σb κp σp) (iP : iC κp = iC κb + 1) (jP : rJ σp = rJ σb + 1) (oP : oC κp = oC κ) (eP : rE σp = rE σ) (kP : rK σp = rK σ) (blk2 : ST N b P 0 κp σp κ2 σ2) (tF : T0 b κ2 σ2 κ' σ') (iF : iC κ' = iC κ2) (jF : rJ σ' = rJ σ2) (cT : rT σk = rT σ ∧ rC σk = rC σ ∧ rT σp = rT σb ∧ rC σp = rC σb ∧ rT σ' = rT σ2 ∧ rC σ' = rC σ2 ∧ rT σc = rT (sg κ σ)) (h1000 : rT σ' ≤ 1000)
    (o1 : kI κ' 69 (iC κ) = 20 ∧ kI κ' 70 (iC κ) = kI κ 72 8 ∧ aI σ' 13 (rJ σ) = 0 ∧ aI σ' 14 (rJ σ) = kI κ 72 8) (o2 : kI κ' 69 (iC κc) = 16 ∧ kI κ' 70 (iC κc) = nI (iC κp) ∧ aI σ' 13 (rJ σc) = 24 ∧ aI σ' 14 (rJ σc) = nI (rJ σp)) (o3 : kI κ' 69 (iC κb) = 15 ∧ kI κ' 70 (iC κb) = nI (iC κ2) ∧ aI σ' 13 (rJ σb) = 23 ∧ aI σ' 14 (rJ σb) = nI (rJ σ2))
    (agE : Agr κ1 (sg κ σ) κc σc κ' σ') (agB : Agr κk σk κb σb κ' σ') (agB2 : Agr κp σp κ2 σ2 κ' σ') : SS b 1 κ σ κ' σ' ∧ Tc σ σ' := by
  have lE := ex.2.1.2.2.1.1
  have lE2 := ex.2.1.2.2.1.2.1
  have lB := blk.2.1.2.2.1.1
  have lB2 := blk.2.1.2.2.1.2.1
  have lB3 := blk.2.1.2.2.1.2.2.1
  have lC := blk2.2.1.2.2.1.1
  have lC2 := blk2.2.1.2.2.1.2.1
  have lC3 := blk2.2.1.2.2.1.2.2.1
  obtain ⟨c1, c2, c3, c4, c5, c6, c7⟩ := cT
  have tcB := blk.2.2.1.1.a agB
  have tcC := blk2.2.2.1.1.a agB2
  rw [c3, c4] at tcC
  have tcA := tcB.app tcC (by omega) (by omega)
  rw [c1, c2, ← c5, ← c6] at tcA
  refine ⟨SS.one fun κF σF vr br hf he A L l1 l2 l3 hg g => ?_, tcA⟩
  have tA := t1.trans (ex.2.1.t0.trans tK)
  have heB2 : Ext κF σF vr br b κp σp κ2 σ2 := he.mid (tA.trans (blk.2.1.t0.trans tP)) tF agB2 (fun c t d1 d2 d3 d4 d5 d6 => by
    have := tcB.isoR (c2 := rC σ2) (t2 := rT σ2) c t (by omega) (by omega) d3 d4 (by omega) (by omega)
    omega) (by omega) blk2.1.1.2.2.2.2.cv
  have heB : Ext κF σF vr br b κk σk κb σb := he.mid tA (tP.trans (blk2.2.1.t0.trans tF)) agB (fun c t d1 d2 d3 d4 d5 d6 => by
    have := tcC.isoL (c0 := rC σk) (t0 := rT σk) c t (by omega) (by omega) d3 d4 (by omega) (by omega)
    omega) (by omega) blk.1.1.2.2.2.2.cv
  have heE : Ext κF σF vr br b κ1 (sg κ σ) κc σc := he.mid t1 (tK.trans (blk.2.1.t0.trans (tP.trans (blk2.2.1.t0.trans tF)))) agE (fun c t _ _ _ _ d3 d4 => by omega) (Nat.le_trans tK.2.2.2.2.2.1 (by omega)) ex.1.1.2.2.2.2.cv
  rw [iF, jF] at g
  have gB2 := (blk2.2.2.2.1 κF σF vr br hf heB2 A L (by omega) (by omega) (by omega) hg).1 g
  have w3 := own5 (κ := κ) (σ := σ) he (k := iC κb) (j := rJ σb) (by omega) (by omega) (by omega) (by omega) o3.1 o3.2.1 o3.2.2.1 o3.2.2.2 (by decide) (by decide)
  have gJ := jmp_g (s := 0) hf.1 hie hje w3 (by omega) hg g
  have gB := (blk.2.2.2.1 κF σF vr br hf heB A L (by omega) (by omega) (by omega) hg).1 gJ
  rw [iK, jK] at gB
  have w2 := own5 (κ := κ) (σ := σ) he (k := iC κc) (j := rJ σc) (by omega) (by omega) (by omega) (by omega) o2.1 o2.2.1 o2.2.2.1 o2.2.2.2 (by decide) (by decide)
  have gC := jin_g hf.1 hic hjc w2 (by omega) hg gB gB2
  have gE := ex.2.2.2 κF σF vr br hf heE A L 0 (Nat.le_refl _) hg gC
  have w1 := own5 (κ := κ) (σ := σ) he (k := iC κ) (j := rJ σ) (Nat.le_refl _) (by omega) (Nat.le_refl _) (by omega) o1.1 o1.2.1 o1.2.2.1 o1.2.2.2 (by decide) (by decide)
  rw [i1, j1] at gE
  exact step_g hf.1 (by omega) (by omega) w1 hg gE
end IFS
