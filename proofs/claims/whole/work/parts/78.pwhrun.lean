/-! while: both run -/
section WHR
variable {X : Cx} {N b P : Nat} {κ κ1 : Km} {σ : Rm}
theorem while_core {m d0 : Nat} {F : Int32 → Km → Prop} (hE : SpE X N b P m) (hB : SpB X N b P m) (h : Ps κ σ N b P) (hb : Bds κ σ) (hm : N + 1 - pC κ ≤ m + 1) (ad : AdC κ κ1 20 (kI κ 72 8)) (hd0 : dS (oC κ) + 5 ≤ d0) (hc : kI κ1 72 7 = 204) (q1 : ∀ κ', OkS X N b P κ σ κ' → F 1 κ') (q0 : ∀ κ', BadS X b κ σ κ' → F 0 κ') : KC' X d0 MX5_readWhile [vR 77, vI (kI κ 72 8)] κ1 (kRI F) := by
  have ho2 : oC κ ≤ 24 := h.2.2.2.2.2.2.2.2.1
  have bi := hb.1.i h
  have hp0 := h.p3
  have hj : rJ σ < 12000 := by omega
  have hb' := hb
  obtain ⟨⟨b1, b2, b3, b4, b5, b6, b7⟩, b8, b9, b10⟩ := hb
  obtain ⟨p1, t1, w1, w2, w3, w4, w5, w6, w7, w8, w9, w10, w11⟩ := act_pair (op := 0) (y := kI κ 72 8) (z := 0) h (by omega) (by omega) ad
  have hlt := p1.n0 (c := 204) hc (by omega) (by omega)
  obtain ⟨p2, t2, m1, m2, m3, m4, m5, m6, m7, m8, m9, m10, m11⟩ := p1.next hlt
  have tp := p1.tp hlt
  have hbe : Bdd _ _ := bds_e (κa := setC κ1 (pC κ1 + 1)) (σa := wS (em σ 0 (kI κ 72 8) 0) 10 (nI (pC κ1 + 1))) hb' (by omega) (by omega) (by omega) (by omega) (by omega) (by omega) (by omega) (by omega) (by omega)
  -- own rows of STEP
  have st := em_at (σ := σ) (x := 0) (y := kI κ 72 8) (z := 0)
  refine KC_of_K rfl (Nat.le_of_ble_eq_true rfl) rfl (k_5_readWhile_0 _ ⟨0, by simp only [dS] at hd0; omega, kc_nextP p1 hlt ⟨0, by simp only [dS] at hd0; omega, kc_csize p2 ⟨d0 - 1, by simp only [dS] at hd0; omega, test_core hE p2 hbe (by omega) (by rw [m2, w2]; simp only [dS, dU] at hd0 ⊢; omega) (fun κc σc es de ref => ⟨fun z => absurd z (by decide), fun _ => ?_⟩) (fun κc σc fl ref => ⟨fun _ => ⟨_, rfl, q0 _ ⟨σc, (fl.pre (t1.trans t2)).weak (by omega), fun d Q hd hq => rs_while h hj p1 (by simp only [dS] at hd; omega) hc (by
    rintro s1 rfl
    rw [wS_at p1]
    exact ⟨d - 1, by simp only [dS] at hd; omega, acr_bad (ref (d - 1) (by rw [m2, w2]; simp only [dS, dU] at hd ⊢; omega)) hq⟩)⟩⟩, fun z => absurd rfl z⟩)⟩⟩⟩)
  rw [m3]
  rw [m2, w2] at ref
  obtain ⟨f1, f2, f3, f4, f5, f6, f7, f8, f9, f10, f11⟩ := de
  have ex : ES1 N b P 0 0 1 κ1 (em σ 0 (kI κ 72 8) 0) κc σc := tp.es1 (es.weak (by omega))
  have hpc := es.1.p3
  refine ⟨2, by simp only [dS] at hd0; omega, es.1.add (by omega) (by unfold i8; decide) (fun κk adk => ?_)⟩
  obtain ⟨pk, tk, n1, n2, n3, n4, n5, n6, n7, n8, n9, n10, n11⟩ := act_pair (op := 24) (y := 0) (z := 0) es.1 (by omega) (by omega) adk
  have sk := em_at (σ := σc) (x := 24) (y := 0) (z := 0)
  have hbk : Bdb κk (em σc 24 0 0) := by
    unfold Bdb
    omega
  have sub := hB _ _ pk hbk (by omega)
  have ok1 : oC κk = oC κ := by omega
  rw [ok1] at sub
  have s17a : sI (wS (em σ 0 (kI κ 72 8) 0) 10 (nI (pC κ1 + 1))) 17 = nI (rJ (em σ 0 (kI κ 72 8) 0)) := by rw [sI_ne (by decide)]; exact p1.2.2.2.2.2.2.2.2.2.2.2.1
  have pathK : ∀ (d : Nat) (Q : Res → Rm → Prop), dS (oC κ) + 19 ≤ d → (∃ e155 : Nat, e155 + 1 ≤ d ∧ AC X 92 e155 MX13_readBlock [vR 92] (em σc 24 0 0) (aTV Q fun s158 => ∃ e159 : Nat, e159 + 1 ≤ d ∧ AC X 92 e159 MX13_emit [vR 92, vI 0, vI (kI κ 72 8), vI 0] s158 (aRI fun _ s163 => ∃ e164 : Nat, e164 + 1 ≤ d ∧ AC X 92 e164 MX13_emit [vR 92, vI 23, vI (nI (rJ (em σ 0 (kI κ 72 8) 0))), vI 0] s163 (aRI fun y167 s168 => (vp_in (nI (rJ σc)) 12000) ∧ ∀ s170 : Rm, s170 = wI s168 14 ((nI (rJ σc) : Int32).toNatClampNeg) (sI s168 17) → A X 92 d MX13_readStatement 526 [(0, vR 92), (1, vI (kI κ 72 8)), (2, vI y167)] [] s170 Q)))) → A X 92 d MX13_readStatement 0 [(0, vR 92)] [] σ Q := fun d Q hd hA => rs_while h hj p1 (by simp only [dS] at hd; omega) hc (by
    rintro s1 rfl
    rw [wS_at p1, s17a]
    exact ⟨d - 1, by simp only [dS] at hd; omega, acr_ok (ref (d - 1) (by simp only [dS, dU] at hd ⊢; omega)) ⟨0, by simp only [dS] at hd; omega, ac_emit es.1.2.2.2.2.2.2.2.2.2.2.2.1 (by omega) hA⟩⟩)
  refine ⟨_, by simp only [dS] at hd0 ⊢; omega, sub.k (fun κb σb hr okb => ⟨fun z => absurd z (by decide), fun _ => ?_⟩) (fun κb σb hr bd => ⟨fun _ => ⟨_, rfl, q0 _ ⟨σb, bd.pre ((t1.trans ex.2.1).trans tk), fun d Q hd hq => pathK d Q hd ⟨_, by simp only [dS] at hd ⊢; omega, acr_bad hr hq⟩⟩⟩, fun z => absurd rfl z⟩)⟩
  obtain ⟨blk, hp2, hi6, hj6⟩ := okb
  have blk' := blk
  obtain ⟨pb, tb, cb, sb, g1, g2, g3, g4, g5, g6, g7, g8, g9, g10, g11⟩ := blk
  have hpb := pb.p3
  have tA : Tr b κ σ κc σc := t1.trans ex.2.1
  have lE : iC κ1 ≤ iC κc := ex.2.1.2.2.1.1
  have lE2 : rJ (em σ 0 (kI κ 72 8) 0) ≤ rJ σc := ex.2.1.2.2.1.2.1
  have lB : iC κk ≤ iC κb := tb.2.2.1.1
  have lB2 : rJ (em σc 24 0 0) ≤ rJ σb := tb.2.2.1.2.1
  have lB3 : rT (em σc 24 0 0) ≤ rT σb := tb.2.2.1.2.2.1
  have lB4 : rC (em σc 24 0 0) ≤ rC σb := tb.2.2.1.2.2.2.1
  have hi3 : iC κb ≤ 9010 ∧ rJ σb ≤ 9010 ∧ rT σb ≤ 999 := by omega
  have hNb : N + 1 - pC κb ≤ m := nbl hm (Nat.lt_of_lt_of_le (by rw [← w1, n1]; exact Nat.lt_of_lt_of_le (by rw [m1] at f1; exact Nat.lt_of_succ_lt f1) (Nat.le_add_right _ 2)) hp2)
  -- the rows of STEP and of the test, behind the block
  have rS : kI κb 69 (iC κ) = 20 ∧ kI κb 70 (iC κ) = kI κ 72 8 ∧ aI σb 13 (rJ σ) = 0 ∧ aI σb 14 (rJ σ) = kI κ 72 8 := by
    have e1 := tb.2.2.1.2.2.2.2.2.2.1 (iC κ) (by omega)
    have e2 := add_old adk (k := iC κ) (by omega)
    have e3 := ex.2.1.2.2.1.2.2.2.2.2.2.1 (iC κ) (by omega)
    have r1 := tb.2.2.1.2.2.2.2.2.2.2.1 (rJ σ) (by omega)
    have r2 := em_ne (σ := σc) (x := 24) (y := 0) (z := 0) (q := rJ σ) (by omega)
    have r3 := ex.2.1.2.2.1.2.2.2.2.2.2.2.1 (rJ σ) (by omega)
    exact ⟨e1.1.trans (e2.1.trans (e3.1.trans ad.2.1)), e1.2.trans (e2.2.trans (e3.2.trans ad.2.2.1)), r1.1.trans (r2.1.trans (r3.1.trans st.1)), r1.2.1.trans (r2.2.1.trans (r3.2.1.trans st.2.1))⟩
  have rC1 : kI κb 69 (iC κc) = 16 ∧ aI σb 13 (rJ σc) = 24 := by
    have e1 := tb.2.2.1.2.2.2.2.2.2.1 (iC κc) (by omega)
    have r1 := tb.2.2.1.2.2.2.2.2.2.2.1 (rJ σc) (by omega)
    exact ⟨e1.1.trans adk.2.1, r1.1.trans sk.1⟩
  have agE : Agr κ1 (em σ 0 (kI κ 72 8) 0) κc σc κb σb := Agr.step (tk.trans tb)
  have agB : Agr κk (em σc 24 0 0) κb σb κb σb := Agr.refl
  have bel : Bel κ σ κb σb := Agr.step (tA.trans (tk.trans tb))
  have tAll : T0 b κ σ κb σb := (tA.trans (tk.trans tb)).t0
  have usB := pre_us (κ1 := κ1) (σ1 := em σ 0 (kI κ 72 8) 0) (κk := κk) (σk := em σc 24 0 0) w3 (by omega) w5 w6 ex.2.2.1.2 ex.2.1 (tk.trans tb) n3 (by omega) n5 n6 (by omega) blk' rS.1 rC1.1 (by decide)
  exact while_end (F := fun y κ' => kRI F (.inl (some (vI y))) κ') h hd0 (by omega) (by omega) (by omega) (by omega) (by omega) (by omega) (by omega) (by omega) (by omega) (by omega) (by omega) (by omega) (by omega) (by omega) (by omega) hi3 ⟨by omega, by omega⟩ pb t1 w3 w4 ex n3 n4 tk ok1 (by omega) (by omega) blk' ⟨by omega, by omega, by show rT σc = rT (em σ 0 (kI κ 72 8) 0); omega⟩ rS rC1 agE bel tAll (tk.trans tb).t0 usB (fun d Q hd hA => pathK d Q hd ⟨_, by simp only [dS] at hd ⊢; omega, acr_ok hr hA⟩) (fun κ' ok => ⟨_, rfl, q1 κ' ok⟩)
end WHR
