/-! new, inject, resume, hand; unary expressions whole -/
section PL2
variable {X : Cx} {N b P : Nat} {κ : Km} {σ : Rm}
theorem md10 {x : Nat} (h : x < 1000000000) : nI x - nI x / 10 * 10 = nI (x % 10) := by
  rw [litI 10, pk_div (by omega) (by omega) (by omega), pk_mul, nI_sb (by omega)]
  congr 1
  omega
/-- behind the ( of new -/
theorem new_tail {m d1 t : Nat} (ht : t = pC κ + 1) (hnk : Nk N κ t) {κa : Km} {σa : Rm} {G : Int32 → Km → Prop} (hs : SpE X N b P m) (hb : Bdd κ σ) (hm : N + 1 - pC κ ≤ m + 1) (hd1 : dU (oC κ) ≤ d1 + 3) (hp0 : Ps κ σ N b P) (tpa : TP N b P κ σ κa σa) (w1 : pC κa = pC κ + 3) (w2 : oC κa = oC κ + 1) (w3 : iC κa = iC κ) (w4 : rJ σa = rJ σ) (w5 : rU σa = rU σ) (w6 : rA σa = rA σ) (w7 : rT σa = rT σ) (w8 : rC σa = rC σ) (w9 : rV σa = rV σ) (w10 : rK σa = rK σ) (w11 : rE σa = rE σ)
    (path : ∀ (d : Nat) (Q : Res → Rm → Prop), dU (oC κ) ≤ d + 1 → (∃ e5 : Nat, e5 + 1 ≤ d ∧ AC X 92 e5 MX13_isSign [vR 92, vI 41] σa (aRI fun y8 s9 => ((y8 = 0 → ∃ e11 : Nat, e11 + 1 ≤ d ∧ AC X 92 e11 MX13_readE [vR 92] s9 (aTV Q fun s14 => A X 92 d MX13_readP 372 [(0, vR 92), (2, vI (nI t)), (3, vI 1)] [] s14 Q)) ∧ (¬ y8 = 0 → A X 92 d MX13_readP 372 [(0, vR 92), (2, vI (nI t)), (3, vI 0)] [] s9 Q)))) → A X 92 d MX13_readP 0 [(0, vR 92)] [] σ Q)
    (q1 : ∀ κ', OkP X N b P κ σ κ' → G 1 κ') (q0 : ∀ κ', BadP X b κ σ κ' → G 0 κ') : KC' X d1 MX5_readValues [vR 77, vI (nI t), vI 23, vI 1] κa (kRI G) := by
  have bi := hb.i hp0
  have hp3 := hp0.p3
  have hpa3 := tpa.1.p3
  have ho3 : oC κa ≤ 24 := tpa.1.2.2.2.2.2.2.2.2.1
  have hb1 : Bdd κa σa := by
    obtain ⟨b1, b2, b3, b4, b5, b6, b7⟩ := hb
    unfold Bdd
    rw [w1, w2, w3, w4, w5, w6, w7, w8, w9]
    omega
  refine KC_of_K rfl (Nat.le_of_ble_eq_true rfl) rfl (k_5_readValues_0 _ _ _ ⟨fun c41 => k_5_readValues_20 _ _ _ _ _ (k_5_readValues_25 _ _ _ _ _ _ ⟨fun z => absurd z (by decide), fun _ => ⟨fun _ => ?_, fun z => absurd rfl z⟩⟩), fun c41 => k_5_readValues_20 _ _ _ _ _ (k_5_readValues_25 _ _ _ _ _ _ ⟨fun z => absurd z (by decide), fun _ => ⟨fun z => absurd z (by decide), fun _ => ?_⟩⟩)⟩)
  · -- no value
    refine k_5_readValues_90 _ _ _ _ _ _ ⟨fun _ => ⟨1, by simp only [dU] at hd1; omega, kc_takeClosing tpa.1 (by omega) (by decide) (by decide) (fun _ => ⟨fun z => absurd z (by decide), fun _ => ⟨fun _ => ⟨fun _ => ?_, fun z => absurd rfl z⟩, fun z => absurd rfl z⟩⟩) (fun z => absurd c41 z)⟩, fun z => absurd rfl z⟩
    have hlt3 : pC κa < N := tpa.1.n0 (c := 41) c41 (by omega) (by omega)
    obtain ⟨tc, v1, v2, v3, v4, v5, v6, v7, v8, v9, v10, v11⟩ := tpa.1.cl2 hlt3 (by omega)
    refine ⟨2, by simp only [dU] at hd1; omega, tc.1.add (by omega) (by unfold i8; decide) (fun κ3 ad0 => k_5_readValues_139 _ _ _ _ _ _ ?_)⟩
    obtain ⟨⟨p3, t3⟩, u1, u2, u3, u4, u5, u6, u7, u8, u9, u10, u11⟩ := tc.1.addC (by omega) ad0
    have e0 : 8 * nI t + 0 = nI (8 * t + 0) := by rw [litI 8, pk_mul, litI 0, nI_add]
    rw [e0]
    refine ⟨2, by simp only [dU] at hd1; omega, p3.add (by omega) (by unfold i8; decide) (fun κ4 ad => ⟨_, rfl, q1 κ4 ?_⟩)⟩
    have ej : rJ (clS κa σa) < 12000 := by omega
    have em1 := (tc.1.emit (x := 16) (y := 0) (z := nI 0) ej)
    have ea : rA (em (clS κa σa) 16 0 (nI 0)) < 1600 := by
      have := em1.2.2.2.2.2.2.1
      omega
    obtain ⟨ac, y1, y2, y3, y4, y5, y6, y7, y8, y9, y10, y11⟩ := act_new0 (B := 6 * oC κ + 3) tc.1 (by omega) (by omega) (by omega) (by omega) (hnk.tr (tpa.2.1.trans tc.2.1)) (by omega) ad0 ad
    refine ⟨_, (tpa.trans tc).es1 ac, ?_, fun d Q hd hq => path d Q hd ⟨0, by simp only [dU] at hd; omega, ac_isSign tpa.1 (by decide) (fun _ => ⟨fun z => absurd z (by decide), fun _ => a_readP_372 _ _ ⟨2, by simp only [dU] at hd; omega, ac_closes tpa.1 (by omega) (by decide) (fun _ => ⟨0, by simp only [dU] at hd; omega, ac_emit tc.1.2.2.2.2.2.2.2.2.2.2.2.1 ej ⟨0, by simp only [dU] at hd; omega, ac_asksFor em1.1.1.2.2.2.2.2.2.2.2.2.2.2.2.2.2.2.1 ea (a_readP_547 hq)⟩⟩) (fun z => absurd c41 z)⟩⟩) (fun z => absurd c41 z)⟩⟩
    unfold De
    rw [y1, y2, y3, y4, y5, y6, y7, y8, y9, y10, y11]
    omega
  · -- a value
    have sub := hs _ _ tpa.1 hb1 (by rw [w1]; omega)
    rw [w2] at sub
    refine ⟨_, by simp only [dU] at hd1 ⊢; omega, sub.k (fun κ3 σ3 hr ok => ⟨fun z => absurd z (by decide), fun _ => ⟨fun _ => k_5_readValues_69 _ _ _ _ _ _ (k_5_readValues_70 _ _ _ _ _ _ _ ⟨fun _ => k_5_readValues_84 _ _ _ _ _ _ (k_5_readValues_25 _ _ _ _ _ _ ⟨fun z => absurd z (by decide), fun _ => ⟨fun _ => ?_, fun z => absurd rfl z⟩⟩), fun z => absurd rfl z⟩), fun z => absurd (by decide) z⟩⟩) (fun κ3 σ3 hr bd => ⟨fun _ => ⟨_, rfl, q0 _ ⟨σ3, (bd.pre tpa.2.1).weak (by omega), fun d Q hd hq => path d Q hd ⟨0, by simp only [dU] at hd; omega, ac_isSign tpa.1 (by decide) (fun z => absurd z c41) (fun _ => ⟨fun _ => ⟨_, by simp only [dU] at hd ⊢; omega, acr_bad hr hq⟩, fun z => absurd rfl z⟩)⟩⟩⟩, fun z => absurd rfl z⟩)⟩
    obtain ⟨e3, dE⟩ := ok
    have eo3 : oC κ3 = oC κ + 1 := by have := dE.2.2.2.2.2.2.2.2.1; omega
    have b3 : iC κ3 ≤ 9010 ∧ rJ σ3 ≤ 9010 ∧ rA σ3 ≤ 1501 := by
      obtain ⟨b1, b2, b3, b4, b5, b6, b7⟩ := hb1
      obtain ⟨f1, f2, f3, f4, f5, f6, f7, f8, f9, f10, f11⟩ := dE
      have := e3.1.p3
      omega
    have e10 : (0 : Int32) + 1 = nI 1 := by decide
    rw [e10]
    refine k_5_readValues_90 _ _ _ _ _ _ ⟨fun _ => ⟨1, by simp only [dU] at hd1; omega, kc_takeClosing e3.1 (by omega) (by decide) (by decide) (fun c2 => ⟨fun z => absurd z (by decide), fun _ => ⟨fun _ => ⟨fun z => absurd z (by decide), fun _ => k_5_readValues_139 _ _ _ _ _ _ ?_⟩, fun z => absurd rfl z⟩⟩) (fun c2 => ⟨fun _ => ⟨_, rfl, q0 _ ⟨_, (Flt.at e3.1 (by omega)).pre (tpa.2.1.trans e3.2.1), fun d Q hd hq => path d Q hd ⟨0, by simp only [dU] at hd; omega, ac_isSign tpa.1 (by decide) (fun z => absurd z c41) (fun _ => ⟨fun _ => ⟨_, by simp only [dU] at hd ⊢; omega, acr_ok hr (a_readP_372 _ _ ⟨2, by simp only [dU] at hd; omega, ac_closes e3.1 (by omega) (by decide) (fun z => absurd z c2) (fun _ => hq)⟩)⟩, fun z => absurd rfl z⟩)⟩⟩⟩, fun z => absurd rfl z⟩)⟩, fun z => absurd rfl z⟩
    have hlt3 : pC κ3 < N := e3.1.n0 (c := 41) c2 (by omega) (by omega)
    obtain ⟨tc, v1, v2, v3, v4, v5, v6, v7, v8, v9, v10, v11⟩ := e3.1.cl2 hlt3 (by omega)
    have e0 : 8 * nI t + nI 1 = nI (8 * t + 1) := by rw [litI 8, pk_mul, nI_add]
    rw [e0]
    refine ⟨2, by simp only [dU] at hd1; omega, tc.1.add (by omega) (by unfold i8; decide) (fun κ4 ad => ⟨_, rfl, q1 κ4 ?_⟩)⟩
    have ej : rJ (clS κ3 σ3) < 12000 := by omega
    have em1 := (tc.1.emit (x := 16) (y := 0) (z := nI 1) ej)
    have ea : rA (em (clS κ3 σ3) 16 0 (nI 1)) < 1600 := by
      have := em1.2.2.2.2.2.2.1
      omega
    have ac := act_new1 (B := 6 * oC κ + 3) (t := t) tc.1 (by omega) (by omega) (by omega) (by omega) (hnk.tr (tpa.2.1.trans (e3.2.1.trans tc.2.1))) (by omega) ad
    obtain ⟨-, -, y1, y2, y3, y4, y5, y6, y7, y8, y9, y10, y11⟩ := act_ask (op' := 16) (m := 1) (t := t) tc.1 (by omega) (by omega) (by omega) ad
    refine ⟨_, (tpa.es1 (e3.weak (by omega))).trans (tc.es.trans ac.two), ?_, fun d Q hd hq => path d Q hd ⟨0, by simp only [dU] at hd; omega, ac_isSign tpa.1 (by decide) (fun z => absurd z c41) (fun _ => ⟨fun _ => ⟨_, by simp only [dU] at hd ⊢; omega, acr_ok hr (a_readP_372 _ _ ⟨2, by simp only [dU] at hd; omega, ac_closes e3.1 (by omega) (by decide) (fun _ => ⟨0, by simp only [dU] at hd; omega, ac_emit tc.1.2.2.2.2.2.2.2.2.2.2.2.1 ej ⟨0, by simp only [dU] at hd; omega, ac_asksFor em1.1.1.2.2.2.2.2.2.2.2.2.2.2.2.2.2.2.1 ea (a_readP_547 hq)⟩⟩) (fun z => absurd c2 z)⟩)⟩, fun z => absurd rfl z⟩)⟩⟩
    obtain ⟨f1, f2, f3, f4, f5, f6, f7, f8, f9, f10, f11⟩ := dE
    unfold De
    rw [y1, y2, y3, y4, y5, y6, y7, y8, y9, y10, y11]
    omega
theorem new_core {m d0 : Nat} {F : Int32 → Km → Prop} (hs : SpE X N b P m) (h : Ps κ σ N b P) (hb : Bdd κ σ) (hm : N + 1 - pC κ ≤ m + 1) (hc : kI κ 72 7 = 212) (hd0 : dU (oC κ) ≤ d0 + 2) (q1 : ∀ κ', OkP X N b P κ σ κ' → F 1 κ') (q0 : ∀ κ', BadP X b κ σ κ' → F 0 κ') : KC' X d0 MX5_readNew [vR 77] κ (kRI F) := by
  have ho2 : oC κ ≤ 24 := h.2.2.2.2.2.2.2.2.1
  have bi := hb.i h
  have hp3 := h.p3
  have hlt : pC κ < N := h.n0 (c := 212) hc (by omega) (by omega)
  obtain ⟨p1, t1, n1, n2, n3, n4, n5, n6, n7, n8, n9, n10, n11⟩ := h.next hlt
  have tp1 := h.tp hlt
  refine KC_of_K rfl (Nat.le_of_ble_eq_true rfl) rfl (k_5_readNew_0 ⟨0, by simp only [dU] at hd0; omega, kc_nextP h hlt ⟨1, by simp only [dU] at hd0; omega, kc_isName (fun c => ⟨fun z => absurd z (by decide), fun _ => ?_⟩) (fun c => ⟨fun _ => ⟨_, rfl, q0 _ ⟨_, (Flt.at' (k := 8) p1 (by omega) (by omega)).pre t1, fun d Q hd hq => rp_new h hd hc (by
      rintro s1 rfl
      rw [wS_at h]
      exact ⟨1, by simp only [dU] at hd; omega, ac_mustName p1 (fun z => absurd (c.symm.trans z) (by decide)) (fun _ => hq) (fun _ z => absurd c z)⟩)⟩⟩, fun z => absurd rfl z⟩) (fun c c5 => ⟨fun _ => ⟨_, rfl, q0 _ ⟨_, (Flt.at p1 (by omega)).pre t1, fun d Q hd hq => rp_new h hd hc (by
      rintro s1 rfl
      rw [wS_at h]
      exact ⟨1, by simp only [dU] at hd; omega, ac_mustName p1 (fun z => absurd z c) (fun z => absurd z c5) (fun _ _ => hq)⟩)⟩⟩, fun z => absurd rfl z⟩)⟩⟩)
  have hlt1 : pC (setC κ (pC κ + 1)) < N := p1.n0 (c := 2) c (by omega) (by omega)
  obtain ⟨p2, t2, m1, m2, m3, m4, m5, m6, m7, m8, m9, m10, m11⟩ := p1.next hlt1
  have tp2 := p1.tp hlt1
  have hnk : Nk N κ (pC (setC κ (pC κ + 1))) := ⟨p1.2.2.2.2.2.1, by
    have e := p1.2.2.1
    rw [c, setC_ne (h := 74) (by decide)] at e
    exact e.symm⟩
  have pathN : ∀ (d : Nat) (Q : Res → Rm → Prop), dU (oC κ) ≤ d + 1 → (∃ e130 : Nat, e130 + 1 ≤ d ∧ AC X 92 e130 MX13_isSign [vR 92, vI 40] (wS (wS σ 10 (nI (pC κ + 1))) 10 (nI (pC (setC κ (pC κ + 1)) + 1))) (aRI fun y133 s134 => ((y133 = 0 → (vp_in (sI s134 10) 3002) ∧ ∃ e137 : Nat, e137 + 1 ≤ d ∧ AC X 92 e137 MX13_fail [vR 92, vI (aI s134 6 ((sI s134 10) : Int32).toNatClampNeg)] s134 (aTV Q fun s140 => A X 92 d MX13_readP 351 [(0, vR 92), (2, vI (nI (pC (setC κ (pC κ + 1)))))] [] s140 Q)) ∧ (¬ y133 = 0 → A X 92 d MX13_readP 351 [(0, vR 92), (2, vI (nI (pC (setC κ (pC κ + 1)))))] [] s134 Q)))) → A X 92 d MX13_readP 0 [(0, vR 92)] [] σ Q := fun d Q hd hA => rp_new h hd hc (by
      rintro s1 rfl
      rw [wS_at h]
      exact ⟨1, by simp only [dU] at hd; omega, ac_mustName p1 (fun _ => hA) (fun z => absurd (c.symm.trans z) (by decide)) (fun z => absurd c z)⟩)
  have bad : ∀ (κ' : Km), F 0 κ' → K X d0 MX5_readNew 55 [(0, vR 77), (1, vI (nI (pC (setC κ (pC κ + 1)))))] [] κ' (kRI F) := fun κ' hF => k_5_readNew_55 _ (k_5_readNew_56 _ _ ⟨Or.inl rfl, _, rfl, hF⟩)
  have hp23 := p2.p3
  refine ⟨0, by simp only [dU] at hd0; omega, kc_index p1 ⟨0, by simp only [dU] at hd0; omega, kc_nextP p1 hlt1 ⟨1, by simp only [dU] at hd0; omega, kc_takeOpening p2 (by decide) (by decide) (fun c40 o1 => ⟨fun z => absurd z (by decide), fun _ => ?_⟩) (fun o1 => ⟨fun _ => bad _ (q0 _ ⟨_, ((Flt.at p2 (by omega)).pre t2).pre t1, fun d Q hd hq => pathN d Q hd ⟨0, by simp only [dU] at hd; omega, ac_isSign p2 (by decide) (fun c40 => ⟨fun z => absurd z (by decide), fun _ => a_readP_351 _ ⟨1, by simp only [dU] at hd; omega, ac_opens p2 (fun z => absurd ⟨c40, z⟩ o1) (fun _ => hq)⟩⟩) (fun c40 => ⟨fun _ => ?_, fun z => absurd rfl z⟩)⟩⟩), fun z => absurd rfl z⟩)⟩⟩⟩
  · have hlt2 : pC (setC (setC κ (pC κ + 1)) (pC (setC κ (pC κ + 1)) + 1)) < N := p2.n0 (c := 40) c40 (by omega) (by omega)
    obtain ⟨tp, w1, w2, w3, w4, w5, w6, w7, w8, w9, w10, w11⟩ := p2.op2 hlt2 o1
    have tpa := (tp1.trans tp2).trans tp
    have good : ∀ κ', OkP X N b P κ σ κ' → K X d0 MX5_readNew 56 [(0, vR 77), (1, vI (nI (pC (setC κ (pC κ + 1)))))] [vI 1] κ' (kRI F) := fun κ' ok => k_5_readNew_56 _ _ ⟨Or.inr rfl, _, rfl, q1 κ' ok⟩
    have ho3 := tp.1.2.2.2.2.2.2.2.2.1
    -- the reference, up to what stands behind the (
    have path : ∀ (d : Nat) (Q : Res → Rm → Prop), dU (oC κ) ≤ d + 1 → (∃ e5 : Nat, e5 + 1 ≤ d ∧ AC X 92 e5 MX13_isSign [vR 92, vI 41] (opS (setC (setC κ (pC κ + 1)) (pC (setC κ (pC κ + 1)) + 1)) (wS (wS σ 10 (nI (pC κ + 1))) 10 (nI (pC (setC κ (pC κ + 1)) + 1)))) (aRI fun y8 s9 => ((y8 = 0 → ∃ e11 : Nat, e11 + 1 ≤ d ∧ AC X 92 e11 MX13_readE [vR 92] s9 (aTV Q fun s14 => A X 92 d MX13_readP 372 [(0, vR 92), (2, vI (nI (pC (setC κ (pC κ + 1))))), (3, vI 1)] [] s14 Q)) ∧ (¬ y8 = 0 → A X 92 d MX13_readP 372 [(0, vR 92), (2, vI (nI (pC (setC κ (pC κ + 1))))), (3, vI 0)] [] s9 Q)))) → A X 92 d MX13_readP 0 [(0, vR 92)] [] σ Q := fun d Q hd hA => pathN d Q hd ⟨0, by simp only [dU] at hd; omega, ac_isSign p2 (by decide) (fun _ => ⟨fun z => absurd z (by decide), fun _ => a_readP_351 _ ⟨1, by simp only [dU] at hd; omega, ac_opens p2 (fun _ => hA) (fun z => absurd o1 z)⟩⟩) (fun z => absurd c40 z)⟩
    refine ⟨d0 - 1, by simp only [dU] at hd0; omega, ?_⟩
    exact new_tail (X := X) (d1 := d0 - 1) n1 hnk (G := fun y κ6 => ((y = 0 → K X d0 MX5_readNew 55 [(0, vR 77), (1, vI (nI (pC (setC κ (pC κ + 1)))))] [] κ6 (kRI F)) ∧ (¬ y = 0 → K X d0 MX5_readNew 56 [(0, vR 77), (1, vI (nI (pC (setC κ (pC κ + 1)))))] [vI 1] κ6 (kRI F)))) hs hb hm (by simp only [dU] at hd0 ⊢; omega) h tpa (by unfold opK at w1; omega) (by unfold opK at w2; omega) (by unfold opK at w3; omega) (by omega) (by omega) (by omega) (by omega) (by omega) (by omega) (by omega) (by omega) path (fun κ' ok => ⟨fun z => absurd z (by decide), fun _ => good κ' ok⟩) (fun κ' bd => ⟨fun _ => bad κ' (q0 _ bd), fun z => absurd rfl z⟩)
  · obtain ⟨f, t, g1, g2, -⟩ := p2.tok
    rw [p2.2.2.2.2.1, vpn (by omega), cl_nI (by omega), g2, ← g1]
    exact ⟨by omega, 0, by simp only [dU] at hd; omega, ac_failT hq⟩
end PL2
