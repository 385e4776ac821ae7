/-! return, throw -/
section RET
variable {X : Cx} {N b P : Nat} {κ κ1 κ2 : Km} {σ σ2 : Rm}
theorem late_tail {d0 : Nat} {a x op y z : Int32} {F : Int32 → Km → Prop} (h : Ps κ σ N b P) (hb : Bds κ σ) (ad : AdC κ κ1 20 (kI κ 72 8)) (ex : ES N b P 0 0 1 κ1 (sg κ σ) κ2 σ2) (hp : pC κ + 1 ≤ pC κ2) (i2 : iC κ2 + 2 ≤ iC κ + 3 * (pC κ2 - pC κ) + 2) (j2 : rJ σ2 ≤ rJ σ + 3 * (pC κ2 - pC κ)) (o2 : oC κ2 = oC κ) (u2 : 2 * rU σ2 ≤ 2 * rU σ + (pC κ2 - pC κ) + 1) (a2 : 2 * rA σ2 ≤ 2 * rA σ + (pC κ2 - pC κ) + 1) (t2 : rT σ2 = rT σ) (c2 : rC σ2 = rC σ) (k2 : rK σ2 = rK σ) (e2 : rE σ2 = rE σ) (v2 : rV σ2 = rV σ) (ha : i8 a) (hna : a ≠ 2 ∧ a ≠ 3 ∧ a ≠ 23 ∧ a ≠ 24) (hd0 : dS (oC κ) ≤ d0)
    (cl : ∀ (κF : Km) (σF : Rm), kI κF 69 (iC κ2) = a → (a ≠ 2 → a ≠ 3 → a ≠ 23 → a ≠ 24 → kI κF 70 (iC κ2) = x) → aI σF 13 (rJ σ2) = op → aI σF 15 (rJ σ2) = z → (op ≠ 2 → op ≠ 16 → op ≠ 20 → aI σF 14 (rJ σ2) = y) → ∀ (W : Pt → Prop) (L : List Itm), ccn L = rK σ2 → Cl κF σF W b (iC κ2) (rJ σ2) L 1 1)
    (path : ∀ (d : Nat) (Q : Res → Rm → Prop), dS (oC κ) + 19 ≤ d → (∃ e5 : Nat, e5 + 1 ≤ d ∧ AC X 92 e5 MX13_mustSign [vR 92, vI 59] σ2 (aTV Q fun s8 => ∃ e9 : Nat, e9 + 1 ≤ d ∧ AC X 92 e9 MX13_emit [vR 92, vI op, vI y, vI (if op = 25 then sI s8 35 - 1 else z)] s8 (aRI fun y12 s13 => A X 92 d MX13_readStatement 526 [(0, vR 92), (1, vI (kI κ 72 8)), (2, vI y12)] [] s13 Q))) → A X 92 d MX13_readStatement 0 [(0, vR 92)] [] σ Q) (hz : op = 25 → sI σ2 35 - 1 = z)
    (q1 : ∀ κ', OkS X N b P κ σ κ' → F 1 κ') (q0 : ∀ κ', BadS X b κ σ κ' → F 0 κ') : ∃ e1 : Nat, e1 + 1 ≤ d0 ∧ KC' X e1 MX1_add [vR 68, vI a, vI x] κ2 (kRI fun _ κ5 => ∃ e7 : Nat, e7 + 1 ≤ d0 ∧ KC' X e7 MX5_take [vR 77, vI 59] κ5 (kRI fun y10 κ11 => (y10 = 0 ∨ y10 = 1) ∧ F y10 κ11)) := by
  have ho2 : oC κ ≤ 24 := h.2.2.2.2.2.2.2.2.1
  have bi := hb.1.i h
  have hp2 := ex.1.p3
  have bb : iC κ2 ≤ 9010 ∧ rJ σ2 ≤ 9010 := by
    obtain ⟨⟨b1, b2, b3, b4, b5, b6, b7⟩, b8, b9⟩ := hb
    omega
  obtain ⟨p1, t1, n1, n2, n3, n4, n5, n6, n7, n8, n9, n10, n11⟩ := act_pair (op := 0) (y := kI κ 72 8) (z := 0) h (by omega) (by omega) ad
  refine ⟨2, by simp only [dS] at hd0; omega, ex.1.add (by omega) ha (fun κ3 ad3 => ?_)⟩
  obtain ⟨⟨p3, t3⟩, m1, m2, m3, m4, m5, m6, m7, m8, m9, m10, m11⟩ := ex.1.addC (by omega) ad3
  have c72 : kI κ3 72 = kI κ2 72 := (ad3.2.2.2.2.2.1.1 72 (by decide)).1
  refine ⟨1, by simp only [dS] at hd0; omega, kc_take p3 (c := 59) (by decide) (by decide) (fun c => ⟨Or.inr rfl, q1 _ ?_⟩) (fun c => ⟨Or.inl rfl, q0 _ ⟨_, ((Flt.at p3 (by omega)).pre t3).pre (t1.trans ex.2.1), fun d Q hd hq => path d Q hd ⟨1, by simp only [dS] at hd; omega, ac_mustSign ex.1 (by decide) (fun z => absurd z (by rw [← c72]; exact c)) (fun _ => by rw [← c72]; exact hq)⟩⟩⟩)⟩
  have hlt := p3.n0 (c := 59) c (by omega) (by omega)
  obtain ⟨p4, t4, w1, w2, w3, w4, w5, w6, w7, w8, w9, w10, w11⟩ := p3.next hlt
  rw [m1] at p4 t4 w1 w2 w3 w4 w5 w6 w7 w8 w9 w10 w11
  have hj4 : rJ (wS σ2 10 (nI (pC κ2 + 1))) < 12000 := by omega
  obtain ⟨⟨p5, t5⟩, v1, v2', v3, v4, v5, v6, v7, v8, v9, v10, v11⟩ := p4.emit (x := op) (y := y) (z := z) hj4
  have mm := em_at (σ := wS σ2 10 (nI (pC κ2 + 1))) (x := op) (y := y) (z := z)
  rw [w4] at mm
  have k1 : kI (setC κ3 (pC κ2 + 1)) 69 (iC κ2) = a := by rw [setC_ne (by decide)]; exact ad3.2.1
  have k2' : kI (setC κ3 (pC κ2 + 1)) 70 (iC κ2) = x := by rw [setC_ne (by decide)]; exact ad3.2.2.1
  have fa : FA b κ2 σ2 (setC κ3 (pC κ2 + 1)) (em (wS σ2 10 (nI (pC κ2 + 1))) op y z) := FA.of (a := a) (x := x) (op := op) (y := y) (z := z) (by omega) (by omega) (by omega) (by omega) k1 k2' mm.1 mm.2.1 mm.2.2.1 (fun κF σF vr br _ _ g1 g2 g3 g4 g5 W L hl _ => cl κF σF g1 g2 g3 g4 g5 W L hl)
  have tt := t3.trans (t4.trans t5)
  rw [m1]
  have usx := one_us ad n3 n4 n5 n6 ex tt (by omega) (by omega) (by omega) k1 (Or.inl ⟨hna.1, hna.2.1, hna.2.2.1, hna.2.2.2, by omega⟩)
  refine ⟨_, ⟨p5, (t1.trans ex.2.1).trans tt, ⟨Tc.same (by omega), usx⟩, st_expr h (by omega) (by omega) ad ex tt (Tc.same (by omega)) (by omega) (by omega) fa, ?_⟩, by omega, fun d Q hd hq => path d Q hd ⟨1, by simp only [dS] at hd; omega, ac_mustSign ex.1 (by decide) (fun _ => ⟨0, by simp only [dS] at hd; omega, ?_⟩) (fun z => absurd (by rw [← c72]; exact c) z)⟩⟩
  · unfold Ds
    rw [v1, v2', v3, v4, v5, v6, v7, v8, v9, v10, v11]
    omega
  · have ez : (if op = 25 then sI (wS σ2 10 (nI (pC κ2 + 1))) 35 - 1 else z) = z := by
      by_cases co : op = 25
      · rw [if_pos co, sI_ne (by decide)]; exact hz co
      · rw [if_neg co]
    rw [ez]
    exact ac_emit p4.2.2.2.2.2.2.2.2.2.2.2.1 hj4 (a_readStatement_526 _ _ hq)
theorem bds_e {κa : Km} {σa : Rm} (hb : Bds κ σ) (g1 : pC κ + 1 ≤ pC κa) (g2 : oC κa = oC κ) (g3 : iC κa = iC κ + 1) (g4 : rJ σa = rJ σ + 1) (g5 : rU σa = rU σ) (g6 : rA σa = rA σ) (g7 : rT σa = rT σ) (g8 : rC σa = rC σ) (g9 : rV σa = rV σ) : Bdd κa σa := by
  obtain ⟨⟨b1, b2, b3, b4, b5, b6, b7⟩, b8, b9⟩ := hb
  unfold Bdd
  omega
theorem return_core {m d0 : Nat} {F : Int32 → Km → Prop} (hE : SpE X N b P m) (h : Ps κ σ N b P) (hb : Bds κ σ) (hm : N + 1 - pC κ ≤ m) (ad : AdC κ κ1 20 (kI κ 72 8)) (hd0 : dS (oC κ) ≤ d0) (hc : kI κ1 72 7 = 209) (q1 : ∀ κ', OkS X N b P κ σ κ' → F 1 κ') (q0 : ∀ κ', BadS X b κ σ κ' → F 0 κ') : KC' X d0 MX5_readReturn [vR 77] κ1 (kRI F) := by
  have ho2 : oC κ ≤ 24 := h.2.2.2.2.2.2.2.2.1
  have bi := hb.1.i h
  have hj : rJ σ < 12000 := by omega
  obtain ⟨p1, t1, w1, w2, w3, w4, w5, w6, w7, w8, w9, w10, w11⟩ := act_pair (op := 0) (y := kI κ 72 8) (z := 0) h (by omega) (by omega) ad
  have hlt := p1.n0 (c := 209) hc (by omega) (by omega)
  obtain ⟨p2, t2, m1, m2, m3, m4, m5, m6, m7, m8, m9, m10, m11⟩ := p1.next hlt
  have tp := p1.tp hlt
  have hp2 := p2.p3
  have cl : ∀ (i j : Nat) (κF : Km) (σF : Rm), kI κF 69 i = 46 → aI σF 13 j = 26 → ∀ (W : Pt → Prop) (L : List Itm), Cl κF σF W b i j L 1 1 := fun i j κF σF g1 g3 W L => Or.inr (Or.inr (Or.inr (Or.inr (Or.inr (Or.inr (Or.inr (Or.inr (Or.inr (Or.inr (Or.inr (Or.inr (Or.inr (Or.inr (Or.inr (Or.inr (Or.inr (Or.inr (Or.inr (Or.inr (Or.inr (Or.inl ⟨rfl, rfl, g1, g3⟩)))))))))))))))))))))
  have pth : ∀ (d : Nat) (Q : Res → Rm → Prop), dS (oC κ) + 19 ≤ d → (∃ e111 : Nat, e111 + 1 ≤ d ∧ AC X 92 e111 MX13_isSign [vR 92, vI 59] (wS (sg κ σ) 10 (nI (pC κ1 + 1))) (aRI fun y114 s115 => ((y114 = 0 → ∃ e117 : Nat, e117 + 1 ≤ d ∧ AC X 92 e117 MX13_readE [vR 92] s115 (aTV Q fun s120 => A X 92 d MX13_readStatement 335 [(0, vR 92), (1, vI (kI κ 72 8)), (2, vI (nI (rJ σ)))] [] s120 Q)) ∧ (¬ y114 = 0 → ∃ e121 : Nat, e121 + 1 ≤ d ∧ AC X 92 e121 MX13_emit [vR 92, vI 1, vI 0, vI 0] s115 (aRI fun y124 s125 => A X 92 d MX13_readStatement 335 [(0, vR 92), (1, vI (kI κ 72 8)), (2, vI y124)] [] s125 Q))))) → A X 92 d MX13_readStatement 0 [(0, vR 92)] [] σ Q := fun d Q hd hA => rs_return h hj p1 (by simp only [dS] at hd; omega) hc (by
    rintro s1 rfl
    rw [wS_at p1]
    exact hA)
  refine KC_of_K rfl (Nat.le_of_ble_eq_true rfl) rfl (k_5_readReturn_0 ⟨0, by simp only [dS] at hd0; omega, kc_nextP p1 hlt ⟨fun c => ?_, fun c => ?_⟩⟩)
  · refine ⟨2, by simp only [dS] at hd0; omega, p2.add (by omega) (by unfold i8; decide) (fun κ3 ad3 => k_5_readReturn_41 ?_)⟩
    have ac := act_const (B := 0) (z := 0) p2 (by omega) (by omega) (by omega) ad3
    obtain ⟨-, -, v1, v2, v3, v4, v5, v6, v7, v8, v9, v10, v11⟩ := act_pair (op := 1) (y := 0) (z := 0) p2 (by omega) (by omega) ad3
    have hjj : rJ (wS (em σ 0 (kI κ 72 8) 0) 10 (nI (pC κ1 + 1))) < 12000 := by omega
    exact late_tail (a := 46) (x := 0) (op := 26) (y := 0) (z := 0) h hb ad (tp.es.trans ac.two) (by omega) (by omega) (by omega) (by omega) (by omega) (by omega) (by omega) (by omega) (by omega) (by omega) (by omega) (by unfold i8; decide) (by decide) hd0 (fun κF σF g1 _ g3 _ _ W L _ => cl _ _ κF σF g1 g3 W L) (fun d Q hd hA => pth d Q hd ⟨0, by simp only [dS] at hd; omega, ac_isSign p2 (by decide) (fun _ => ⟨fun z => absurd z (by decide), fun _ => ⟨0, by simp only [dS] at hd; omega, ac_emit p2.2.2.2.2.2.2.2.2.2.2.2.1 hjj (a_readStatement_335 _ _ hA)⟩⟩) (fun z => absurd c z)⟩) (fun z => absurd z (by decide)) (fun κ' ok => ⟨_, rfl, q1 κ' ok⟩) (fun κ' bd => ⟨_, rfl, q0 κ' bd⟩)
  · have hbe : Bdd _ _ := bds_e (κa := setC κ1 (pC κ1 + 1)) (σa := wS (em σ 0 (kI κ 72 8) 0) 10 (nI (pC κ1 + 1))) hb (by omega) (by omega) (by omega) (by omega) (by omega) (by omega) (by omega) (by omega) (by omega)
    have sub := hE _ _ p2 hbe (by omega)
    rw [m2, w2] at sub
    refine ⟨_, by simp only [dS, dU] at hd0 ⊢; omega, sub.k (fun κ2 σ2 hr ok => ⟨fun z => absurd z (by decide), fun _ => k_5_readReturn_41 ?_⟩) (fun κ2 σ2 hr bd => ⟨fun _ => ⟨_, rfl, q0 _ ⟨σ2, (bd.pre (t1.trans t2)).weak (by omega), fun d Q hd hq => pth d Q hd ⟨0, by simp only [dS] at hd; omega, ac_isSign p2 (by decide) (fun z => absurd z c) (fun _ => ⟨fun _ => ⟨_, by simp only [dS, dU] at hd ⊢; omega, acr_bad hr hq⟩, fun z => absurd rfl z⟩)⟩⟩⟩, fun z => absurd rfl z⟩)⟩
    obtain ⟨e2, dE⟩ := ok
    obtain ⟨f1, f2, f3, f4, f5, f6, f7, f8, f9, f10, f11⟩ := dE
    exact late_tail (a := 46) (x := 0) (op := 26) (y := 0) (z := 0) h hb ad (tp.es.trans (e2.weak (by omega)).two) (by omega) (by omega) (by omega) (by omega) (by omega) (by omega) (by omega) (by omega) (by omega) (by omega) (by omega) (by unfold i8; decide) (by decide) hd0 (fun κF σF g1 _ g3 _ _ W L _ => cl _ _ κF σF g1 g3 W L) (fun d Q hd hA => pth d Q hd ⟨0, by simp only [dS] at hd; omega, ac_isSign p2 (by decide) (fun z => absurd z c) (fun _ => ⟨fun _ => ⟨_, by simp only [dS, dU] at hd ⊢; omega, acr_ok hr (a_readStatement_335 _ _ hA)⟩, fun z => absurd rfl z⟩)⟩) (fun z => absurd z (by decide)) (fun κ' ok => ⟨_, rfl, q1 κ' ok⟩) (fun κ' bd => ⟨_, rfl, q0 κ' bd⟩)
theorem throw_core {m d0 : Nat} {F : Int32 → Km → Prop} (hE : SpE X N b P m) (h : Ps κ σ N b P) (hb : Bds κ σ) (hm : N + 1 - pC κ ≤ m) (ad : AdC κ κ1 20 (kI κ 72 8)) (hd0 : dS (oC κ) ≤ d0) (hc : kI κ1 72 7 = 208) (q1 : ∀ κ', OkS X N b P κ σ κ' → F 1 κ') (q0 : ∀ κ', BadS X b κ σ κ' → F 0 κ') : KC' X d0 MX5_readThrow [vR 77] κ1 (kRI F) := by
  have ho2 : oC κ ≤ 24 := h.2.2.2.2.2.2.2.2.1
  have bi := hb.1.i h
  have hj : rJ σ < 12000 := by omega
  obtain ⟨p1, t1, w1, w2, w3, w4, w5, w6, w7, w8, w9, w10, w11⟩ := act_pair (op := 0) (y := kI κ 72 8) (z := 0) h (by omega) (by omega) ad
  have hlt := p1.n0 (c := 208) hc (by omega) (by omega)
  obtain ⟨p2, t2, m1, m2, m3, m4, m5, m6, m7, m8, m9, m10, m11⟩ := p1.next hlt
  have tp := p1.tp hlt
  have hp2 := p2.p3
  have hi2 : iC (setC κ1 (pC κ1 + 1)) ≤ 9200 := by omega
  refine KC_of_K rfl (Nat.le_of_ble_eq_true rfl) rfl (k_5_readThrow_0 ⟨0, by simp only [dS] at hd0; omega, kc_nextP p1 hlt ⟨1, by simp only [dS] at hd0; omega, kc_isNumber (fun c => ⟨fun z => absurd z (by decide), fun _ => ?_⟩) (fun c => ⟨fun _ => ⟨_, rfl, q0 _ ⟨_, (Flt.at' (k := 9) p2 hi2 (by omega)).pre (t1.trans t2), fun d Q hd hq => rs_throw h hj p1 (by simp only [dS] at hd; omega) hc (by
      rintro s1 rfl
      rw [wS_at p1]
      exact ⟨1, by simp only [dS] at hd; omega, ac_mustNumber p2 (fun x _ z => absurd (c.symm.trans z) (by decide)) (fun _ => hq) (fun _ z => absurd c z)⟩)⟩⟩, fun z => absurd rfl z⟩) (fun c c6 => ⟨fun _ => ⟨_, rfl, q0 _ ⟨_, (Flt.at p2 hi2).pre (t1.trans t2), fun d Q hd hq => rs_throw h hj p1 (by simp only [dS] at hd; omega) hc (by
      rintro s1 rfl
      rw [wS_at p1]
      exact ⟨1, by simp only [dS] at hd; omega, ac_mustNumber p2 (fun x _ z => absurd z c) (fun z => absurd z c6) (fun _ _ => hq)⟩)⟩⟩, fun z => absurd rfl z⟩)⟩⟩)
  obtain ⟨f, t, t1', t2', t3', t4', t5', t6', t7', t8'⟩ := p2.tok
  obtain ⟨x, hx, -, -, -, hv, -⟩ := t7'.number.resolve_right (fun z => by
    rcases z with ⟨z, -⟩ | ⟨z, -⟩
    · exact absurd (c.symm.trans z) (by decide)
    · exact absurd c z)
  have hlt2 := p2.n0 (c := 3) c (by omega) (by omega)
  obtain ⟨p3, t3, v1, v2, v3, v4, v5, v6, v7, v8, v9, v10, v11⟩ := p2.next hlt2
  have tp3 := p2.tp hlt2
  have pth : ∀ (d : Nat) (Q : Res → Rm → Prop), dS (oC κ) + 19 ≤ d → (∃ e132 : Nat, e132 + 1 ≤ d ∧ AC X 92 e132 MX13_readE [vR 92] (wS (wS (sg κ σ) 10 (nI (pC κ1 + 1))) 10 (nI (pC (setC κ1 (pC κ1 + 1)) + 1))) (aTV Q fun s135 => ∃ e136 : Nat, e136 + 1 ≤ d ∧ AC X 92 e136 MX13_mustSign [vR 92, vI 59] s135 (aTV Q fun s139 => ∃ e140 : Nat, e140 + 1 ≤ d ∧ AC X 92 e140 MX13_emit [vR 92, vI 25, vI (nI (x % 10)), vI ((sI s139 35) - 1)] s139 (aRI fun y143 s144 => A X 92 d MX13_readStatement 526 [(0, vR 92), (1, vI (kI κ 72 8)), (2, vI y143)] [] s144 Q)))) → A X 92 d MX13_readStatement 0 [(0, vR 92)] [] σ Q := fun d Q hd hA => rs_throw h hj p1 (by simp only [dS] at hd; omega) hc (by
    rintro s1 rfl
    rw [wS_at p1]
    refine ⟨1, by simp only [dS] at hd; omega, ac_mustNumber p2 (fun x' hx' _ hv' => ?_) (fun z => absurd (c.symm.trans z) (by decide)) (fun z => absurd c z)⟩
    have ex : x' = x := ofNat64_inj (by omega) (by omega) (hv'.symm.trans hv)
    rw [ex, md10 hx]
    exact hA)
  refine ⟨1, by simp only [dS] at hd0; omega, kc_numberHere p2 hx hv ⟨0, by simp only [dS] at hd0; omega, kc_nextP p2 hlt2 ?_⟩⟩
  have hbe : Bdd _ _ := bds_e (κa := setC (setC κ1 (pC κ1 + 1)) (pC (setC κ1 (pC κ1 + 1)) + 1)) (σa := wS (wS (em σ 0 (kI κ 72 8) 0) 10 (nI (pC κ1 + 1))) 10 (nI (pC (setC κ1 (pC κ1 + 1)) + 1))) hb (by omega) (by omega) (by omega) (by omega) (by omega) (by omega) (by omega) (by omega) (by omega)
  have sub := hE _ _ p3 hbe (by omega)
  rw [v2, m2, w2] at sub
  rw [md10 hx]
  refine ⟨_, by simp only [dS, dU] at hd0 ⊢; omega, sub.k (fun κ2 σ2 hr ok => ⟨fun z => absurd z (by decide), fun _ => ?_⟩) (fun κ2 σ2 hr bd => ⟨fun _ => ⟨_, rfl, q0 _ ⟨σ2, (bd.pre ((t1.trans t2).trans t3)).weak (by omega), fun d Q hd hq => pth d Q hd ⟨_, by simp only [dS, dU] at hd ⊢; omega, acr_bad hr hq⟩⟩⟩, fun z => absurd rfl z⟩)⟩
  obtain ⟨e2, dE⟩ := ok
  obtain ⟨f1, f2, f3, f4, f5, f6, f7, f8, f9, f10, f11⟩ := dE
  have k35 : sI σ2 35 = nI (rK σ2) := e2.1.2.2.2.2.2.2.2.2.2.2.2.2.2.2.2.2.1
  exact late_tail (a := 47) (x := nI (x % 10)) (op := 25) (y := nI (x % 10)) (z := nI (rK σ2) - 1) h hb ad ((tp.trans tp3).es.trans (e2.weak (by omega)).two) (by omega) (by omega) (by omega) (by omega) (by omega) (by omega) (by omega) (by omega) (by omega) (by omega) (by omega) (by unfold i8; decide) (by decide) hd0 (fun κF σF g1 g2 g3 g4 g5 W L hl => by
    have e := hl.symm
    rw [e] at g4
    exact Or.inr (Or.inr (Or.inr (Or.inr (Or.inr (Or.inr (Or.inr (Or.inr (Or.inr (Or.inr (Or.inr (Or.inr (Or.inr (Or.inr (Or.inr (Or.inr (Or.inr (Or.inr (Or.inr (Or.inr (Or.inr (Or.inr (Or.inl ⟨rfl, rfl, g1, g3, ⟨x % 10, by omega, g2 (by decide) (by decide) (by decide) (by decide), g5 (by decide) (by decide) (by decide)⟩, g4⟩))))))))))))))))))))))) (fun d Q hd hA => pth d Q hd ⟨_, by simp only [dS, dU] at hd ⊢; omega, acr_ok hr hA⟩) (fun _ => by rw [k35]) (fun κ' ok => ⟨_, rfl, q1 κ' ok⟩) (fun κ' bd => ⟨_, rfl, q0 κ' bd⟩)
end RET
