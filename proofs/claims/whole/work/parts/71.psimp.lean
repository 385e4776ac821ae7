/-! statements without blocks: the pieces -/
section SIMP
variable {X : Cx} {N b P : Nat} {κ κ1 κ2 κ3 : Km} {σ σ1 σ2 σ3 : Rm}
def RS (X : Cx) (κ : Km) (σ σ' : Rm) (r : Res) : Prop := ∀ (d : Nat) (Q : Res → Rm → Prop), dS (oC κ) + 19 ≤ d → Q r σ' → A X 92 d MX13_readStatement 0 [(0, vR 92)] [] σ Q
def OkS (X : Cx) (N b P : Nat) (κ : Km) (σ : Rm) (κ' : Km) : Prop := ∃ σ', ST N b P 1 κ σ κ' σ' ∧ pC κ < pC κ' ∧ RS X κ σ σ' (.inl none)
def BadS (X : Cx) (b : Nat) (κ : Km) (σ : Rm) (κ' : Km) : Prop := ∃ σ', Flt b κ σ 9200 κ' σ' ∧ RS X κ σ σ' (.inr 93)
/-- the end of a statement: one act of each, its operand is gone -/
def FA (b : Nat) (κ2 : Km) (σ2 : Rm) (κ3 : Km) (σ3 : Rm) : Prop := ∀ (κF : Km) (σF : Rm) (vr br : Nat → Nat → Prop), Fnc σF vr br b → Ext κF σF vr br b κ2 σ2 κ3 σ3 → ∀ (A : Pt → Prop) (L : List Itm), ecn L = rE σ2 → ccn L = rK σ2 → GC κF σF A b L → Good2 κF σF A (b, iC κ3, rJ σ3, L, 0, 0) → Good2 κF σF A (b, iC κ2, rJ σ2, L, 1, 1)
theorem FA.of {a x op y z : Int32} (hi : iC κ2 < 9900) (hj : rJ σ2 < 11990) (e1 : iC κ3 = iC κ2 + 1) (e2 : rJ σ3 = rJ σ2 + 1) (k1 : kI κ3 69 (iC κ2) = a) (k2 : kI κ3 70 (iC κ2) = x) (r1 : aI σ3 13 (rJ σ2) = op) (r2 : aI σ3 14 (rJ σ2) = y) (r3 : aI σ3 15 (rJ σ2) = z)
    (hc : ∀ (κF : Km) (σF : Rm) (vr br : Nat → Nat → Prop), Fnc σF vr br b → Ext κF σF vr br b κ2 σ2 κ3 σ3 → kI κF 69 (iC κ2) = a → (a ≠ 2 → a ≠ 3 → a ≠ 23 → a ≠ 24 → kI κF 70 (iC κ2) = x) → aI σF 13 (rJ σ2) = op → aI σF 15 (rJ σ2) = z → (op ≠ 2 → op ≠ 16 → op ≠ 20 → aI σF 14 (rJ σ2) = y) → ∀ (W : Pt → Prop) (L : List Itm), ccn L = rK σ2 → W (b, iC κ2 + 1, rJ σ2 + 1, L, 0, 0) → Cl κF σF W b (iC κ2) (rJ σ2) L 1 1) : FA b κ2 σ2 κ3 σ3 := by
  intro κF σF vr br hf he A L h1 h2 hg g
  have x1 := he.1 (iC κ2) (Nat.le_refl _) (by omega)
  have x2 := he.2.1 (rJ σ2) (Nat.le_refl _) (by omega)
  rw [k1, k2] at x1
  rw [r1, r2, r3] at x2
  rw [e1, e2] at g
  exact (mkG hf.1 hi x1.2.1 hj (by omega) hg (hc κF σF vr br hf he x1.1 x1.2.2.1 x2.1 x2.2.1 x2.2.2.2 _ L h2 g)).two
/-- a name is declared: known, or new -/
def Dn (N : Nat) (κ : Km) (σ0 σ : Rm) (t v : Nat) : Prop := t ≤ N ∧ kI κ 74 t = 2 ∧ v < rV σ ∧ aL σ 24 v = aL σ 9 t ∧ rV σ0 ≤ rV σ ∧ rV σ ≤ rV σ0 + 1 ∧ (rV σ = rV σ0 + 1 → v = rV σ0)
theorem Dn.t0 {κ' : Km} {σ0 σ' : Rm} {t v : Nat} (h : Dn N κ σ0 σ t v) (t0 : T0 b κ σ κ' σ') : t ≤ N ∧ kI κ' 74 t = 2 ∧ v < rV σ' ∧ aL σ' 24 v = aL σ' 9 t := by
  obtain ⟨h1, h2, h3, h4, -⟩ := h
  have e1 := t0.2.2.1.2.2.2.1
  have e2 := t0.2.2.1.2.2.2.2.1 v h3
  refine ⟨h1, by rw [(t0.1.1.1 74 (by unfold hP hE; omega)).1]; exact h2, by omega, ?_⟩
  rw [e2, (t0.2.1 9 (by decide)).2]
  exact h4
theorem DcS.nm {κ' : Km} {σ' : Rm} {v : Nat} (h : Ps κ σ N b P) (hv : rV σ ≤ 1500) (h2 : kI κ 72 7 = 2) (hd : DcS b κ σ κ' σ' v) (tr : Tr b κ σ κ' σ') : Dn N κ' σ σ' (pC κ) v := by
  have k2 : kI κ' 74 (pC κ) = 2 := by rw [(tr.1.1.1 74 (by unfold hP hE; omega)).1]; exact h.2.2.1.symm.trans h2
  obtain ⟨-, ⟨⟨a1, a2, a3⟩, rfl⟩ | ⟨a1, a2, rfl⟩⟩ := hd
  · exact ⟨h.2.2.2.2.2.1, k2, a1, a2, Nat.le_refl _, by omega, fun z => by omega⟩
  · have e : rV (vd σ (pC κ)) = rV σ + 1 := by unfold rV; rw [vd_25, cl_nI (by omega)]
    refine ⟨h.2.2.2.2.2.1, k2, by omega, ?_, by omega, by omega, fun _ => a2⟩
    rw [vd_24, if_pos a2, vd_l (by decide)]
/-- names of a statement with one act behind its expression -/
theorem one_us {a pl : Int32} (ad : AdC κ κ1 20 pl) (i1 : iC κ1 = iC κ + 1) (j1 : rJ σ1 = rJ σ + 1) (u1 : rU σ1 = rU σ) (a1 : rA σ1 = rA σ) (ex : ES N b P 0 0 1 κ1 σ1 κ2 σ2) (t3 : Tr b κ2 σ2 κ3 σ3) (i3 : iC κ3 = iC κ2 + 1) (u3 : rU σ3 = rU σ2) (a3 : rA σ3 = rA σ2) (ea : kI κ3 69 (iC κ2) = a)
    (hs : (a ≠ 2 ∧ a ≠ 3 ∧ a ≠ 23 ∧ a ≠ 24 ∧ rV σ3 = rV σ) ∨ (a = 3 ∧ ∃ t v, kI κ3 70 (iC κ2) = -1 - nI t ∧ Dn N κ3 σ σ3 t v)) : UsA N κ3 σ3 (iC κ) (iC κ3) (rJ σ) (rJ σ3) (rU σ) (rU σ3) (rA σ) (rA σ3) (rV σ) (rV σ3) := by
  obtain ⟨b1, b2, b3, b4, b5, b6, b7, -⟩ := ex.2.1.2.2.1
  obtain ⟨c1, c2, c3, c4, c5, c6, c7, -⟩ := t3.2.2.1
  have e20 : kI κ3 69 (iC κ) = 20 := (c7 (iC κ) (by omega)).1.trans ((b7 (iC κ) (by omega)).1.trans ad.2.1)
  have x1 : UsA N κ3 σ3 (iC κ) (iC κ + 1) (rJ σ) (rJ σ1) (rU σ) (rU σ) (rA σ) (rA σ) (rV σ) (rV σ) := (UsA.nil (j1 := rJ σ1)).act e20 (by decide) ⟨rfl, Nat.le_refl _, Nat.le_refl _, Nat.le_refl _, Nat.le_refl _, Nat.le_refl _, by omega⟩
  have x2 := x1.app ((ex.2.2.1.2.step t3 ⟨Nat.le_refl _, Nat.le_refl _, Nat.le_refl _, Nat.le_refl _, Nat.zero_le _⟩).v (v := rV σ)) ⟨i1, u1, a1, rfl, by omega, Nat.le_refl _, by omega, by omega, by omega, by omega, by omega, by omega, by omega, Nat.le_refl _, Nat.le_refl _⟩
  rcases hs with ⟨h1, h2, h3, h4, h5⟩ | ⟨rfl, t, v, h1, h2, h3, h4, h5, h6, h7, h8⟩
  · exact (x2.act (j2 := rJ σ3) ea ⟨h1, h2, h3, h4⟩ ⟨rfl, c2, by omega, by omega, by omega, Nat.le_refl _, by omega⟩).to ⟨i3.symm, u3.symm, a3.symm, h5.symm, Nat.le_refl _⟩
  · exact (x2.sto (j2 := rJ σ3) ea h1 h2 h3 h4 h5 ⟨h7, h8⟩ ⟨rfl, c2, by omega, by omega, by omega, Nat.le_refl _, by omega, h6⟩).to ⟨i3.symm, u3.symm, a3.symm, rfl, Nat.le_refl _⟩
/-- STEP, an expression, a last act -/
theorem st_expr (h : Ps κ σ N b P) (hi : iC κ < 9900) (hj : rJ σ < 11990) (ad : AdC κ κ1 20 (kI κ 72 8)) (ex : ES N b P 0 0 1 κ1 (sg κ σ) κ2 σ2) (t3 : Tr b κ2 σ2 κ3 σ3) (c3 : Tc σ2 σ3) (e2 : rE σ2 = rE σ) (e3 : rK σ2 = rK σ) (fa : FA b κ2 σ2 κ3 σ3) : SS b 1 κ σ κ3 σ3 := by
  obtain ⟨p1, t1, n1, n2, n3, n4, n5, n6, n7, n8, n9, n10, n11⟩ := act_pair (op := 0) (y := kI κ 72 8) (z := 0) h hi hj ad
  have tb : Tr b κ1 (sg κ σ) κ3 σ3 := ex.2.1.trans t3
  have cb : Tc (sg κ σ) σ3 := ex.2.2.1.1.trans c3 ex.2.1.2.2.1 t3.2.2.1
  refine SS.one fun κF σF vr br hf he A L h1 h2 h3 hg g => ?_
  have heb := he.right t1 tb (Tc.same n8) cb
  have g2 := fa κF σF vr br hf (heb.right ex.2.1 t3 ex.2.2.1.1 c3) A L (by omega) (by omega) hg g
  have g1 := ex.2.2.2 κF σF vr br hf (heb.left ex.2.1 t3 ex.2.2.1.1 c3 ex.1.1.2.2.2.2.cv) A L 0 (Nat.le_refl _) hg g2
  have hea := he.left t1 tb (Tc.same n8) cb p1.1.2.2.2.2.cv
  have x1 := hea.1 (iC κ) (Nat.le_refl _) (by omega)
  have x2 := hea.2.1 (rJ σ) (Nat.le_refl _) (by rw [n4]; omega)
  have mm := em_at (σ := σ) (x := 0) (y := kI κ 72 8) (z := 0)
  rw [ad.2.1, ad.2.2.1] at x1
  rw [mm.1, mm.2.1, mm.2.2.1] at x2
  rw [n3, n4] at g1
  refine mkG hf.1 hi x1.2.1 hj (by omega) hg ?_
  exact Or.inr (Or.inr (Or.inr (Or.inr (Or.inr (Or.inr (Or.inr (Or.inr (Or.inr (Or.inr (Or.inr (Or.inr (Or.inr (Or.inr (Or.inl ⟨rfl, x1.1, x2.1, (x2.2.2.2 (by decide) (by decide) (by decide)).trans (x1.2.2.1 (by decide) (by decide) (by decide) (by decide)).symm, g1⟩))))))))))))))
theorem vd_comm {t : Nat} {x : Int32} : vd (wS σ 10 x) t = wS (vd σ t) 10 x := by
  have er : rV (wS σ 10 x) = rV σ := by unfold rV; rw [sI_ne (by decide)]
  have eb : bl (wS σ 10 x) t = wS (bl σ t) 10 x := by
    unfold bl
    rw [sI_ne (by decide), aI_ne (by decide)]
    exact wS_comm (by decide)
  unfold vd
  rw [er, eb]
  by_cases c : 12 ≤ rV σ
  · rw [if_pos c, if_pos c]
    exact wS_comm (σ := wL (bl σ t) 24 (rV σ) (aL σ 9 t)) (k := 10) (k' := 25) (by decide)
  · rw [if_neg c, if_neg c]
    exact wS_comm (σ := wL σ 24 (rV σ) (aL σ 9 t)) (k := 10) (k' := 25) (by decide)
theorem kc_declareHere {F : Int32 → Km → Prop} (h : Ps κ σ N b P) (q : ∀ κ', DcR b (cV κ b) κ κ' (kL κ 76 (pC κ)) (kI κ 72 8) → F (-1 - nI (pC κ)) κ') : KC' X 2 MX5_declareHere [vR 77] κ (kRI F) := by
  obtain ⟨m, m1, m2, m3⟩ := h.TW
  have hp := h.2.2.2.2.2.1
  have hC := h.1.2.1
  obtain ⟨E, D, n1, n2, n3, n4, n5, -⟩ := h.1.2.2.2.2
  have ecV : kI κ (1000 + 8 * b) 5 = nI (cV κ b) := by unfold cV; rw [n4, cl_nI (by omega)]
  have l12 : cV κ b ≤ 12 := by unfold cV; rw [n4, cl_nI (by omega)]; omega
  refine KC_of_K rfl (Nat.le_of_ble_eq_true rfl) rfl (k_5_declareHere_0 ?_)
  rw [hC]
  refine ⟨isH_body h.1.2.2.1, 0, by decide, kc_index h ⟨0, by decide, kc_valueOf m3 m2 (by omega) ⟨1, by decide, kc_declare h.1.2.2.1 ecV l12 n5 (fun κ' dc => ⟨0, by decide, ?_⟩)⟩⟩⟩
  have e72 : kI κ' 72 = kI κ 72 := (dc.kf.1.1 72 (by omega)).1
  exact KC_of_K rfl (Nat.le_of_ble_eq_true rfl) rfl (k_9_index_0 ⟨_, rfl, _, rfl, by rw [e72, h.2.1]; exact q κ' dc⟩)
/-- a name too long is an expression's fault -/
theorem long_name {F : Int32 → Km → Prop} {d : Nat} (hd : 8 ≤ d) (c : kI κ 72 7 = 5) (q : F 0 (cI κ 77 5 (kI κ 72 8 + 8))) : KC' X d MX5_readComparison [vR 77] κ (kRI F) := by
  have n5 : ¬ ((5 : Int32) = 33 ∨ (5 : Int32) = 45 ∨ (5 : Int32) = 211 ∨ (5 : Int32) = 213 ∨ (5 : Int32) = 214 ∨ (5 : Int32) = 216 ∨ (5 : Int32) = 220) := by decide
  have n6 : ¬ ((5 : Int32) = 2 ∨ (5 : Int32) = 3 ∨ (5 : Int32) = 5 ∨ (5 : Int32) = 6 ∨ (5 : Int32) = 212 ∨ (5 : Int32) = 219) → False := by decide
  refine KC_of_K rfl (Nat.le_of_ble_eq_true rfl) rfl (k_5_readComparison_0 ⟨d - 1, by omega, KC_of_K rfl (Nat.le_of_ble_eq_true rfl) rfl (k_5_readSum_0 ⟨d - 2, by omega, KC_of_K rfl (Nat.le_of_ble_eq_true rfl) rfl (k_5_readProduct_0 ⟨d - 3, by omega, KC_of_K rfl (Nat.le_of_ble_eq_true rfl) rfl (k_5_readUnary_0 ?_)⟩)⟩)⟩)
  rw [c]
  refine ⟨fun z => absurd z (by decide), fun z => absurd z (by decide), fun z => absurd z (by decide), fun z => absurd z (by decide), fun z => absurd z (by decide), fun z => absurd z (by decide), fun z => absurd z (by decide), fun _ => ⟨d - 4, by omega, KC_of_K rfl (Nat.le_of_ble_eq_true rfl) rfl (k_5_readPlain_0 ?_)⟩⟩
  rw [c]
  refine ⟨fun z => absurd z (by decide), fun z => absurd z (by decide), fun _ => ⟨d - 5, by omega, KC_of_K rfl (Nat.le_of_ble_eq_true rfl) rfl (k_5_readVariableOrCall_0 ⟨1, by omega, kc_isName (fun z => absurd (c.symm.trans z) (by decide)) (fun _ => ⟨fun _ => ⟨_, rfl, Or.inl rfl, _, rfl, Or.inl rfl, _, rfl, ?_⟩, fun z => absurd rfl z⟩) (fun _ z => absurd c z)⟩)⟩, fun z => absurd z (by decide), fun z => absurd z (by decide), fun z => absurd z (by decide), fun z => absurd z (fun z => n6 z)⟩
  refine k_5_readProduct_7 _ _ ⟨fun _ => ?_, fun _ => ⟨fun _ => ?_, fun z => absurd rfl z⟩⟩ <;>
  · refine k_5_readProduct_96 _ _ ⟨Or.inl rfl, _, rfl, ?_⟩
    refine k_5_readSum_7 _ _ ⟨fun _ => ?_, fun _ => ⟨fun _ => ?_, fun z => absurd rfl z⟩⟩ <;>
    exact k_5_readSum_90 _ _ ⟨Or.inl rfl, _, rfl, fun _ => ⟨_, rfl, q⟩, fun z => absurd rfl z⟩
end SIMP
