/-! try: both run -/
section TRR
variable {X : Cx} {N b P : Nat} {κ κ0 κ1 κn κk κb κp κ' : Km} {σ σ0 σ1 σn σk σb σ' : Rm}
theorem Flt.pre0 {B : Nat} (t : T0 b κ σ κ1 σ1) (h : Flt b κ1 σ1 B κ' σ') : Flt b κ σ B κ' σ' := ⟨h.1, t.1.trans h.2.1, t.2.1.trans h.2.2.1, h.2.2.2⟩
theorem neg9 {a : Nat} (h : a < 2147483648) : ¬ nI a = -9 := fun z => by
  rw [show (-9 : Int32) = -nI 9 by decide, neg_eq (a := a) (b := 9) h (by decide) (by decide)] at z
  exact z
theorem RTr.rs {r : Res} (h : Ps κ σ N b P) (hj : rJ σ < 12000) (h1 : Ps κ1 (sg κ σ) N b P) (hc : kI κ1 72 7 = 205) (hr : r = .inl none ∨ r = .inr 93) (H : RTr X κ σ σ' r) : RS X κ σ σ' r := fun d Q hd hq => rs_try h hj h1 (by simp only [dS] at hd; omega) hc ⟨d - 1, by simp only [dS] at hd; omega, AC_of_A rfl (Nat.le_of_ble_eq_true rfl) rfl (H (d - 1) _ (by omega) (by
  rcases hr with rfl | rfl
  · exact Or.inl ⟨rfl, a_readStatement_526 _ _ hq⟩
  · exact Or.inr ⟨93, rfl, hq⟩))⟩
theorem try_end {m d0 : Nat} {x1 y' i' x2 : Int32} {lv : List Nat} {p f : Nat} {F : Int32 → Km → Prop} (hB : SpB X N b P m) (h : Ps κ σ N b P) (hb : Bds κ σ) (hd0 : dS (oC κ) + 5 ≤ d0) (t00 : T00 N b P κ σ κk σk κb σb κ0 σ0) (ti : TyI N b P κ σ κ0 σ0 κn σn lv p f) (pl : PL N b P κn σn lv κp) (hm : N + 1 - pC κn ≤ m) (rp : RPt X κ σ 57 [(0, vR 92), (1, vI (nI (rT σ))), (2, vI x2), (3, vI (nI f))] σn) (nc : kI κn 72 7 ≠ 206) (hf : 1 ≤ f ∨ kI κn 72 7 = 207) (hf2 : f ≤ 1)
    (q1 : ∀ κ' σ', ST N b P 1 κ σ κ' σ' → pC κ < pC κ' → RTr X κ σ σ' (.inl none) → F 1 κ') (q0 : ∀ κ' σ', Flt b κ σ 9200 κ' σ' → RTr X κ σ σ' (.inr 93) → F 0 κ') : K X d0 MX5_readTry 218 [(0, vR 77), (1, vI x1), (2, vI y'), (3, vI i')] [] κp (kRI F) := by
  have ho2 : oC κ ≤ 24 := h.2.2.2.2.2.2.2.2.1
  have hb' := hb
  obtain ⟨⟨b1, b2, b3, b4, b5, b6, b7⟩, b8, b9, b10⟩ := hb
  have ti' := ti
  have t00' := t00
  have pl' := pl
  have tn0 : T0 b κ σ κn σn := (t00.1.trans (t00.2.1.2.1.t0.trans t00.2.2.1)).trans ti.2.1.t0
  obtain ⟨pn, -, -, -, -, -, -, -, -, -, n1, n2, n3, n4, n5, n6, n7, n8, n9, n10, n11, n12, n13, n14⟩ := ti
  obtain ⟨pp, tp, ⟨w1, w2, w3, w4, w5, w6, w7, w8, w9, w10, w11⟩, -, -, -, l72⟩ := pl
  have hpn := pn.p3
  have s17 : sI σn 17 = nI (rJ σn) := pn.2.2.2.2.2.2.2.2.2.2.2.1
  have hT : rT σ < 1000 := by omega
  refine k_5_readTry_218 _ _ _ ⟨dS (oC κ) + 4, by omega, KC_of_K rfl (Nat.le_of_ble_eq_true rfl) rfl (k_5_readFinally_0 ⟨fun c => ?_, fun nc7 => ?_⟩)⟩
  · have hlt := pp.n0 (c := 207) c (by omega) (by omega)
    obtain ⟨p5, t5, e1, e2, e3, e4, e5, e6, e7, e8, e9, e10, e11⟩ := pp.next hlt
    refine ⟨0, by omega, kc_nextP pp hlt ⟨2, by omega, p5.add (by omega) (by unfold i8; decide) (fun κf adf => ?_)⟩⟩
    have cn : kI κn 72 7 = 207 := by rw [← l72]; exact c
    have path : ∀ (e : Nat) (Q : Res → Rm → Prop), dS (oC κ) + 18 ≤ e → (∃ e16 : Nat, e16 + 1 ≤ e ∧ AC X 92 e16 MX13_readBlock [vR 92] (wI (wS σn 10 (nI (pC κn + 1))) 27 (rT σ) (nI (rJ σn))) (aTV Q fun s19 => ∃ e20 : Nat, e20 + 1 ≤ e ∧ AC X 92 e20 MX13_emit [vR 92, vI 30, vI (nI (rT σ)), vI 0] s19 (aRI fun y23 s24 => A X 92 e MX13_readTry 255 [(0, vR 92), (1, vI (nI (rT σ))), (2, vI y23), (3, vI 1)] [] s24 Q))) → A X 92 e MX13_readTry 0 [(0, vR 92)] [] (em σ 0 (kI κ 72 8) 0) Q := fun e Q he hA => rp e Q he (a_readTry_57 _ _ _ ⟨5, by simp only [dS] at he; omega, ac_isWord (w := 6) pn (by decide) (fun z => absurd z nc) (fun _ => ⟨fun _ => ⟨5, by simp only [dS] at he; omega, ac_isWord (w := 7) pn (by decide) (fun _ => ⟨fun z => absurd z (by decide), fun _ => by
      rintro s13 rfl
      rw [wS_at pn, vpn (by omega), cl_nI (by omega)]
      refine ⟨hT, ?_⟩
      rintro s15 rfl
      rw [sI_ne (by decide), s17]
      exact hA⟩) (fun z => absurd cn z)⟩, fun z => absurd rfl z⟩)⟩)
    rw [w1] at p5 t5 e1 e2 e3 e4 e5 e6 e7 e8 e9 e10 e11
    have adf' := adf
    rw [w1] at adf'
    obtain ⟨p6, t6, f1, f2, f3, f4, f5, f6, f7, f8, f9, f10, f11⟩ := p5.pr (f := 27) (k := rT σ) (v := nI (rJ σn)) (by omega)
    obtain ⟨⟨p7, t7⟩, y1, y2, y3, y4, y5, y6, y7, y8, y9, y10, y11⟩ := p6.addC (by omega) adf'
    have tnf : T0 b κn σn κf (wI (wS σn 10 (nI (pC κn + 1))) 27 (rT σ) (nI (rJ σn))) := ((tp.trans t5.t0).trans t6).trans t7.t0
    have hbf : Bdb κf (wI (wS σn 10 (nI (pC κn + 1))) 27 (rT σ) (nI (rJ σn))) := by
      unfold Bdb
      omega
    have hpf : pC κf = pC κn + 1 := by omega
    have sub := hB _ _ p7 hbf (by omega)
    have of : oC κf = oC κ := by omega
    rw [of] at sub
    have bi7 : iC κf ≤ 9020 := by omega
    have z3 : iC κf = iC κn + 1 := by omega
    have z4 : rJ (wI (wS σn 10 (nI (pC κn + 1))) 27 (rT σ) (nI (rJ σn))) = rJ σn := by omega
    clear e1 e2 e3 e4 e5 e6 e7 e8 e9 e10 e11 f1 f2 f3 f4 f5 f6 f7 f8 f9 f10 f11 y1 y2 y3 y4 y5 y6 y7 y8 y9 y10 y11
    refine ⟨_, by omega, sub.k (fun κg σg hr okb => ⟨fun z => absurd z (by decide), fun _ => ?_⟩) (fun κg σg hr bd => ⟨fun _ => ⟨_, rfl, Or.inl rfl, _, rfl, q0 _ _ (bd.pre0 (tn0.trans tnf)) (fun e Q he hq => path e Q he ⟨_, by simp only [dS] at he ⊢; omega, acr_bad hr hq⟩)⟩, fun z => absurd rfl z⟩)⟩
    obtain ⟨blk, hp2, hi6, hj6, ht2, hc2⟩ := okb
    have pg := blk.1
    have hpg := pg.p3
    have hig : iC κg < 9890 ∧ rJ σg < 11900 := by
      have e1 := blk.2.2.2.2.2.1
      omega
    refine ⟨2, by omega, pg.add (by omega) (by unfold i8; decide) (fun κa ad => ?_)⟩
    obtain ⟨st, lt⟩ := fin_yes h hb' t00' ti' pl' hlt adf blk hp2 hi6 hj6 ht2 hc2 ad
    refine ⟨_, rfl, Or.inr rfl, _, rfl, q1 _ _ st lt (fun e Q he hq => path e Q he ⟨_, by simp only [dS] at he ⊢; omega, acr_ok hr ⟨0, by simp only [dS] at he; omega, ac_emit pg.2.2.2.2.2.2.2.2.2.2.2.1 (by omega) (a_readTry_255 _ _ _ ⟨fun z => absurd z (by decide), fun _ => a_readTry_272 _ _ _ ?_⟩)⟩⟩)⟩
    rw [vpn (by omega), cl_nI (by omega), em_17]
    refine ⟨hT, ?_⟩
    rintro s2 rfl
    exact hq
  · have n7' : kI κn 72 7 ≠ 207 := by rw [← l72]; exact nc7
    have f1 : 1 ≤ f := hf.resolve_right n7'
    refine ⟨2, by omega, pp.add (by omega) (by unfold i8; decide) (fun κa ad => ?_)⟩
    obtain ⟨st, lt⟩ := fin_no h hb' t00' ti' f1 pl' ad
    refine ⟨_, rfl, Or.inr rfl, _, rfl, q1 _ _ st lt (fun e Q he hq => rp e Q he (a_readTry_57 _ _ _ ⟨5, by simp only [dS] at he; omega, ac_isWord (w := 6) pn (by decide) (fun z => absurd z nc) (fun _ => ⟨fun _ => ⟨5, by simp only [dS] at he; omega, ac_isWord (w := 7) pn (by decide) (fun z => absurd z n7') (fun _ => ⟨fun _ => a_readTry_255 _ _ _ ⟨fun z => ?_, fun _ => a_readTry_272 _ _ _ ?_⟩, fun z => absurd rfl z⟩)⟩, fun z => absurd rfl z⟩)⟩))⟩
    · have := (nI_eq (a := f) (b := 0) (by omega) (by omega)).mp z
      omega
    · rw [vpn (by omega), cl_nI (by omega), s17]
      refine ⟨hT, ?_⟩
      rintro s2 rfl
      exact hq
end TRR
