/-! try: both run -/
section TRR
variable {X : Cx} {N b P : Nat} {κ κ0 κ1 κn κk κb κp κ' : Km} {σ σ0 σ1 σn σk σb σ' : Rm}
theorem Flt.pre0 {B : Nat} (t : T0 b κ σ κ1 σ1) (h : Flt b κ1 σ1 B κ' σ') : Flt b κ σ B κ' σ' := ⟨h.1, t.1.trans h.2.1, t.2.1.trans h.2.2.1, h.2.2.2⟩
theorem neg9 {a : Nat} (h : a < 2147483648) : ¬ nI a = -9 := fun z => by
  rw [show (-9 : Int32) = -nI 9 by decide, neg_eq (a := a) (b := 9) h (by decide) (by decide)] at z
  exact z
theorem RTr.rs {r : Res} (h : Ps κ σ N b P) (hj : rJ σ < 12000) (h1 : Ps κ1 (sg κ σ) N b P) (hc : kI κ1 72 7 = 205) (hr : r = .inl none ∨ r = .inr 93) (H : RTr X κ σ σ' r) : RS X κ σ σ' r := fun d Q hd hq => rs_try h hj h1 (by simp only [dS] at hd; omega) hc ⟨d - 1, by simp only [dS] at hd; omega, AC_of_A rfl (Nat.le_of_ble_eq_true rfl) rfl (H (d - 1) _ (by omega) (by
  rcases hr with rfl | rfl
  · exact Or.inl ⟨rfl, a_readStatement_526 _ _ hq⟩
  · exact Or.inr ⟨93, rfl, hq⟩))⟩
theorem try_end {m d0 : Nat} {x1 y' i' x2 : Int32} {lv : List Nat} {p f : Nat} {F : Int32 → Km → Prop} (hB : SpB X N b P m) (h : Ps κ σ N b P) (hb : Bds κ σ) (hd0 : dS (oC κ) + 5 ≤ d0) (t00 : T00 N b P κ σ κk σk κb σb κ0 σ0) (ti : TyI N b P κ σ κ0 σ0 κn σn lv p f) (pl : PL N b P κn σn lv κp) (hm : N + 1 - pC κn ≤ m) (rp : RPt X κ σ 57 [(0, vR 92), (1, vI (nI (rT σ))), (2, vI x2), (3, vI (nI f))] σn) (nc : kI κn 72 7 ≠ 206) (hf : 1 ≤ f ∨ kI κn 72 7 = 207) (hf2 : f ≤ 1)
    (q1 : ∀ κ' σ', ST N b P 1 κ σ κ' σ' → pC κ < pC κ' → RTr X κ σ σ' (.inl none) → F 1 κ') (q0 : ∀ κ' σ', Flt b κ σ 9200 κ' σ' → RTr X κ σ σ' (.inr 93) → F 0 κ') : K X d0 MX5_readTry 218 [(0, vR 77), (1, vI x1), (2, vI y'), (3, vI i')] [] κp (kRI F) := by
  have ho2 : oC κ ≤ 24 := h.2.2.2.2.2.2.2.2.1
  have hb' := hb
  obtain ⟨⟨b1, b2, b3, b4, b5, b6, b7⟩, b8, b9, b10⟩ := hb
  have ti' := ti
  have t00' := t00
  have pl' := pl
  have tn0 : T0 b κ σ κn σn := (t00.1.trans (t00.2.1.2.1.t0.trans t00.2.2.1)).trans ti.2.1.t0
  obtain ⟨pn, -, -, -, -, -, -, -, -, n1, n2, n3, n4, n5, n6, n7, n8, n9, n10, n11, n12, n13, n14⟩ := ti
  obtain ⟨pp, tp, ⟨w1, w2, w3, w4, w5, w6, w7, w8, w9, w10, w11⟩, -, -, -, l72⟩ := pl
  have hpn := pn.p3
  have s17 : sI σn 17 = nI (rJ σn) := pn.2.2.2.2.2.2.2.2.2.2.2.1
  have hT : rT σ < 1000 := by omega
  refine k_5_readTry_218 _ _ _ ⟨dS (oC κ) + 4, by omega, KC_of_K rfl (Nat.le_of_ble_eq_true rfl) rfl (k_5_readFinally_0 ⟨fun c => ?_, fun nc7 => ?_⟩)⟩
  · have hlt := pp.n0 (c := 207) c (by omega) (by omega)
    obtain ⟨p5, t5, e1, e2, e3, e4, e5, e6, e7, e8, e9, e10, e11⟩ := pp.next hlt
    refine ⟨0, by omega, kc_nextP pp hlt ⟨2, by omega, p5.add (by omega) (by unfold i8; decide) (fun κf adf => ?_)⟩⟩
    have cn : kI κn 72 7 = 207 := by rw [← l72]; exact c
    have path : ∀ (e : Nat) (Q : Res → Rm → Prop), dS (oC κ) + 18 ≤ e → (∃ e16 : Nat, e16 + 1 ≤ e ∧ AC X 92 e16 MX13_readBlock [vR 92] (wI (wS σn 10 (nI (pC κn + 1))) 27 (rT σ) (nI (rJ σn))) (aTV Q fun s19 => ∃ e20 : Nat, e20 + 1 ≤ e ∧ AC X 92 e20 MX13_emit [vR 92, vI 30, vI (nI (rT σ)), vI 0] s19 (aRI fun y23 s24 => A X 92 e MX13_readTry 255 [(0, vR 92), (1, vI (nI (rT σ))), (2, vI y23), (3, vI 1)] [] s24 Q))) → A X 92 e MX13_readTry 0 [(0, vR 92)] [] (em σ 0 (kI κ 72 8) 0) Q := fun e Q he hA => rp e Q he (a_readTry_57 _ _ _ ⟨5, by simp only [dS] at he; omega, ac_isWord (w := 6) pn (by decide) (fun z => absurd z nc) (fun _ => ⟨fun _ => ⟨5, by simp only [dS] at he; omega, ac_isWord (w := 7) pn (by decide) (fun _ => ⟨fun z => absurd z (by decide), fun _ => by
      rintro s13 rfl
      rw [wS_at pn, vpn (by omega), cl_nI (by omega)]
      refine ⟨hT, ?_⟩
      rintro s15 rfl
      rw [sI_ne (by decide), s17]
      exact hA⟩) (fun z => absurd cn z)⟩, fun z => absurd rfl z⟩)⟩)
    rw [w1] at p5 t5 e1 e2 e3 e4 e5 e6 e7 e8 e9 e10 e11
    have adf' := adf
    rw [w1] at adf'
    obtain ⟨p6, t6, f1, f2, f3, f4, f5, f6, f7, f8, f9, f10, f11⟩ := p5.pr (f := 27) (k := rT σ) (v := nI (rJ σn)) (by omega)
    obtain ⟨⟨p7, t7⟩, i1, i2, i3, i4, i5, i6, i7, i8, i9, i10, i11⟩ := p6.addC (by omega) adf'
    have tnf : T0 b κn σn κf (wI (wS σn 10 (nI (pC κn + 1))) 27 (rT σ) (nI (rJ σn))) := ((tp.trans t5.t0).trans t6).trans t7.t0
    have hbf : Bdb κf (wI (wS σn 10 (nI (pC κn + 1))) 27 (rT σ) (nI (rJ σn))) := by
      unfold Bdb
      omega
    have hpf : pC κf = pC κn + 1 := by omega
    have sub := hB _ _ p7 hbf (by omega)
    have of : oC κf = oC κ := by omega
    rw [of] at sub
    have bi7 : iC κf ≤ 9020 := by omega
    clear e1 e2 e3 e4 e5 e6 e7 e8 e9 e10 e11 f1 f2 f3 f5 f6 f9 f10 f11 i1 i2 i5 i6 i9 i10 i11
    refine ⟨_, by omega, sub.k (fun κg σg hr okb => ⟨fun z => absurd z (by decide), fun _ => ?_⟩) (fun κg σg hr bd => ⟨fun _ => ⟨_, rfl, Or.inl rfl, _, rfl, q0 _ _ (bd.pre0 (tn0.trans tnf)) (fun e Q he hq => path e Q he ⟨_, by simp only [dS] at he ⊢; omega, acr_bad hr hq⟩)⟩, fun z => absurd rfl z⟩)⟩
    obtain ⟨blk, hp2, hi6, hj6, ht2, hc2⟩ := okb
    have pg := blk.1
    have hpg := pg.p3
    have hig : iC κg < 9890 ∧ rJ σg < 11900 := by
      have e1 := blk.2.2.2.2.2.1
      omega
    refine ⟨2, by omega, pg.add (by omega) (by unfold i8; decide) (fun κa ad => ?_)⟩
    obtain ⟨st, lt⟩ := fin_yes h hb' t00' ti' pl' hlt adf blk hp2 hi6 hj6 ht2 hc2 ad
    refine ⟨_, rfl, Or.inr rfl, _, rfl, q1 _ _ st lt (fun e Q he hq => path e Q he ⟨_, by simp only [dS] at he ⊢; omega, acr_ok hr ⟨0, by simp only [dS] at he; omega, ac_emit pg.2.2.2.2.2.2.2.2.2.2.2.1 (by omega) (a_readTry_255 _ _ _ ⟨fun z => absurd z (by decide), fun _ => a_readTry_272 _ _ _ ?_⟩)⟩⟩)⟩
    rw [vpn (by omega), cl_nI (by omega), em_17]
    refine ⟨hT, ?_⟩
    rintro s2 rfl
    exact hq
  · have n7' : kI κn 72 7 ≠ 207 := by rw [← l72]; exact nc7
    have f1 : 1 ≤ f := hf.resolve_right n7'
    refine ⟨2, by omega, pp.add (by omega) (by unfold i8; decide) (fun κa ad => ?_)⟩
    obtain ⟨st, lt⟩ := fin_no h hb' t00' ti' f1 pl' ad
    refine ⟨_, rfl, Or.inr rfl, _, rfl, q1 _ _ st lt (fun e Q he hq => rp e Q he (a_readTry_57 _ _ _ ⟨5, by simp only [dS] at he; omega, ac_isWord (w := 6) pn (by decide) (fun z => absurd z nc) (fun _ => ⟨fun _ => ⟨5, by simp only [dS] at he; omega, ac_isWord (w := 7) pn (by decide) (fun z => absurd z n7') (fun _ => ⟨fun _ => a_readTry_255 _ _ _ ⟨fun z => ?_, fun _ => a_readTry_272 _ _ _ ?_⟩, fun z => absurd rfl z⟩)⟩, fun z => absurd rfl z⟩)⟩))⟩
    · have := (nI_eq (a := f) (b := 0) (by omega) (by omega)).mp z
      omega
    · rw [vpn (by omega), cl_nI (by omega), s17]
      refine ⟨hT, ?_⟩
      rintro s2 rfl
      exact hq
theorem try_loop {m d0 : Nat} {x1 : Int32} {F : Int32 → Km → Prop} (hB : SpB X N b P m) (h : Ps κ σ N b P) (hb : Bds κ σ) (hd0 : dS (oC κ) + 5 ≤ d0) (t00 : T00 N b P κ σ κk σk κb σb κ0 σ0)
    (q1 : ∀ κ' σ', ST N b P 1 κ σ κ' σ' → pC κ < pC κ' → RTr X κ σ σ' (.inl none) → F 1 κ') (q0 : ∀ κ' σ', Flt b κ σ 9200 κ' σ' → RTr X κ σ σ' (.inr 93) → F 0 κ') : ∀ (g i : Nat) (κn : Km) (σn : Rm) (lv : List Nat) (p f : Nat) (x2 : Int32), N + 1 - pC κn ≤ g → N + 1 - pC κn ≤ m → i ≤ pC κn → p < 20000 → TyI N b P κ σ κ0 σ0 κn σn lv p f → f ≤ 1 → RPt X κ σ 57 [(0, vR 92), (1, vI (nI (rT σ))), (2, vI x2), (3, vI (nI f))] σn → (1 ≤ f ∨ kI κn 72 7 = 206 ∨ kI κn 72 7 = 207) → K X d0 MX5_readTry 94 [(0, vR 77), (1, vI x1), (2, vI (nI p)), (3, vI (nI i))] [] κn (kRI F) := by
  have ho2 : oC κ ≤ 24 := h.2.2.2.2.2.2.2.2.1
  intro g
  induction g with
  | zero =>
    intro i κn σn lv p f x2 hg hm hi hpp ti
    have := ti.1.2.2.2.2.2.1
    omega
  | succ g ih =>
    intro i κn σn lv p f x2 hg hm hi hpp ti hf2 rp hk
    have ti' := ti
    have hb' := hb
    have tb0 : T0 b κ σ κ0 σ0 := t00.1.trans (t00.2.1.2.1.t0.trans t00.2.2.1)
    have lB3 : rT σ < rT σ0 ∧ rC σ ≤ rC σ0 ∧ 1 ≤ iC κ0 := by
      obtain ⟨-, a2, -, -, ⟨c1, c2, c3, c4, c5, c6, c7, c8, -⟩, -⟩ := t00
      have y1 := a2.2.1.2.2.1.2.2.1
      have y2 := a2.2.1.2.2.1.2.2.2.1
      omega
    obtain ⟨⟨b1, b2, b3, b4, b5, b6, b7⟩, b8, b9, b10⟩ := hb
    obtain ⟨pn, tr0, tcN, ltN, cs, lvb, lch, llen, hlv, n1, n2, n3, n4, n5, n6, n7, n8, n9, n10, n11, n12, n13, n14⟩ := ti
    have hpn := pn.p3
    have tn0 : T0 b κ σ κn σn := tb0.trans tr0.t0
    refine k_5_readTry_94 _ _ _ ?_
    rw [litI 3001, le_nI (by omega) (by omega)]
    refine ⟨fun z => absurd z (by omega), fun _ => ⟨fun c => ?_, fun nc => ?_⟩⟩
    · refine ⟨dS (oC κ) + 4, by omega, catch_head (t := rT σ) (x2 := x2) (x3 := nI f) (κ := κ) (σ := σ) pn (by omega) (by omega) (by omega) (by omega) (by omega) c rp (fun κ' σ' fl r => ⟨fun _ => k_5_readTry_134 _ _ _ _ ⟨_, rfl, q0 κ' σ' (fl.pre0 tn0) r⟩, fun z => absurd rfl z⟩) (fun κk' σk' ch => ⟨fun z => absurd z (neg9 (by omega)), fun _ => ?_⟩)⟩
      have ch' := ch
      obtain ⟨κd, σd, v, tok, y, x30, ⟨pk, tnk⟩, ⟨d1, d2, d3, d4, d5, d6, d7, d8, d9, d10, d11⟩, -, -, -, -, -, -, -, -, -, rb⟩ := ch
      have hbk : Bdb κk' σk' := by
        unfold Bdb
        omega
      have sub := hB _ _ pk hbk (by omega)
      have ok : oC κk' = oC κ := by omega
      rw [ok] at sub
      refine ⟨_, by omega, sub.k (fun κb' σb' hr okb => ⟨fun z => absurd z (by decide), fun _ => ?_⟩) (fun κb' σb' hr bd => ⟨fun _ => k_5_readTry_134 _ _ _ _ ⟨_, rfl, q0 _ _ (bd.pre0 (tn0.trans tnk.t0)) (fun e Q he hq => rb e Q he ⟨_, by simp only [dS] at he ⊢; omega, acr_bad hr hq⟩)⟩, fun z => absurd rfl z⟩)⟩
      obtain ⟨blk, hp2, hi6, hj6, ht2, hc2⟩ := okb
      have pb := blk.1
      have hpb := pb.p3
      have lB : iC κk' ≤ iC κb' := blk.2.1.2.2.1.1
      have hig : iC κb' < 9890 ∧ rJ σb' < 11900 := by omega
      have kb : rK σb' = rK σ + 1 := by
        have := blk.2.2.2.2.2.2.2.2.2.2.2.2.2.1
        omega
      refine ⟨2, by omega, pb.add (by omega) (by unfold i8; decide) (fun κa ad => ?_)⟩
      obtain ⟨ti2, hp, k72⟩ := catch_next ti' tb0 hb' lB3.2.2 ⟨lB3.1, lB3.2.1⟩ ch' blk hp2 hi6 hj6 ht2 hc2 ad
      have pa := pb.addC (by omega) ad
      have ia := pa.2.2.2.1
      refine ⟨0, by omega, kc_csize pa.1.1 ⟨0, by omega, kc_patch pa.1.1 (k := iC κn + 1) (by omega) (by omega) ?_⟩⟩
      rw [nI_1]
      refine ih (i + 1) _ _ _ _ 1 (nI (rJ (wS σb' 35 (nI (rK σ))))) (by omega) (by omega) (by omega) (by omega) ti2 (Nat.le_refl _) (fun e Q he hA => rb e Q he ⟨_, by simp only [dS] at he ⊢; omega, acr_ok hr ?_⟩) (Or.inl (Nat.le_refl _))
      rintro s27 rfl
      have s35 : sI σb' 35 - 1 = nI (rK σ) := by
        rw [pb.2.2.2.2.2.2.2.2.2.2.2.2.2.2.2.2.1, kb]
        exact nI_sb (a := rK σ + 1) (b := 1) (by omega)
      rw [s35]
      obtain ⟨pm, -, -, -, -, m4, -⟩ := pb.nest (f := 35) (v := rK σ) (Or.inl rfl) (by omega)
      exact ⟨0, by simp only [dS] at he; omega, ac_emit pm.2.2.2.2.2.2.2.2.2.2.2.1 (by omega) hA⟩
    · refine k_5_readTry_169 _ _ _ ?_
      show K X d0 MX5_readTry 171 [(0, vR 77), (1, vI x1), (2, vI (nI p)), (3, vI (nI 0))] [] κn (kRI F)
      exact leaves lv κn (nI p) 0 pn (by omega) lch (fun k hk => (lvb k hk).1) (by omega) (by omega) (fun κ' y' i' pl => try_end hB h hb' hd0 t00 ti' pl hm rp nc (by
        rcases hk with hk | hk | hk
        · exact Or.inl hk
        · exact absurd hk nc
        · exact Or.inr hk) hf2 q1 q0)
theorem try_core {m d0 : Nat} {F : Int32 → Km → Prop} (hB : SpB X N b P m) (h : Ps κ σ N b P) (hb : Bds κ σ) (hm : N + 1 - pC κ ≤ m + 1) (ad : AdC κ κ1 20 (kI κ 72 8)) (hd0 : dS (oC κ) + 5 ≤ d0) (hc : kI κ1 72 7 = 205) (q1 : ∀ κ', OkS X N b P κ σ κ' → F 1 κ') (q0 : ∀ κ', BadS X b κ σ κ' → F 0 κ') : KC' X d0 MX5_readTry [vR 77] κ1 (kRI F) := by
  have ho2 : oC κ ≤ 24 := h.2.2.2.2.2.2.2.2.1
  have bi := hb.1.i h
  have hp0 := h.p3
  have hj : rJ σ < 12000 := by omega
  have hb' := hb
  obtain ⟨⟨b1, b2, b3, b4, b5, b6, b7⟩, b8, b9, b10⟩ := hb
  obtain ⟨p1, t1, w1, w2, w3, w4, w5, w6, w7, w8, w9, w10, w11⟩ := act_pair (op := 0) (y := kI κ 72 8) (z := 0) h (by omega) (by omega) ad
  have hlt := p1.n0 (c := 205) hc (by omega) (by omega)
  obtain ⟨p2, t2, m1, m2, m3, m4, m5, m6, m7, m8, m9, m10, m11⟩ := p1.next hlt
  have st := em_at (σ := σ) (x := 0) (y := kI κ 72 8) (z := 0)
  have okq : ∀ κ' σ', ST N b P 1 κ σ κ' σ' → pC κ < pC κ' → RTr X κ σ σ' (.inl none) → F 1 κ' := fun κ' σ' s lt r => q1 κ' ⟨σ', s, lt, r.rs h hj p1 hc (Or.inl rfl)⟩
  have badq : ∀ κ' σ', Flt b κ σ 9200 κ' σ' → RTr X κ σ σ' (.inr 93) → F 0 κ' := fun κ' σ' fl r => q0 κ' ⟨σ', fl, r.rs h hj p1 hc (Or.inr rfl)⟩
  have s29 : sI (wS (em σ 0 (kI κ 72 8) 0) 10 (nI (pC κ1 + 1))) 29 = nI (rT σ) := by
    have e := p2.2.2.2.2.2.2.2.2.2.2.2.2.1
    rw [e, m7, w7]
  refine KC_of_K rfl (Nat.le_of_ble_eq_true rfl) rfl (k_5_readTry_0 ⟨0, by simp only [dS] at hd0; omega, kc_nextP p1 hlt ⟨2, by simp only [dS] at hd0; omega, p2.add (by omega) (by unfold i8; decide) (fun κg adg => ?_)⟩⟩)
  have hT2 : rT (wS (em σ 0 (kI κ 72 8) 0) 10 (nI (pC κ1 + 1))) = rT σ := m7.trans w7
  obtain ⟨pk, tk, ⟨k1, k2, k3, k4, k5, k6, k7, k8, k9, k10, k11⟩, r13, r14, r27⟩ := p2.tyw (by omega) (by omega) (by omega) adg
  obtain ⟨pt, -, -, -, -, pt4, -⟩ := p2.cnt (f := 29) (v := rT σ + 1) (Or.inl rfl) (by omega) ⟨fun _ => by omega, fun z => absurd z (by decide)⟩
  have path1 : ∀ (e : Nat) (Q : Res → Rm → Prop), dS (oC κ) + 18 ≤ e → (∃ e10 : Nat, e10 + 1 ≤ e ∧ AC X 92 e10 MX13_readBlock [vR 92] (tyW (wS (em σ 0 (kI κ 72 8) 0) 10 (nI (pC κ1 + 1)))) (aTV Q fun s13 => ∃ e14 : Nat, e14 + 1 ≤ e ∧ AC X 92 e14 MX13_emit [vR 92, vI 29, vI (nI (rT σ)), vI 0] s13 (aRI fun y17 s18 => A X 92 e MX13_readTry 57 [(0, vR 92), (1, vI (nI (rT σ))), (2, vI y17), (3, vI 0)] [] s18 Q))) → A X 92 e MX13_readTry 0 [(0, vR 92)] [] (em σ 0 (kI κ 72 8) 0) Q := fun e Q he hA => a_readTry_0 (by
    rintro s1 rfl
    rw [wS_at p1, s29, nI_1]
    rintro s2 rfl
    refine ⟨0, by simp only [dS] at he; omega, ac_emit pt.2.2.2.2.2.2.2.2.2.2.2.1 (by omega) ?_⟩
    rw [vpn (by omega), cl_nI (by omega)]
    refine ⟨by omega, ?_⟩
    rintro s9 rfl
    unfold tyW at hA
    rw [hT2] at hA
    exact hA)
  rw [m4, w4] at r13 r14
  rw [hT2] at r14 r27
  generalize hσk : tyW (wS (em σ 0 (kI κ 72 8) 0) 10 (nI (pC κ1 + 1))) = σk at *
  have z1 : pC κg = pC κ + 1 := by omega
  have z2 : oC κg = oC κ := by omega
  have z3 : iC κg = iC κ + 2 := by omega
  have z4 : rJ σk = rJ σ + 2 := by omega
  have z5 : rU σk = rU σ := by omega
  have z6 : rA σk = rA σ := by omega
  have z7 : rT σk = rT σ + 1 := by omega
  have z8 : rC σk = rC σ := by omega
  have z9 : rV σk = rV σ := by omega
  have z10 : rK σk = rK σ := by omega
  have z11 : rE σk = rE σ := by omega
  have i2 : iC (setC κ1 (pC κ1 + 1)) = iC κ + 1 := by omega
  have j2 : rJ (wS (em σ 0 (kI κ 72 8) 0) 10 (nI (pC κ1 + 1))) = rJ σ + 1 := by omega
  have tAk : Tr b κ σ κg σk := (t1.trans t2).trans tk
  have g20 : kI κg 69 (iC κ) = 20 ∧ kI κg 70 (iC κ) = kI κ 72 8 := by
    have e1 := add_old adg (k := iC κ) (by omega)
    have e2 := t2.2.2.1.2.2.2.2.2.2.1 (iC κ) (by omega)
    rw [e1.1, e1.2, e2.1, e2.2]
    exact ⟨ad.2.1, ad.2.2.1⟩
  have g40 : kI κg 69 (iC κ + 1) = 40 := by
    have := adg.2.1
    rw [i2] at this
    exact this
  have gr : aI σk 13 (rJ σ) = 0 ∧ aI σk 14 (rJ σ) = kI κ 72 8 := by
    have e := (t2.trans tk).2.2.1.2.2.2.2.2.2.2.1 (rJ σ) (by omega)
    exact ⟨e.1.trans st.1, e.2.1.trans st.2.1⟩
  clear w1 w2 w3 w4 w5 w6 w7 w8 w9 w10 w11 m1 m2 m3 m4 m5 m6 m7 m8 m9 m10 m11 k1 k2 k3 k4 k5 k6 k7 k8 k9 k10 k11
  have hbk : Bdb κg σk := by
    unfold Bdb
    omega
  have sub := hB _ _ pk hbk (by omega)
  rw [z2] at sub
  refine ⟨_, by simp only [dS] at hd0 ⊢; omega, sub.k (fun κb σb hr okb => ⟨fun z => absurd z (by decide), fun _ => ?_⟩) (fun κb σb hr bd => ⟨fun _ => ⟨_, rfl, badq _ _ (bd.pre tAk) (fun e Q he hq => path1 e Q he ⟨_, by simp only [dS] at he ⊢; omega, acr_bad hr hq⟩)⟩, fun z => absurd rfl z⟩)⟩
  obtain ⟨blk, hp2, hi6, hj6, ht2, hc2⟩ := okb
  have blk' := blk
  obtain ⟨pb, tb, cb, sb, l1, l2, l3, l4, l5, l6, l7, l8, l9, l10, l11⟩ := blk
  have hpb := pb.p3
  have lB : iC κg ≤ iC κb := tb.2.2.1.1
  have lB2 : rJ σk ≤ rJ σb := tb.2.2.1.2.1
  have lB3 : rT σk ≤ rT σb := tb.2.2.1.2.2.1
  have lB4 : rC σk ≤ rC σb := tb.2.2.1.2.2.2.1
  have hi3 : iC κb ≤ 9010 ∧ rJ σb ≤ 9010 ∧ rT σb ≤ 999 := by omega
  have s17b : sI σb 17 = nI (rJ σb) := pb.2.2.2.2.2.2.2.2.2.2.2.1
  have rp57 : RPt X κ σ 57 [(0, vR 92), (1, vI (nI (rT σ))), (2, vI (nI (rJ σb))), (3, vI (nI 0))] (em σb 29 (nI (rT σ)) 0) := fun e Q he hA => path1 e Q he ⟨_, by simp only [dS] at he ⊢; omega, acr_ok hr ⟨0, by simp only [dS] at he; omega, ac_emit s17b (by omega) hA⟩⟩
  have main : kI κb 72 7 = 206 ∨ kI κb 72 7 = 207 → K X d0 MX5_readTry 65 [(0, vR 77), (1, vI (nI (iC (setC κ1 (pC κ1 + 1)))))] [] κb (kRI F) := fun hk => by
    refine k_5_readTry_65 _ ⟨2, by simp only [dS] at hd0; omega, pb.add (by omega) (by unfold i8; decide) (fun κa ada => ?_)⟩
    obtain ⟨pa, ta, a1, a2, a3, a4, a5, a6, a7, a8, a9, a10, a11⟩ := act_pair (op := 29) (y := nI (rT σ)) (z := 0) pb (by omega) (by omega) ada
    have sat := em_at (σ := σb) (x := 29) (y := nI (rT σ)) (z := 0)
    have aem : ∀ g, 17 < g → aI (em σb 29 (nI (rT σ)) 0) g = aI σb g := fun g hg => em_a (Or.inr hg)
    have emo : ∀ q, q < rJ σb → aI (em σb 29 (nI (rT σ)) 0) 13 q = aI σb 13 q ∧ aI (em σb 29 (nI (rT σ)) 0) 14 q = aI σb 14 q := fun q hq => by
      have e := em_ne (σ := σb) (x := 29) (y := nI (rT σ)) (z := 0) (q := q) (by omega)
      exact ⟨e.1, e.2.1⟩
    generalize hσ0 : em σb 29 (nI (rT σ)) 0 = σ0 at *
    refine ⟨0, by simp only [dS] at hd0; omega, kc_csize pa ⟨0, by simp only [dS] at hd0; omega, kc_patch pa (k := iC (setC κ1 (pC κ1 + 1))) (by omega) (by omega) ?_⟩⟩
    obtain ⟨pj, tj, c1, c2, c3, c4, c5, c6, c7, c8, c9, c10, c11⟩ := pa.pk (k := iC κ + 1) (v := nI (iC κa))
    rw [i2]
    have k69 : kI (cI κa 70 (iC κ + 1) (nI (iC κa))) 69 = kI κa 69 := kI_ne (by decide)
    have k72 : kI (cI κa 70 (iC κ + 1) (nI (iC κa))) 72 = kI κb 72 := by rw [kI_ne (by decide)]; exact (ada.2.2.2.2.2.1.1 72 (by decide)).1
    have k70 : ∀ k, k ≠ iC κ + 1 → kI (cI κa 70 (iC κ + 1) (nI (iC κa))) 70 k = kI κa 70 k := fun k hk => kI_nk hk
    have k70e : kI (cI κa 70 (iC κ + 1) (nI (iC κa))) 70 (iC κ + 1) = nI (iC κa) := kI_eq
    have agB : Agr κg σk κb σb (cI κa 70 (iC κ + 1) (nI (iC κa))) σ0 := Agr.pk (Agr.step ta) (Or.inl (by omega))
    have bel : Bel κ σ (cI κa 70 (iC κ + 1) (nI (iC κa))) σ0 := Agr.pk (Agr.step ((tAk.trans tb).trans ta)) (Or.inr (by omega))
    have tbj : T0 b κb σb (cI κa 70 (iC κ + 1) (nI (iC κa))) σ0 := ta.t0.trans tj
    generalize hκ0 : cI κa 70 (iC κ + 1) (nI (iC κa)) = κ0 at *
    have i0 : iC κ0 = iC κb + 1 := by omega
    have ia : iC κa = iC κ0 := c3.symm
    have j0 : rJ σ0 = rJ σb + 1 := by omega
    have x1 : rC σ0 = rC σb := by omega
    have x2 : rT σ0 = rT σb := by omega
    have x3 : pC κ0 = pC κb ∧ oC κ0 = oC κb ∧ rU σ0 = rU σb ∧ rA σ0 = rA σb ∧ rV σ0 = rV σb ∧ rK σ0 = rK σb ∧ rE σ0 = rE σb := by omega
    clear a1 a2 a3 a4 a5 a6 a7 a8 a9 a10 a11 c1 c2 c3 c4 c5 c6 c7 c8 c9 c10 c11
    have ko : ∀ k, k < iC κg → kI κa 69 k = kI κg 69 k ∧ kI κa 70 k = kI κg 70 k := fun k hk => by
      have e1 := add_old ada (k := k) (by omega)
      have e2 := tb.2.2.1.2.2.2.2.2.2.1 k hk
      rw [e1.1, e1.2]
      exact e2
    have ro : ∀ k, k < rJ σk → aI σ0 13 k = aI σk 13 k ∧ aI σ0 14 k = aI σk 14 k := fun k hk => by
      have e1 := emo k (by omega)
      have e2 := tb.2.2.1.2.2.2.2.2.2.2.1 k hk
      exact ⟨e1.1.trans e2.1, e1.2.trans e2.2.1⟩
    have o1 : kI κ0 69 (iC κ) = 20 ∧ kI κ0 70 (iC κ) = kI κ 72 8 ∧ aI σ0 13 (rJ σ) = 0 ∧ aI σ0 14 (rJ σ) = kI κ 72 8 := by
      have e1 := ko (iC κ) (by omega)
      have e2 := ro (rJ σ) (by omega)
      rw [k69, k70 _ (by omega), e1.1, e1.2, e2.1, e2.2]
      exact ⟨g20.1, g20.2, gr.1, gr.2⟩
    have o2 : kI κ0 69 (iC κ + 1) = 40 ∧ kI κ0 70 (iC κ + 1) = nI (iC κ0) ∧ aI σ0 13 (rJ σ + 1) = 28 ∧ aI σ0 14 (rJ σ + 1) = nI (rT σ) := by
      have e1 := ko (iC κ + 1) (by omega)
      have e2 := ro (rJ σ + 1) (by omega)
      rw [k69, k70e, e1.1, e2.1, e2.2, ia]
      exact ⟨g40, rfl, r13, r14⟩
    have oj : kI κ0 69 (iC κb) = 15 ∧ aI σ0 13 (rJ σb) = 29 ∧ aI σ0 14 (rJ σb) = nI (rT σ) := by
      rw [k69]
      exact ⟨ada.2.1, sat.1, sat.2.1⟩
    have ol : kI κ0 70 (iC κb) = -9 := by
      rw [k70 _ (by omega)]
      exact ada.2.2.1
    have o27 : aI σ0 27 (rT σ) = -9 := by
      rw [aem 27 (by decide), (tb.2.2.1.2.2.2.2.2.2.2.2.2.2.1 (rT σ) (by omega)).1]
      exact r27
    have t00 : T00 N b P κ σ κg σk κb σb κ0 σ0 := ⟨tAk.t0, blk', tbj, agB, ⟨z3, z4, z8, z7, i0, j0, x1, x2, z2, z11, z10⟩, o1, o2, oj, o27, bel⟩
    have tc0 : Tc σk σ0 := fun c h1 h2 => by
      obtain ⟨u, u1, u2, u3, u4⟩ := cb c h1 (by omega)
      exact ⟨u, by rw [aem 45 (by decide)]; exact u1, u2, by omega, u4⟩
    have ti : TyI N b P κ σ κ0 σ0 κ0 σ0 [iC κb] (iC κb) 0 := by
      refine ⟨pj, Tr.refl, fun c h1 h2 => ?_, fun c h1 h2 => absurd h1 (by omega), cs_nil tc0 z8 z7 (by omega), fun k hk => ?_, ⟨rfl, fun q hq => absurd hq List.not_mem_nil, ol⟩, ?_, ?_, ?_⟩
      · obtain ⟨u, u1, u2, u3, u4⟩ := tc0 c (by omega) h2
        exact ⟨u, u1, by omega, u3, u4⟩
      · have e : k = iC κb := List.mem_singleton.mp hk
        omega
      · show 1 ≤ _
        omega
      · rw [i0]
        exact List.mem_singleton.mpr rfl
      · unfold TN
        omega
    have kk := try_loop (m := m) (d0 := d0) (x1 := nI (iC κ + 1)) hB h hb' hd0 t00 okq badq (N + 1 - pC κ0) 0 κ0 σ0 [iC κb] (iC κb) 0 (nI (rJ σb)) (Nat.le_refl _) (by omega) (Nat.zero_le _) (by omega) ti (by decide) rp57 (Or.inr (by rw [k72]; exact hk))
    exact kk
  refine ⟨fun c => main (Or.inl c), fun n6 => ⟨fun c => main (Or.inr c), fun n7 => ⟨0, by simp only [dS] at hd0; omega, kc_refuse ⟨Or.inl rfl, _, rfl, ?_⟩⟩⟩⟩
  obtain ⟨⟨pe, te⟩, -⟩ := pb.emit (x := 29) (y := nI (rT σ)) (z := 0) (by omega)
  refine badq _ _ ((Flt.at pe (by omega)).pre ((tAk.trans tb).trans te)) (fun e Q he hq => rp57 e Q he (a_readTry_57 _ _ _ ⟨5, by simp only [dS] at he; omega, ac_isWord (w := 6) pe (by decide) (fun z => absurd z n6) (fun _ => ⟨fun _ => ⟨5, by simp only [dS] at he; omega, ac_isWord (w := 7) pe (by decide) (fun z => absurd z n7) (fun _ => ⟨fun _ => a_readTry_255 _ _ _ ⟨fun _ => ?_, fun z => absurd rfl z⟩, fun z => absurd rfl z⟩)⟩, fun z => absurd rfl z⟩)⟩))
  obtain ⟨f, t, f1, f2, -⟩ := pe.tok
  rw [pe.2.2.2.2.1, vpn (by omega), cl_nI (by omega), f2, ← f1]
  exact ⟨by omega, 0, by simp only [dS] at he; omega, ac_failT hq⟩
end TRR
