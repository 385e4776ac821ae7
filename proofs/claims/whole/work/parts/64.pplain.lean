/-! names, numbers, new, inject -/
section PLAIN
variable {X : Cx} {N b P : Nat} {κ : Km} {σ : Rm}
/-- what a piece of P ends with -/
def OkP (X : Cx) (N b P : Nat) (κ : Km) (σ : Rm) (κ' : Km) : Prop := ∃ σ', ES1 N b P (6 * oC κ + 3) 0 1 κ σ κ' σ' ∧ De κ σ κ' σ' ∧ RP X κ σ σ' (.inl none)
def BadP (X : Cx) (b : Nat) (κ : Km) (σ : Rm) (κ' : Km) : Prop := ∃ σ', Flt b κ σ (9010 + 4 * (24 - oC κ)) κ' σ' ∧ RP X κ σ σ' (.inr 93)
theorem us_eq {σ : Rm} {q t : Int32} (h : sI σ 44 = nI (rU σ)) (hu : rU σ < 1600) : (vp_in (sI σ 44) 1600) ∧ wI σ 42 ((sI σ 44 : Int32).toNatClampNeg) q = wI σ 42 (rU σ) q ∧ (∀ s32, s32 = wI σ 42 (rU σ) q → (vp_in (sI s32 44) 1600) ∧ ∀ s34, s34 = wI s32 43 ((sI s32 44 : Int32).toNatClampNeg) t → ∀ s35, s35 = wS s34 44 (sI s34 44 + 1) → s35 = us σ q t) := by
  refine ⟨by rw [h, vpn (by omega)]; exact hu, by rw [h, cl_nI (by omega)], ?_⟩
  rintro s32 rfl
  rw [sI_ne (by decide), h, vpn (by omega), cl_nI (by omega)]
  refine ⟨hu, ?_⟩
  rintro s34 rfl s35 rfl
  rw [sI_ne (by decide), sI_ne (by decide), h, nI_1]
  rfl
theorem name_core {m : Nat} {F : Int32 → Km → Prop} (hs : SpE X N b P m) (h : Ps κ σ N b P) (hb : Bdd κ σ) (hm : N + 1 - pC κ ≤ m + 1) (hk : kI κ 72 7 = 2 ∨ kI κ 72 7 = 5) (q1 : ∀ κ', OkP X N b P κ σ κ' → F 1 κ') (q0 : ∀ κ', BadP X b κ σ κ' → F 0 κ') : KC' X (dU (oC κ) - 2) MX5_readVariableOrCall [vR 77] κ (kRI F) := by
  have ho2 : oC κ ≤ 24 := h.2.2.2.2.2.2.2.2.1
  have bi := hb.i h
  have hp3 := h.p3
  refine KC_of_K rfl (Nat.le_of_ble_eq_true rfl) rfl (k_5_readVariableOrCall_0 ⟨1, by simp only [dU]; omega, kc_isName (fun c => ⟨fun z => absurd z (by decide), fun _ => ?_⟩) (fun c => ⟨fun _ => ⟨_, rfl, q0 _ ⟨_, Flt.at' (k := 8) h (by omega) (by omega), fun d Q hd hq => rp_name h hk ⟨1, by simp only [dU] at hd; omega, ac_mustName h (fun z => absurd (c.symm.trans z) (by decide)) (fun _ => hq) (fun _ z => absurd c z)⟩⟩⟩, fun z => absurd rfl z⟩) (fun c c5 => by
    rcases hk with z | z
    · exact absurd z c
    · exact absurd z c5)⟩)
  have hlt : pC κ < N := h.n0 (c := 2) c (by omega) (by omega)
  obtain ⟨p1, t1, n1, n2, n3, n4, n5, n6, n7, n8, n9, n10, n11⟩ := h.next hlt
  have tp1 := h.tp hlt
  have hnk : Nk N κ (pC κ) := ⟨h.2.2.2.2.2.1, h.2.2.1.symm.trans c⟩
  refine ⟨0, by simp only [dU]; omega, kc_index h ⟨0, by simp only [dU]; omega, kc_nextP h hlt ⟨fun c40 => ?_, fun c40 => ?_⟩⟩⟩
  · have bad : ∀ (κ' : Km), F 0 κ' → K X (dU (oC κ) - 2) MX5_readVariableOrCall 74 [(0, vR 77), (1, vI (nI (pC κ)))] [] κ' (kRI F) := fun κ' hF => k_5_readVariableOrCall_74 _ (k_5_readVariableOrCall_75 _ _ ⟨Or.inl rfl, _, rfl, hF⟩)
    refine ⟨1, by simp only [dU]; omega, kc_takeOpening p1 (by decide) (by decide) (fun _ o1 => ⟨fun z => absurd z (by decide), fun _ => ?_⟩) (fun o1 => ⟨fun _ => bad _ (q0 _ ⟨_, (Flt.at p1 (by omega)).pre t1, fun d Q hd hq => rp_name h hk ⟨1, by simp only [dU] at hd; omega, ac_mustName h (fun _ => ⟨0, by simp only [dU] at hd; omega, ac_isSign p1 (by decide) (fun _ => ⟨fun z => absurd z (by decide), fun _ => ⟨1, by simp only [dU] at hd; omega, ac_opens p1 (fun z => absurd ⟨c40, z⟩ o1) (fun _ => hq)⟩⟩) (fun z => absurd c40 z)⟩) (fun z => absurd (c.symm.trans z) (by decide)) (fun z => absurd c z)⟩⟩), fun z => absurd rfl z⟩)⟩
    have hlt1 : pC (setC κ (pC κ + 1)) < N := p1.n0 (c := 40) c40 (by omega) (by omega)
    obtain ⟨tp, m1, m2, m3, m4, m5, m6, m7, m8, m9, m10, m11⟩ := p1.op2 hlt1 o1
    have ho1 : oC κ < 24 := by omega
    -- the way up to the values
    have path : ∀ (d : Nat) (Q : Res → Rm → Prop), dU (oC κ) ≤ d + 1 → A X 92 d MX13_readP 60 [(0, vR 92), (2, vI (nI (pC κ))), (3, vI 0)] [] (opS (setC κ (pC κ + 1)) (wS σ 10 (nI (pC κ + 1)))) Q → A X 92 d MX13_readP 0 [(0, vR 92)] [] σ Q := fun d Q hd hA => rp_name h hk ⟨1, by simp only [dU] at hd; omega, ac_mustName h (fun _ => ⟨0, by simp only [dU] at hd; omega, ac_isSign p1 (by decide) (fun _ => ⟨fun z => absurd z (by decide), fun _ => ⟨1, by simp only [dU] at hd; omega, ac_opens p1 (fun _ => hA) (fun z => absurd o1 z)⟩⟩) (fun z => absurd c40 z)⟩) (fun z => absurd (c.symm.trans z) (by decide)) (fun z => absurd c z)⟩
    have av0 : Av N b P (6 * oC κ + 3) 0 κ σ (opK (setC κ (pC κ + 1))) (opS (setC κ (pC κ + 1)) (wS σ 10 (nI (pC κ + 1)))) := Or.inl ⟨rfl, tp1.trans tp⟩
    have dv0 : Dv 0 κ σ (opK (setC κ (pC κ + 1))) (opS (setC κ (pC κ + 1)) (wS σ 10 (nI (pC κ + 1)))) := by
      unfold Dv
      rw [m1, m2, m3, m4, m5, m6, m7, m8, m9, m10, m11]
      omega
    have good : ∀ κ', OkP X N b P κ σ κ' → K X (dU (oC κ) - 2) MX5_readVariableOrCall 75 [(0, vR 77), (1, vI (nI (pC κ)))] [vI 1] κ' (kRI F) := fun κ' ok => k_5_readVariableOrCall_75 _ _ ⟨Or.inr rfl, _, rfl, q1 κ' ok⟩
    refine ⟨dU (oC κ) - 3, by simp only [dU]; omega, KC_of_K rfl (Nat.le_of_ble_eq_true rfl) rfl (k_5_readValues_0 _ _ _ ⟨fun c41 => k_5_readValues_20 _ _ _ _ _ (k_5_readValues_25 _ _ _ _ _ _ ⟨fun z => absurd z (by decide), fun _ => ⟨fun _ => ?_, fun z => absurd rfl z⟩⟩), fun c41 => k_5_readValues_20 _ _ _ _ _ (k_5_readValues_25 _ _ _ _ _ _ ⟨fun z => absurd z (by decide), fun _ => ⟨fun z => absurd z (by decide), fun _ => ?_⟩⟩)⟩)⟩
    · refine call_end (n := 0) h hb (by omega) hnk (by omega) (by simp only [dU]; omega) av0 dv0 (fun κ' σ' _ es de ref => ⟨fun z => absurd z (by decide), fun _ => good κ' ⟨σ', es, de, fun d Q hd hq => path d Q hd (a_readP_60 _ _ ⟨0, by simp only [dU] at hd; omega, ac_isSign tp.1 (by decide) (fun _ => ⟨fun z => absurd z (by decide), fun _ => ⟨fun _ => ref d Q hd hq, fun z => absurd (by decide) z⟩⟩) (fun z => absurd c41 z)⟩)⟩⟩) (fun z => absurd c41 z)
    · have hb1 : Bdd (opK (setC κ (pC κ + 1))) (opS (setC κ (pC κ + 1)) (wS σ 10 (nI (pC κ + 1)))) := by
        obtain ⟨b1, b2, b3, b4, b5, b6, b7⟩ := hb
        unfold Bdd
        rw [m1, m2, m3, m4, m5, m6, m7, m8, m9]
        omega
      have sub := hs _ _ tp.1 hb1 (by rw [m1]; omega)
      rw [m2, n2] at sub
      have path2 : ∀ (d : Nat) (Q : Res → Rm → Prop), dU (oC κ) ≤ d + 1 → A X 92 d MX13_readP 108 [(0, vR 92), (2, vI (nI (pC κ))), (3, vI 0)] [] (opS (setC κ (pC κ + 1)) (wS σ 10 (nI (pC κ + 1)))) Q → A X 92 d MX13_readP 0 [(0, vR 92)] [] σ Q := fun d Q hd hA => path d Q hd (a_readP_60 _ _ ⟨0, by simp only [dU] at hd; omega, ac_isSign tp.1 (by decide) (fun z => absurd z c41) (fun _ => ⟨fun _ => a_readP_80 _ _ ⟨fun _ => a_readP_90 _ _ ⟨fun z => absurd z (by decide), fun _ => hA⟩, fun z => absurd (by decide) z⟩, fun z => absurd rfl z⟩)⟩)
      refine ⟨_, by simp only [dU]; omega, sub.k (fun κ3 σ3 hr ok => ⟨fun z => absurd z (by decide), fun _ => ⟨fun z => absurd z (by decide), fun _ => ?_⟩⟩) (fun κ3 σ3 hr bd => ⟨fun _ => ⟨_, rfl, fun _ => bad _ (q0 _ ⟨σ3, (bd.pre (t1.trans tp.2.1)).weak (by omega), fun d Q hd hq => path2 d Q hd (a_readP_108 _ _ ⟨_, by simp only [dU] at hd ⊢; omega, acr_bad hr hq⟩)⟩), fun z => absurd rfl z⟩, fun z => absurd rfl z⟩)⟩
      obtain ⟨e3, dE⟩ := ok
      have up : ES1 N b P (6 * oC κ + 3) 0 1 κ σ κ3 σ3 := (tp1.trans tp).es1 (e3.weak (by omega))
      have dv3 : Dv 1 κ σ κ3 σ3 := by
        obtain ⟨g1, g2, g3, g4, g5, g6, g7, g8, g9, g10, g11⟩ := dE
        unfold Dv
        omega
      exact call_loop (m := m) (t := pC κ) hs h hb hm (by omega) hnk (by simp only [dU]; omega) ho1 3 1 κ3 σ3 1 (by omega) (by omega) (Or.inr ⟨by omega, up⟩) dv3 (fun κ' σ' es de ref => ⟨fun z => absurd z (by decide), fun _ => good κ' ⟨σ', es, de, fun d Q hd hq => path2 d Q hd (a_readP_108 _ _ ⟨_, by simp only [dU] at hd ⊢; omega, acr_ok hr (ref d Q hd hq)⟩)⟩⟩) (fun κ' σ' fl ref => ⟨fun _ => bad κ' (q0 _ ⟨σ', fl, fun d Q hd hq => path2 d Q hd (a_readP_108 _ _ ⟨_, by simp only [dU] at hd ⊢; omega, acr_ok hr (ref d Q hd hq)⟩)⟩), fun z => absurd rfl z⟩)
  · have hj : rJ (wS σ 10 (nI (pC κ + 1))) < 12000 := by omega
    have em1 := (p1.emit (x := 2) (y := 0) (z := 0) hj)
    have hu : rU (em (wS σ 10 (nI (pC κ + 1))) 2 0 0) < 1600 := by
      have := em1.2.2.2.2.2.1
      omega
    refine ⟨2, by simp only [dU]; omega, p1.add (by omega) (by unfold i8; decide) (fun κ3 ad => ⟨_, rfl, q1 _ ?_⟩)⟩
    obtain ⟨al, w1, w2, w3, w4, w5, w6, w7, w8, w9, w10, w11⟩ := act_load (B := 6 * oC κ + 3) (y := 0) (z := 0) (t := pC κ) p1 (by omega) (by omega) (by omega) (by omega) (hnk.tr tp1.2.1) (by omega) ad
    refine ⟨_, tp1.es1 al, ?_, fun d Q hd hq => rp_name h hk ⟨1, by simp only [dU] at hd; omega, ac_mustName h (fun _ => ⟨0, by simp only [dU] at hd; omega, ac_isSign p1 (by decide) (fun z => absurd z c40) (fun _ => ⟨fun _ => ⟨0, by simp only [dU] at hd; omega, ac_emit p1.2.2.2.2.2.2.2.2.2.2.2.1 hj ?_⟩, fun z => absurd rfl z⟩)⟩) (fun z => absurd (c.symm.trans z) (by decide)) (fun z => absurd c z)⟩⟩
    · unfold De
      rw [w1, w2, w3, w4, w5, w6, w7, w8, w9, w10, w11]
      omega
    · obtain ⟨u1, u2, u3⟩ := us_eq (q := nI (rJ (wS σ 10 (nI (pC κ + 1))))) (t := nI (pC κ)) em1.1.1.2.2.2.2.2.2.2.2.2.2.2.2.2.2.1 hu
      refine ⟨u1, ?_⟩
      rintro s32 e32
      obtain ⟨u4, u5⟩ := u3 s32 (e32.trans u2)
      refine ⟨u4, ?_⟩
      intro s34 e34 s35 e35
      rw [u5 s34 e34 s35 e35]
      exact a_readP_181 _ _ (a_readP_547 hq)
theorem number_core {F : Int32 → Km → Prop} {d0 : Nat} (h : Ps κ σ N b P) (hb : Bdd κ σ) (hd0 : 5 ≤ d0) (hk : kI κ 72 7 = 3 ∨ kI κ 72 7 = 6) (q1 : ∀ κ', OkP X N b P κ σ κ' → F 1 κ') (q0 : ∀ κ', BadP X b κ σ κ' → F 0 κ') : KC' X 1 MX5_isNumber [vR 77] κ (kRI fun y12 κ13 => ((y12 = 0 → F 0 κ13) ∧ (¬ y12 = 0 → ∃ e16 : Nat, e16 + 1 ≤ d0 ∧ KC' X e16 MX5_numberHere [vR 77] κ13 (kRI fun y19 κ20 => ∃ e22 : Nat, e22 + 1 ≤ d0 ∧ KC' X e22 MX1_add [vR 68, vI 1, vI y19] κ20 (kRI fun _ κ26 => ∃ e28 : Nat, e28 + 1 ≤ d0 ∧ KC' X e28 MX9_next [vR 72] κ26 (kRV fun κ31 => F 1 κ31)))))) := by
  have ho2 : oC κ ≤ 24 := h.2.2.2.2.2.2.2.2.1
  have bi := hb.i h
  have hp3 := h.p3
  refine kc_isNumber (fun c => ⟨fun z => absurd z (by decide), fun _ => ?_⟩) (fun c => ⟨fun _ => q0 _ ⟨_, Flt.at' (k := 9) h (by omega) (by omega), fun d Q hd hq => rp_number h hk ⟨1, by simp only [dU] at hd; omega, ac_mustNumber h (fun x _ z => absurd (c.symm.trans z) (by decide)) (fun _ => hq) (fun _ z => absurd c z)⟩⟩, fun z => absurd rfl z⟩) (fun c c6 => by
    rcases hk with z | z
    · exact absurd z c
    · exact absurd z c6)
  obtain ⟨f, t, t1, t2, t3, t4, t5, t6, t7, t8⟩ := h.tok
  obtain ⟨x, hx, -, -, -, hv, -⟩ := t7.number.resolve_right (fun z => by
    rcases z with ⟨z, -⟩ | ⟨z, -⟩
    · exact absurd (c.symm.trans z) (by decide)
    · exact absurd c z)
  have hlt : pC κ < N := h.n0 (c := 3) c (by omega) (by omega)
  refine ⟨1, by omega, kc_numberHere h hx hv ⟨2, by omega, h.add (by omega) (by unfold i8; decide) (fun κ2 ad => ?_)⟩⟩
  obtain ⟨⟨p2, tr2⟩, n1, n2, n3, n4, n5, n6, n7, n8, n9, n10, n11⟩ := h.addC (by omega) ad
  refine ⟨0, by omega, kc_nextP p2 (by omega) (q1 _ ?_)⟩
  -- the same states, the token first
  obtain ⟨p1, tr1, m1, m2, m3, m4, m5, m6, m7, m8, m9, m10, m11⟩ := p2.next (by omega)
  rw [n1] at p1 tr1 m1 m2 m3 m4 m5 m6 m7 m8 m9 m10 m11
  have hj : rJ (wS σ 10 (nI (pC κ + 1))) < 12000 := by omega
  obtain ⟨⟨p3, tr3⟩, w1, w2, w3, w4, w5, w6, w7, w8, w9, w10, w11⟩ := p1.emit (x := 1) (y := nI x) (z := 0) hj
  rw [n1]
  refine ⟨em (wS σ 10 (nI (pC κ + 1))) 1 (nI x) 0, ⟨p3, (tr2.trans tr1).trans tr3, Tu.one (by omega) (by omega) (by omega) (by omega) ((tr1.trans tr3).2.2.1.2.2.2.2.2.2.1 (iC κ) (by omega) |>.1.trans ad.2.1) (by decide) (by omega), fun κF σF vr br hf he A L n hn hg g => ?_⟩, ?_, fun d Q hd hq => rp_number h hk ⟨1, by simp only [dU] at hd; omega, ac_mustNumber h (fun x' hx' _ hv' => ?_) (fun z => absurd (c.symm.trans z) (by decide)) (fun z => absurd c z)⟩⟩
  · have e1 := he.1 (iC κ) (Nat.le_refl _) (by omega)
    have e2 := he.2.1 (rJ σ) (Nat.le_refl _) (by omega)
    have mm := em_at (σ := wS σ 10 (nI (pC κ + 1))) (x := 1) (y := nI x) (z := 0)
    rw [m4, n4] at mm
    rw [setC_ne (by decide), setC_ne (by decide), ad.2.1, ad.2.2.1] at e1
    rw [mm.1, mm.2.1, mm.2.2.1] at e2
    rw [w3, m3, n3, w4, m4, n4] at g
    exact mkG hf.1 (by omega) e1.2.1 (by omega) (by omega) hg (Or.inl ⟨rfl, e1.1, e2.1, (e2.2.2.2 (by decide) (by decide) (by decide)).trans (e1.2.2.1 (by decide) (by decide) (by decide) (by decide)).symm, g⟩)
  · unfold De
    rw [w1, w2, w3, w4, w5, w6, w7, w8, w9, w10, w11]
    omega
  · have ex : x' = x := by
      have e := hv'.symm.trans hv
      exact ofNat64_inj (by omega) (by omega) e
    subst ex
    exact ⟨0, by simp only [dU] at hd; omega, ac_emit p1.2.2.2.2.2.2.2.2.2.2.2.1 hj (a_readP_547 hq)⟩
end PLAIN
