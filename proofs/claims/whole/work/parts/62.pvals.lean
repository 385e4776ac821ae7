/-! conditions, values of calls and of new -/
section VALS
variable {X : Cx} {N b P : Nat} {κ : Km} {σ : Rm}
/-- the reference's way through ( E ) -/
def RCond (X : Cx) (d : Nat) (σ : Rm) (Q : Res → Rm → Prop) (E : Rm → Prop) : Prop := ∃ e1 : Nat, e1 + 1 ≤ d ∧ AC X 92 e1 MX13_opens [vR 92] σ (aTV Q fun s1 => ∃ e2 : Nat, e2 + 1 ≤ d ∧ AC X 92 e2 MX13_readE [vR 92] s1 (aTV Q fun s2 => ∃ e3 : Nat, e3 + 1 ≤ d ∧ AC X 92 e3 MX13_closes [vR 92, vI 41] s2 (aTV Q fun s3 => E s3)))
theorem cond_core {m d0 : Nat} {F : Int32 → Km → Prop} (hs : SpE X N b P m) (h : Ps κ σ N b P) (hb : Bdd κ σ) (hm : N + 1 - pC κ ≤ m + 1) (hd0 : dU (oC κ) ≤ d0 + 2)
    (q1 : ∀ κ' σ', kI κ 72 7 = 40 → ES1 N b P (6 * oC κ + 3) 0 1 κ σ κ' σ' → De κ σ κ' σ' → (∀ (d : Nat) (Q : Res → Rm → Prop) (E : Rm → Prop), dU (oC κ) ≤ d + 1 → E σ' → RCond X d σ Q E) → F 1 κ')
    (q0 : ∀ κ' σ', kI κ 72 7 = 40 → Flt b κ σ (9010 + 4 * (24 - oC κ)) κ' σ' → (∀ (d : Nat) (Q : Res → Rm → Prop) (E : Rm → Prop), dU (oC κ) ≤ d + 1 → Q (.inr 93) σ' → RCond X d σ Q E) → F 0 κ')
    (qn : kI κ 72 7 ≠ 40 → F 0 (cI κ 77 5 (kI κ 72 8))) : KC' X d0 MX5_readCondition [vR 77] κ (kRI F) := by
  have ho2 : oC κ ≤ 24 := h.2.2.2.2.2.2.2.2.1
  have bi := hb.i h
  have bad : ∀ (κ' : Km), F 0 κ' → K X d0 MX5_readCondition 29 [(0, vR 77)] [] κ' (kRI F) := fun κ' hF => k_5_readCondition_29 (k_5_readCondition_30 _ ⟨Or.inl rfl, _, rfl, hF⟩)
  refine KC_of_K rfl (Nat.le_of_ble_eq_true rfl) rfl (k_5_readCondition_0 ⟨1, by simp only [dU] at hd0; omega, ?_⟩)
  refine kc_takeOpening h (by decide) (by decide) (fun c o1 => ⟨fun z => absurd z (by decide), fun _ => ?_⟩) (fun o1 => ⟨fun _ => bad _ ?_, fun z => absurd rfl z⟩)
  · have hlt : pC κ < N := h.n0 (c := 40) c (by omega) (by omega)
    obtain ⟨tp, n1, n2, n3, n4, n5, n6, n7, n8, n9, n10, n11⟩ := h.op2 hlt o1
    have hb1 : Bdd (opK κ) (opS κ σ) := by
      obtain ⟨b1, b2, b3, b4, b5, b6, b7⟩ := hb
      unfold Bdd
      rw [n1, n2, n3, n4, n5, n6, n7, n8, n9]
      omega
    have sub := hs _ _ tp.1 hb1 (by rw [n1]; omega)
    rw [n2] at sub
    refine ⟨_, by simp only [dU] at hd0 ⊢; omega, sub.k (fun κ2 σ2 hr ok => ⟨fun z => absurd z (by decide), fun _ => ?_⟩) (fun κ2 σ2 hr bd => ⟨fun _ => bad _ (q0 _ σ2 c ((bd.pre tp.2.1).weak (by omega)) (fun d Q E hd hq => ⟨1, by simp only [dU] at hd; omega, ac_opens h (fun _ => ⟨_, by simp only [dU] at hd ⊢; omega, acr_bad hr hq⟩) (fun z => absurd o1 z)⟩)), fun z => absurd rfl z⟩)⟩
    obtain ⟨e2, dE⟩ := ok
    have eo : oC κ2 = oC κ + 1 := by have := dE.2.2.2.2.2.2.2.2.1; omega
    have hi2 : iC κ2 ≤ 9010 := by
      obtain ⟨b1, b2, b3, b4, b5, b6, b7⟩ := hb1
      obtain ⟨f1, f2, f3, f4, f5, f6, f7, f8, f9, f10, f11⟩ := dE
      have := e2.1.p3
      omega
    refine ⟨1, by simp only [dU] at hd0; omega, kc_takeClosing e2.1 (by omega) (by decide) (by decide) (fun c2 => ⟨fun z => absurd z (by decide), fun _ => k_5_readCondition_30 _ ⟨Or.inr rfl, _, rfl, ?_⟩⟩) (fun c2 => ⟨fun _ => bad _ (q0 _ _ c ((Flt.at e2.1 (by omega)).pre (tp.2.1.trans e2.2.1)) (fun d Q E hd hq => ⟨1, by simp only [dU] at hd; omega, ac_opens h (fun _ => ⟨_, by simp only [dU] at hd ⊢; omega, acr_ok hr ⟨2, by simp only [dU] at hd; omega, ac_closes e2.1 (by omega) (by decide) (fun z => absurd z c2) (fun _ => hq)⟩⟩) (fun z => absurd o1 z)⟩)), fun z => absurd rfl z⟩)⟩
    have hlt2 : pC κ2 < N := e2.1.n0 (c := 41) c2 (by omega) (by omega)
    obtain ⟨tc, m1, m2, m3, m4, m5, m6, m7, m8, m9, m10, m11⟩ := e2.1.cl2 hlt2 (by omega)
    refine q1 _ _ c ((tp.es1 (e2.weak (by omega))).trans tc.es) ?_ (fun d Q E hd hq => ⟨1, by simp only [dU] at hd; omega, ac_opens h (fun _ => ⟨_, by simp only [dU] at hd ⊢; omega, acr_ok hr ⟨2, by simp only [dU] at hd; omega, ac_closes e2.1 (by omega) (by decide) (fun _ => hq) (fun z => absurd c2 z)⟩⟩) (fun z => absurd o1 z)⟩)
    obtain ⟨f1, f2, f3, f4, f5, f6, f7, f8, f9, f10, f11⟩ := dE
    unfold De
    rw [m1, m2, m3, m4, m5, m6, m7, m8, m9, m10, m11]
    omega
  · by_cases c : kI κ 72 7 = 40
    · exact q0 _ _ c (Flt.at h (by omega)) (fun d Q E hd hq => ⟨1, by simp only [dU] at hd; omega, ac_opens h (fun z => absurd ⟨c, z⟩ o1) (fun _ => hq)⟩)
    · exact qn c
/-- how far n values have come, behind the name and the ( -/
def Dv (n : Nat) (κ : Km) (σ : Rm) (κ' : Km) (σ' : Rm) : Prop := pC κ + 2 ≤ pC κ' ∧ iC κ' + 3 ≤ iC κ + 3 * (pC κ' - pC κ) ∧ rJ σ' + 3 ≤ rJ σ + 3 * (pC κ' - pC κ) ∧ 2 * rU σ' + n ≤ 2 * rU σ + (pC κ' - pC κ) + n - 1 ∧ 2 * rA σ' + 1 ≤ 2 * rA σ + (pC κ' - pC κ) ∧ rT σ' = rT σ ∧ rC σ' = rC σ ∧ rV σ' = rV σ ∧ oC κ' = oC κ + 1 ∧ rK σ' = rK σ ∧ rE σ' = rE σ
def Av (N b P B n : Nat) (κ : Km) (σ : Rm) (κ' : Km) (σ' : Rm) : Prop := (n = 0 ∧ TP N b P κ σ κ' σ') ∨ (1 ≤ n ∧ ES1 N b P B 0 n κ σ κ' σ')
theorem Av.ps {B n : Nat} {κ' : Km} {σ' : Rm} (h : Av N b P B n κ σ κ' σ') : Ps κ' σ' N b P ∧ Tr b κ σ κ' σ' := by
  rcases h with ⟨-, h⟩ | ⟨-, h⟩
  · exact ⟨h.1, h.2.1⟩
  · exact ⟨h.1, h.2.1⟩
theorem Av.one {B n d1 : Nat} {κ1 κ2 : Km} {σ1 σ2 : Rm} (h : Av N b P B n κ σ κ1 σ1) (g : ES1 N b P B n d1 κ1 σ1 κ2 σ2) : ES1 N b P B 0 d1 κ σ κ2 σ2 := by
  rcases h with ⟨rfl, h⟩ | ⟨-, h⟩
  · exact h.es1 g
  · exact h.trans g.two
theorem Av.tp {B n : Nat} {κ1 κ2 : Km} {σ1 σ2 : Rm} (h : Av N b P B n κ σ κ1 σ1) (g : TP N b P κ1 σ1 κ2 σ2) : Av N b P B n κ σ κ2 σ2 := by
  rcases h with ⟨h0, h⟩ | ⟨h1, h⟩
  · exact Or.inl ⟨h0, h.trans g⟩
  · exact Or.inr ⟨h1, h.trans g.es⟩
abbrev vL7 (t a k n m i : Int32) : Lv := [(0, vR 77), (1, vI t), (2, vI a), (3, vI k), (4, vI n), (5, vI m), (6, vI i)]
/-- behind the values: the ) and the acts of a call -/
theorem call_end {t n : Nat} {d0 : Nat} {x6 : Int32} {κ0 : Km} {σ0 : Rm} {F : Int32 → Km → Prop} (h0 : Ps κ0 σ0 N b P) (hb0 : Bdd κ0 σ0) (ht : t < 3001) (hnk : Nk N κ0 t) (hn : n ≤ 4) (hd0 : dU (oC κ0) ≤ d0 + 3) (av : Av N b P (6 * oC κ0 + 3) n κ0 σ0 κ σ) (dv : Dv n κ0 σ0 κ σ)
    (q1 : ∀ κ' σ', kI κ 72 7 = 41 → ES1 N b P (6 * oC κ0 + 3) 0 1 κ0 σ0 κ' σ' → De κ0 σ0 κ' σ' → (∀ (d : Nat) (Q : Res → Rm → Prop), dU (oC κ0) ≤ d + 1 → Q (.inl none) σ' → A X 92 d MX13_readP 118 [(0, vR 92), (2, vI (nI t)), (3, vI (nI n))] [] σ Q) → F 1 κ')
    (q0 : kI κ 72 7 ≠ 41 → Flt b κ0 σ0 (9010 + 4 * (24 - oC κ0)) (cI κ 77 5 (kI κ 72 8)) (wI σ 0 6 (kI κ 72 8)) → F 0 (cI κ 77 5 (kI κ 72 8))) : K X d0 MX5_readValues 90 (vL7 (nI t) 24 4 (nI n) 0 x6) [] κ (kRI F) := by
  have ho2 : oC κ0 ≤ 24 := h0.2.2.2.2.2.2.2.2.1
  obtain ⟨hp, tr⟩ := av.ps
  have hp3 := hp.p3
  have hp03 := h0.p3
  have bd : iC κ ≤ 9010 ∧ rJ σ ≤ 9010 ∧ rA σ ≤ 1500 := by
    obtain ⟨b1, b2, b3, b4, b5, b6, b7⟩ := hb0
    obtain ⟨f1, f2, f3, f4, f5, f6, f7, f8, f9, f10, f11⟩ := dv
    omega
  have eo : oC κ = oC κ0 + 1 := dv.2.2.2.2.2.2.2.2.1
  refine k_5_readValues_90 _ _ _ _ _ _ ⟨fun _ => ⟨1, by simp only [dU] at hd0; omega, kc_takeClosing hp (by omega) (by decide) (by decide) (fun c => ⟨fun z => absurd z (by decide), fun _ => ⟨fun z => absurd z (by decide), fun _ => k_5_readValues_139 _ _ _ _ _ _ ?_⟩⟩) (fun c => ⟨fun _ => ⟨_, rfl, q0 c ((Flt.at hp (by omega)).pre tr)⟩, fun z => absurd rfl z⟩)⟩, fun z => absurd rfl z⟩
  have hlt : pC κ < N := hp.n0 (c := 41) c (by omega) (by omega)
  obtain ⟨tc, m1, m2, m3, m4, m5, m6, m7, m8, m9, m10, m11⟩ := hp.cl2 hlt (by omega)
  rw [litI 8, pk_mul, nI_add]
  refine ⟨2, by simp only [dU] at hd0; omega, tc.1.add (by omega) (by unfold i8; decide) (fun κ3 ad => ⟨_, rfl, ?_⟩)⟩
  have ho3 : oC κ ≤ 24 := hp.2.2.2.2.2.2.2.2.1
  have ej : rJ (clS κ σ) < 12000 := by omega
  have em1 := (tc.1.emit (x := 20) (y := 0) (z := nI n) ej)
  have ea : rA (em (clS κ σ) 20 0 (nI n)) < 1600 := by
    have := em1.2.2.2.2.2.2.1
    omega
  have ac := act_call (B := 6 * oC κ0 + 3) (m := n) tc.1 (by omega) (by omega) (by omega) ht (hnk.tr (tr.trans tc.2.1)) (by omega) (by omega) ad
  obtain ⟨-, -, w1, w2, w3, w4, w5, w6, w7, w8, w9, w10, w11⟩ := act_ask (op' := 20) tc.1 (by omega) (by omega) (by omega) ad
  refine q1 _ _ c ((av.tp tc).one ac) ?_ (fun d Q hd hq => a_readP_118 _ _ ⟨2, by simp only [dU] at hd; omega, ac_closes hp (by omega) (by decide) (fun _ => ⟨0, by simp only [dU] at hd; omega, ac_emit tc.1.2.2.2.2.2.2.2.2.2.2.2.1 ej ⟨0, by simp only [dU] at hd; omega, ac_asksFor em1.1.1.2.2.2.2.2.2.2.2.2.2.2.2.2.2.2.1 ea (a_readP_181 _ _ (a_readP_547 hq))⟩⟩) (fun z => absurd c z)⟩)
  · obtain ⟨f1, f2, f3, f4, f5, f6, f7, f8, f9, f10, f11⟩ := dv
    unfold De
    rw [w1, w2, w3, w4, w5, w6, w7, w8, w9, w10, w11]
    omega
theorem call_loop {t m d0 : Nat} {κ0 : Km} {σ0 : Rm} {F : Int32 → Km → Prop} (hs : SpE X N b P m) (h0 : Ps κ0 σ0 N b P) (hb0 : Bdd κ0 σ0) (hm : N + 1 - pC κ0 ≤ m + 1) (ht : t < 3001) (hnk : Nk N κ0 t) (hd0 : dU (oC κ0) ≤ d0 + 3) (ho24 : oC κ0 < 24) : ∀ (g n : Nat) (κ : Km) (σ : Rm) (x5 : Int32), n + g = 4 → 1 ≤ n → Av N b P (6 * oC κ0 + 3) n κ0 σ0 κ σ → Dv n κ0 σ0 κ σ →
    (∀ κ' σ', ES1 N b P (6 * oC κ0 + 3) 0 1 κ0 σ0 κ' σ' → De κ0 σ0 κ' σ' → (∀ (d : Nat) (Q : Res → Rm → Prop), dU (oC κ0) ≤ d + 1 → Q (.inl none) σ' → A X 92 d MX13_readP 60 [(0, vR 92), (2, vI (nI t)), (3, vI (nI n))] [] σ Q) → F 1 κ') →
    (∀ κ' σ', Flt b κ0 σ0 (9010 + 4 * (24 - oC κ0)) κ' σ' → (∀ (d : Nat) (Q : Res → Rm → Prop), dU (oC κ0) ≤ d + 1 → Q (.inr 93) σ' → A X 92 d MX13_readP 60 [(0, vR 92), (2, vI (nI t)), (3, vI (nI n))] [] σ Q) → F 0 κ') →
    (kI κ 72 7 = 44 → K X d0 MX5_readValues 70 (vL7 (nI t) 24 4 (nI n) x5 (nI (n - 1))) [vI 1] κ (kRI F)) ∧ (¬ kI κ 72 7 = 44 → K X d0 MX5_readValues 69 (vL7 (nI t) 24 4 (nI n) x5 (nI (n - 1))) [] κ (kRI F)) := by
  intro g
  induction g with
  | zero =>
    intro n κ σ x5 hg h1 av dv q1 q0
    obtain ⟨hp, tr⟩ := av.ps
    have hp3 := hp.p3
    have hp03 := h0.p3
    have n4 : n = 4 := by omega
    subst n4
    have bi : iC κ ≤ 9010 := by
      obtain ⟨b1, b2, b3, b4, b5, b6, b7⟩ := hb0
      obtain ⟨f1, f2, f3, f4, f5, f6, f7, f8, f9, f10, f11⟩ := dv
      omega
    have nle : ¬ nI 4 ≤ 0 := by decide
    refine ⟨fun c => k_5_readValues_70 _ _ _ _ _ _ _ ⟨fun z => absurd z (by decide), fun _ => ?_⟩, fun c => k_5_readValues_69 _ _ _ _ _ _ (k_5_readValues_70 _ _ _ _ _ _ _ ⟨fun _ => k_5_readValues_84 _ _ _ _ _ _ (k_5_readValues_25 _ _ _ _ _ _ ⟨fun _ => ?_, fun z => absurd (by decide) z⟩), fun z => absurd rfl z⟩)⟩
    · have hlt : pC κ < N := hp.n0 (c := 44) c (by omega) (by omega)
      obtain ⟨p2, t2, n1, n2, n3, n4, n5, n6, n7, n8, n9, n10, n11⟩ := hp.next hlt
      refine ⟨0, by simp only [dU] at hd0; omega, kc_nextP hp hlt (k_5_readValues_84 _ _ _ _ _ _ (k_5_readValues_25 _ _ _ _ _ _ ⟨fun _ => k_5_readValues_90 _ _ _ _ _ _ ⟨fun z => absurd z (by decide), fun _ => ⟨0, by simp only [dU] at hd0; omega, kc_refuse ⟨Or.inl rfl, _, rfl, ?_⟩⟩⟩, fun z => absurd (by decide) z⟩))⟩
      obtain ⟨f, f1, f2⟩ := p2.pl
      obtain ⟨ff, tt, t1', t2', -⟩ := p2.tok
      refine q0 _ _ ((Flt.at p2 (by omega)).pre (tr.trans t2)) (fun d Q hd hq => ?_)
      have p10 := p2.2.2.2.2.1
      refine a_readP_60 _ _ ⟨0, by simp only [dU] at hd; omega, ac_isSign hp (by decide) (fun z => absurd (c.symm.trans z) (by decide)) (fun _ => ⟨fun _ => a_readP_80 _ _ ⟨fun z => absurd z nle, fun _ => ⟨1, by simp only [dU] at hd; omega, ac_mustSign hp (by decide) (fun _ => a_readP_90 _ _ ⟨fun _ => ?_, fun z => absurd rfl z⟩) (fun z => absurd c z)⟩⟩, fun z => absurd rfl z⟩)⟩
      rw [p10, n1, vpn (by omega), cl_nI (by omega)]
      rw [n1] at t2'
      rw [t2', ← t1']
      exact ⟨by omega, 0, by simp only [dU] at hd; omega, ac_failT hq⟩
    · refine call_end h0 hb0 ht hnk (by omega) hd0 av dv (fun κ' σ' c2 es de ref => q1 κ' σ' es de (fun d Q hd hq => a_readP_60 _ _ ⟨0, by simp only [dU] at hd; omega, ac_isSign hp (by decide) (fun _ => ⟨fun z => absurd z (by decide), fun _ => ⟨fun z => absurd z nle, fun _ => ⟨1, by simp only [dU] at hd; omega, AC_of_A rfl (Nat.le_of_ble_eq_true rfl) rfl (a_isComma_0 ⟨0, by decide, ac_isSign hp (by decide) (fun z => absurd z c) (fun _ => ⟨Or.inl rfl, _, rfl, fun _ => ref d Q hd hq, fun z => absurd rfl z⟩)⟩)⟩⟩⟩) (fun z => absurd c2 z)⟩)) (fun c2 fl => q0 _ _ fl (fun d Q hd hq => a_readP_60 _ _ ⟨0, by simp only [dU] at hd; omega, ac_isSign hp (by decide) (fun z => absurd z c2) (fun _ => ⟨fun _ => a_readP_80 _ _ ⟨fun z => absurd z nle, fun _ => ⟨1, by simp only [dU] at hd; omega, ac_mustSign hp (by decide) (fun z => absurd z c) (fun _ => hq)⟩⟩, fun z => absurd rfl z⟩)⟩))
  | succ g ih =>
    intro n κ σ x5 hg h1 av dv q1 q0
    obtain ⟨hp, tr⟩ := av.ps
    have hp3 := hp.p3
    have hp03 := h0.p3
    have eo : oC κ = oC κ0 + 1 := dv.2.2.2.2.2.2.2.2.1
    have nle : ¬ nI n ≤ 0 := nI_ge (a := 0) (by omega) (by omega)
    have n4l : ¬ (4 : Int32) ≤ nI n := nI_ge (b := 4) (by omega) (by omega)
    have n4e : ¬ nI n = 4 := nI_ne (b := 4) (by omega) (by omega) (by omega)
    have e1 : nI (n - 1) + 1 = nI n := by rw [nI_1]; congr 1; omega
    refine ⟨fun c => k_5_readValues_70 _ _ _ _ _ _ _ ⟨fun z => absurd z (by decide), fun _ => ?_⟩, fun c => k_5_readValues_69 _ _ _ _ _ _ (k_5_readValues_70 _ _ _ _ _ _ _ ⟨fun _ => k_5_readValues_84 _ _ _ _ _ _ ?_, fun z => absurd rfl z⟩)⟩
    · have hlt : pC κ < N := hp.n0 (c := 44) c (by omega) (by omega)
      obtain ⟨p2, t2, n1, n2, n3, n4, n5, n6, n7, n8, n9, n10, n11⟩ := hp.next hlt
      have hb2 : Bdd (setC κ (pC κ + 1)) (wS σ 10 (nI (pC κ + 1))) := by
        obtain ⟨b1, b2, b3, b4, b5, b6, b7⟩ := hb0
        obtain ⟨f1, f2, f3, f4, f5, f6, f7, f8, f9, f10, f11⟩ := dv
        unfold Bdd
        rw [n1, n2, n3, n4, n5, n6, n7, n8, n9]
        omega
      have sub := hs _ _ p2 hb2 (by rw [n1]; have := dv.1; omega)
      rw [n2, eo] at sub
      refine ⟨0, by simp only [dU] at hd0; omega, kc_nextP hp hlt (k_5_readValues_84 _ _ _ _ _ _ ?_)⟩
      rw [e1]
      have path : ∀ (d : Nat) (Q : Res → Rm → Prop), dU (oC κ0) ≤ d + 1 → A X 92 d MX13_readP 108 [(0, vR 92), (2, vI (nI t)), (3, vI (nI n))] [] (wS σ 10 (nI (pC κ + 1))) Q → A X 92 d MX13_readP 60 [(0, vR 92), (2, vI (nI t)), (3, vI (nI n))] [] σ Q := fun d Q hd hA => a_readP_60 _ _ ⟨0, by simp only [dU] at hd; omega, ac_isSign hp (by decide) (fun z => absurd (c.symm.trans z) (by decide)) (fun _ => ⟨fun _ => a_readP_80 _ _ ⟨fun z => absurd z nle, fun _ => ⟨1, by simp only [dU] at hd; omega, ac_mustSign hp (by decide) (fun _ => a_readP_90 _ _ ⟨fun z => absurd z n4e, fun _ => hA⟩) (fun z => absurd c z)⟩⟩, fun z => absurd rfl z⟩)⟩
      refine k_5_readValues_25 _ _ _ _ _ _ ⟨fun z => absurd z n4l, fun _ => ⟨fun z => absurd z (by decide), fun _ => ⟨_, by simp only [dU] at hd0 ⊢; omega, sub.k (fun κ3 σ3 hr ok => ⟨fun z => absurd z (by decide), fun _ => ⟨fun z => absurd z (by decide), fun _ => ?_⟩⟩) (fun κ3 σ3 hr bd => ⟨fun _ => ⟨_, rfl, q0 _ _ ((bd.pre (tr.trans t2)).weak (by omega)) (fun d Q hd hq => path d Q hd (a_readP_108 _ _ ⟨_, by simp only [dU] at hd ⊢; omega, acr_bad hr hq⟩))⟩, fun z => absurd rfl z⟩)⟩⟩⟩
      obtain ⟨e3, dE⟩ := ok
      have up : ES1 N b P (6 * oC κ0 + 3) 0 (n + 1) κ0 σ0 κ3 σ3 := by
        have s := e3.two.up (B' := 6 * oC κ0 + 3) (k := n) (by omega)
        rw [Nat.zero_add, Nat.add_comm 1 n] at s
        rcases av with ⟨z, -⟩ | ⟨-, ha⟩
        · omega
        · exact ha.trans ((hp.tp hlt).es.trans s)
      have dv3 : Dv (n + 1) κ0 σ0 κ3 σ3 := by
        obtain ⟨f1, f2, f3, f4, f5, f6, f7, f8, f9, f10, f11⟩ := dv
        obtain ⟨g1, g2, g3, g4, g5, g6, g7, g8, g9, g10, g11⟩ := dE
        unfold Dv
        omega
      rw [nI_1]
      exact ih (n + 1) κ3 σ3 1 (by omega) (by omega) (Or.inr ⟨by omega, up⟩) dv3 (fun κ' σ' es de ref => q1 κ' σ' es de (fun d Q hd hq => path d Q hd (a_readP_108 _ _ ⟨_, by simp only [dU] at hd ⊢; omega, acr_ok hr (by rw [nI_1]; exact ref d Q hd hq)⟩))) (fun κ' σ' fl ref => q0 κ' σ' fl (fun d Q hd hq => path d Q hd (a_readP_108 _ _ ⟨_, by simp only [dU] at hd ⊢; omega, acr_ok hr (by rw [nI_1]; exact ref d Q hd hq)⟩)))
    · rw [e1]
      refine k_5_readValues_25 _ _ _ _ _ _ ⟨fun z => absurd z n4l, fun _ => ⟨fun _ => ?_, fun z => absurd rfl z⟩⟩
      refine call_end h0 hb0 ht hnk (by omega) hd0 av dv (fun κ' σ' c2 es de ref => q1 κ' σ' es de (fun d Q hd hq => a_readP_60 _ _ ⟨0, by simp only [dU] at hd; omega, ac_isSign hp (by decide) (fun _ => ⟨fun z => absurd z (by decide), fun _ => ⟨fun z => absurd z nle, fun _ => ⟨1, by simp only [dU] at hd; omega, AC_of_A rfl (Nat.le_of_ble_eq_true rfl) rfl (a_isComma_0 ⟨0, by decide, ac_isSign hp (by decide) (fun z => absurd z c) (fun _ => ⟨Or.inl rfl, _, rfl, fun _ => ref d Q hd hq, fun z => absurd rfl z⟩)⟩)⟩⟩⟩) (fun z => absurd c2 z)⟩)) (fun c2 fl => q0 _ _ fl (fun d Q hd hq => a_readP_60 _ _ ⟨0, by simp only [dU] at hd; omega, ac_isSign hp (by decide) (fun z => absurd z c2) (fun _ => ⟨fun _ => a_readP_80 _ _ ⟨fun z => absurd z nle, fun _ => ⟨1, by simp only [dU] at hd; omega, ac_mustSign hp (by decide) (fun z => absurd z c) (fun _ => hq)⟩⟩, fun z => absurd rfl z⟩)⟩))
end VALS
