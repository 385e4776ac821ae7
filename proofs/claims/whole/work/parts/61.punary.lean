/-! unary expressions: the pieces -/
section UN
variable {X : Cx} {N b P : Nat} {κ : Km} {σ : Rm}
abbrev opK (κ : Km) : Km := setC (cI κ 77 4 (nI (oC κ + 1))) (pC κ + 1)
abbrev opS (κ : Km) (σ : Rm) : Rm := wS (wS σ 12 (nI (oC κ + 1))) 10 (nI (pC κ + 1))
theorem Ps.op2 (h : Ps κ σ N b P) (hp : pC κ < N) (ho : oC κ < 24) : TP N b P κ σ (opK κ) (opS κ σ) ∧ Nu (opK κ) (opS κ σ) (pC κ + 1) (oC κ + 1) (iC κ) (rJ σ) (rU σ) (rA σ) (rT σ) (rC σ) (rV σ) (rK σ) (rE σ) := by
  obtain ⟨p, t, n1, n2, n3, n4, n5, n6, n7, n8, n9, n10, n11⟩ := h.opn (o := oC κ + 1) (by omega)
  obtain ⟨p', t', m1, m2, m3, m4, m5, m6, m7, m8, m9, m10, m11⟩ := p.next (by omega)
  rw [n1] at p' t' m1 m2 m3 m4 m5 m6 m7 m8 m9 m10 m11
  unfold opK opS
  exact ⟨⟨p', t.trans t', by omega, by omega, by omega, by omega, by omega⟩, by omega, by omega, by omega, by omega, by omega, by omega, by omega, by omega, by omega, by omega, by omega⟩
theorem Ps.dn (h : Ps κ σ N b P) (ho : 1 ≤ oC κ) : TP N b P κ σ (cI κ 77 4 (nI (oC κ - 1))) (wS σ 12 (nI (oC κ - 1))) ∧ Nu (cI κ 77 4 (nI (oC κ - 1))) (wS σ 12 (nI (oC κ - 1))) (pC κ) (oC κ - 1) (iC κ) (rJ σ) (rU σ) (rA σ) (rT σ) (rC σ) (rV σ) (rK σ) (rE σ) := by
  have ho2 : oC κ ≤ 24 := h.2.2.2.2.2.2.2.2.1
  obtain ⟨p, t, n1, n2, n3, n4, n5, n6, n7, n8, n9, n10, n11⟩ := h.opn (o := oC κ - 1) (by omega)
  exact ⟨⟨p, t, n3, n4, n8, n5, n6⟩, n1, n2, n3, n4, n5, n6, n7, n8, n9, n10, n11⟩
theorem wS_comm {σ : Rm} {k k' : Nat} {v v' : Int32} (h : k ≠ k') : wS (wS σ k v) k' v' = wS (wS σ k' v') k v := by
  refine Prod.ext ?_ rfl
  funext j i
  show (if j = k' ∧ i = 0 then v' else if j = k ∧ i = 0 then v else σ.1 j i) = (if j = k ∧ i = 0 then v else if j = k' ∧ i = 0 then v' else σ.1 j i)
  by_cases c : j = k' ∧ i = 0
  · rw [if_pos c, if_neg (fun z => h (z.1.symm.trans c.1)), if_pos c]
  · rw [if_neg c, if_neg c]
abbrev clK (κ : Km) : Km := setC (cI κ 77 4 (nI (oC κ - 1))) (pC κ + 1)
abbrev clS (κ : Km) (σ : Rm) : Rm := wS (wS σ 10 (nI (pC κ + 1))) 12 (nI (oC κ - 1))
theorem Ps.cl2 (h : Ps κ σ N b P) (hp : pC κ < N) (ho : 1 ≤ oC κ) : TP N b P κ σ (clK κ) (clS κ σ) ∧ Nu (clK κ) (clS κ σ) (pC κ + 1) (oC κ - 1) (iC κ) (rJ σ) (rU σ) (rA σ) (rT σ) (rC σ) (rV σ) (rK σ) (rE σ) := by
  have ho2 : oC κ ≤ 24 := h.2.2.2.2.2.2.2.2.1
  obtain ⟨p, t, n1, n2, n3, n4, n5, n6, n7, n8, n9, n10, n11⟩ := h.opn (o := oC κ - 1) (by omega)
  obtain ⟨p', t', m1, m2, m3, m4, m5, m6, m7, m8, m9, m10, m11⟩ := p.next (by omega)
  rw [n1] at p' t' m1 m2 m3 m4 m5 m6 m7 m8 m9 m10 m11
  unfold clK clS
  rw [wS_comm (by decide)]
  exact ⟨⟨p', t.trans t', by omega, by omega, by omega, by omega, by omega⟩, by omega, by omega, by omega, by omega, by omega, by omega, by omega, by omega, by omega, by omega, by omega⟩
theorem Ps.n0 (h : Ps κ σ N b P) {c : Nat} (hc : kI κ 72 7 = nI c) (h1 : 1 < c) (h2 : c < 300) : pC κ < N := h.lt (by rw [hc]; exact nI_ne (b := 0) (by omega) (by omega) (by omega)) (by rw [hc]; exact nI_ne (b := 1) (by omega) (by omega) (by omega))
/-- the place where both stand -/
theorem Ps.pl (h : Ps κ σ N b P) : ∃ f, f ≤ 3000 ∧ kI κ 72 8 = nI f := by
  obtain ⟨f, t, t1, t2, t3, t4, t5, t6, t7, t8⟩ := h.tok
  exact ⟨f, by omega, t1⟩
theorem Flt.at {B : Nat} (h : Ps κ σ N b P) (hB : iC κ ≤ B) : Flt b κ σ B (cI κ 77 5 (kI κ 72 8)) (wI σ 0 6 (kI κ 72 8)) := by
  obtain ⟨f, f1, f2⟩ := h.pl
  rw [f2]; exact Flt.here h (by omega) hB
theorem Flt.at' {B k : Nat} (h : Ps κ σ N b P) (hB : iC κ ≤ B) (hk : k < 20) : Flt b κ σ B (cI κ 77 5 (kI κ 72 8 + nI k)) (wI σ 0 6 (kI κ 72 8 + nI k)) := by
  obtain ⟨f, f1, f2⟩ := h.pl
  rw [f2, nI_add]; exact Flt.here h (by omega) hB
/-- the reference's way through a prefix -/
def RPre (X : Cx) (d : Nat) (σ : Rm) (op : Int32) (Q : Res → Rm → Prop) (E : Rm → Prop) : Prop := ∃ e1 : Nat, e1 + 1 ≤ d ∧ AC X 92 e1 MX13_opens [vR 92] σ (aTV Q fun s4 => ∃ e5 : Nat, e5 + 1 ≤ d ∧ AC X 92 e5 MX13_readU [vR 92] s4 (aTV Q fun s8 => ∀ s9 : Rm, s9 = wS s8 12 ((sI s8 12) - 1) → ∃ e10 : Nat, e10 + 1 ≤ d ∧ AC X 92 e10 MX13_emit [vR 92, vI op, vI 0, vI 0] s9 (aRI fun _ s14 => E s14)))
theorem pre_core {m : Nat} {a op : Int32} {c : Nat} {F : Int32 → Km → Prop} (hs : SpU X N b P m) (h : Ps κ σ N b P) (hb : Bdd κ σ) (hm : N + 1 - pC κ ≤ m + 1) (hc : kI κ 72 7 = nI c) (hc1 : 1 < c) (hc2 : c < 300) (ha : i8 a) (ho : (a = 6 ∧ op = 11) ∨ (a = 7 ∧ op = 12) ∨ (a = 22 ∧ op = 14) ∨ (a = 25 ∧ op = 15))
    (q1 : ∀ κ' σ', ES1 N b P (6 * oC κ + 3) 0 1 κ σ κ' σ' → De κ σ κ' σ' → (∀ (d : Nat) (Q : Res → Rm → Prop) (E : Rm → Prop), dU (oC κ) ≤ d + 1 → E σ' → RPre X d σ op Q E) → F 1 κ')
    (q0 : ∀ κ' σ', Flt b κ σ (9010 + 4 * (24 - oC κ)) κ' σ' → (∀ (d : Nat) (Q : Res → Rm → Prop) (E : Rm → Prop), dU (oC κ) ≤ d + 1 → Q (.inr 93) σ' → RPre X d σ op Q E) → F 0 κ') : KC' X (dU (oC κ) - 1) MX5_readPrefix [vR 77, vI a] κ (kRI F) := by
  have ho2 : oC κ ≤ 24 := h.2.2.2.2.2.2.2.2.1
  have hlt := h.n0 hc hc1 hc2
  have bi := hb.i h
  refine KC_of_K rfl (Nat.le_of_ble_eq_true rfl) rfl (k_5_readPrefix_0 _ ⟨1, by simp only [dU]; omega, ?_⟩)
  refine kc_takeOpening h (by rw [hc]; exact nI_ne (b := 0) (by omega) (by omega) (by omega)) (by rw [hc]; exact nI_ne (b := 1) (by omega) (by omega) (by omega)) (fun _ o1 => ⟨fun z => absurd z (by decide), fun _ => ?_⟩) (fun o1 => ⟨fun _ => k_5_readPrefix_21 _ ⟨_, rfl, q0 _ _ (Flt.at h (by omega)) (fun d Q E hd hq => ⟨1, by simp only [dU] at hd; omega, ac_opens h (fun z => absurd ⟨rfl, z⟩ o1) (fun _ => hq)⟩)⟩, fun z => absurd rfl z⟩)
  obtain ⟨tp, n1, n2, n3, n4, n5, n6, n7, n8, n9, n10, n11⟩ := h.op2 hlt o1
  have hb1 : Bdd (opK κ) (opS κ σ) := by
    obtain ⟨b1, b2, b3, b4, b5, b6, b7⟩ := hb
    unfold Bdd
    rw [n1, n2, n3, n4, n5, n6, n7, n8, n9]
    omega
  have sub := hs _ _ tp.1 hb1 (by rw [n1]; omega)
  rw [n2] at sub
  refine ⟨_, by simp only [dU]; omega, sub.k (fun κ2 σ2 hr ok => ⟨fun z => absurd z (by decide), fun _ => ?_⟩) (fun κ2 σ2 hr bad => ⟨fun _ => k_5_readPrefix_21 _ ⟨_, rfl, q0 _ σ2 ((bad.pre tp.2.1).weak (by omega)) (fun d Q E hd hq => ⟨1, by simp only [dU] at hd; omega, ac_opens h (fun _ => ⟨_, by simp only [dU] at hd ⊢; omega, acr_bad hr hq⟩) (fun z => absurd o1 z)⟩)⟩, fun z => absurd rfl z⟩)⟩
  obtain ⟨e2, dE⟩ := ok
  have eo : oC κ2 = oC κ + 1 := by have := dE.2.2.2.2.2.2.2.2.1; omega
  obtain ⟨td, m1, m2, m3, m4, m5, m6, m7, m8, m9, m10, m11⟩ := e2.1.dn (by omega)
  rintro κ15 rfl
  have o4 : kI κ2 77 4 = nI (oC κ2) := e2.1.2.2.2.2.2.2.1
  have o12 : sI σ2 12 = nI (oC κ2) := e2.1.2.2.2.2.2.2.2.1
  rw [o4, litI 1, nI_sb (by omega)]
  have hi2 : iC κ2 < 9900 ∧ rJ σ2 < 11990 ∧ pC κ2 ≤ 3000 := by
    obtain ⟨b1, b2, b3, b4, b5, b6, b7⟩ := hb1
    obtain ⟨f1, f2, f3, f4, f5, f6, f7, f8, f9, f10, f11⟩ := dE
    have := e2.1.p3
    omega
  refine ⟨2, by simp only [dU]; omega, td.1.add (by omega) ha (fun κ3 ad => ⟨_, rfl, ?_⟩)⟩
  have ac := act_un (B := 6 * oC κ + 3) (y := 0) (z := 0) td.1 (by omega) (by omega) (by omega) ad ho
  obtain ⟨-, -, w1, w2, w3, w4, w5, w6, w7, w8, w9, w10, w11⟩ := act_pair (op := op) (y := 0) (z := 0) td.1 (by omega) (by omega) ad
  refine q1 _ _ (((tp.es1 (e2.weak (by omega))).trans td.es).trans ac.two) ?_ (fun d Q E hd hq => ⟨1, by simp only [dU] at hd; omega, ac_opens h (fun _ => ⟨_, by simp only [dU] at hd ⊢; omega, acr_ok hr ?_⟩) (fun z => absurd o1 z)⟩)
  · obtain ⟨f1, f2, f3, f4, f5, f6, f7, f8, f9, f10, f11⟩ := dE
    unfold De
    rw [w1, w2, w3, w4, w5, w6, w7, w8, w9, w10, w11]
    omega
  · rintro s9 rfl
    rw [o12, litI 1, nI_sb (by omega)]
    exact ⟨0, by simp only [dU] at hd; omega, ac_emit td.1.2.2.2.2.2.2.2.2.2.2.2.1 (by omega) hq⟩
/-- the reference's way through a pair with 'with' -/
def RPair (X : Cx) (d : Nat) (σ : Rm) (op y : Int32) (Q : Res → Rm → Prop) (E : Rm → Prop) : Prop := ∃ e5 : Nat, e5 + 1 ≤ d ∧ AC X 92 e5 MX13_readU [vR 92] σ (aTV Q fun s8 => ∃ e9 : Nat, e9 + 1 ≤ d ∧ AC X 92 e9 MX13_mustWord [vR 92, vR 21] s8 (aTV Q fun s12 => ∃ e13 : Nat, e13 + 1 ≤ d ∧ AC X 92 e13 MX13_readU [vR 92] s12 (aTV Q fun s16 => ∀ s17 : Rm, s17 = wS s16 12 ((sI s16 12) - 1) → ∃ e18 : Nat, e18 + 1 ≤ d ∧ AC X 92 e18 MX13_emit [vR 92, vI op, vI y, vI 0] s17 (aRI fun _ s22 => E s22))))
/-- two operands, one level down -/
def Dp (κ : Km) (σ : Rm) (κ' : Km) (σ' : Rm) : Prop := pC κ < pC κ' ∧ iC κ' ≤ iC κ + 3 * (pC κ' - pC κ) ∧ rJ σ' ≤ rJ σ + 3 * (pC κ' - pC κ) ∧ 2 * rU σ' ≤ 2 * rU σ + (pC κ' - pC κ) + 1 ∧ 2 * rA σ' ≤ 2 * rA σ + (pC κ' - pC κ) + 1 ∧ rT σ' = rT σ ∧ rC σ' = rC σ ∧ rV σ' = rV σ ∧ oC κ' + 1 = oC κ ∧ rK σ' = rK σ ∧ rE σ' = rE σ
theorem pair_core {m : Nat} {a op x y : Int32} {F : Int32 → Km → Prop} (hs : SpU X N b P m) (h : Ps κ σ N b P) (ho1 : 1 ≤ oC κ) (hb : Bdd κ σ) (hm : N + 1 - pC κ ≤ m) (ha : i8 a) (ho : (a = 26 ∧ op = 17) ∨ (a = 28 ∧ op = 19) ∨ (a = 27 ∧ op = 18 ∧ ∃ k, k < 10 ∧ x = nI k ∧ y = nI k))
    (q1 : ∀ κ' σ', ES1 N b P (6 * oC κ + 2) 0 1 κ σ κ' σ' → Dp κ σ κ' σ' → (∀ (d : Nat) (Q : Res → Rm → Prop) (E : Rm → Prop), dU (oC κ) ≤ d - 1 → E σ' → RPair X d σ op y Q E) → F 1 κ')
    (q0 : ∀ κ' σ', Flt b κ σ (9010 + 4 * (24 - oC κ)) κ' σ' → (∀ (d : Nat) (Q : Res → Rm → Prop) (E : Rm → Prop), dU (oC κ) ≤ d - 1 → Q (.inr 93) σ' → RPair X d σ op y Q E) → F 0 κ') : KC' X (dU (oC κ) + 1) MX5_readPairWith [vR 77, vI a, vI x] κ (kRI F) := by
  have ho2 : oC κ ≤ 24 := h.2.2.2.2.2.2.2.2.1
  have bi := hb.i h
  have sub := hs _ _ h hb hm
  refine KC_of_K rfl (Nat.le_of_ble_eq_true rfl) rfl (k_5_readPairWith_0 _ _ ⟨_, by simp only [dU]; omega, sub.k (fun κ1 σ1 hr ok => ⟨fun z => absurd z (by decide), fun _ => ?_⟩) (fun κ1 σ1 hr bad => ⟨fun _ => k_5_readPairWith_24 _ _ ⟨_, rfl, q0 _ _ bad (fun d Q E hd hq => ⟨_, by simp only [dU] at hd ⊢; omega, acr_bad hr hq⟩)⟩, fun z => absurd rfl z⟩)⟩)
  obtain ⟨e1, dE⟩ := ok
  have eo : oC κ1 = oC κ := dE.2.2.2.2.2.2.2.2.1
  have hi1 : iC κ1 ≤ 9010 := by
    obtain ⟨b1, b2, b3, b4, b5, b6, b7⟩ := hb
    obtain ⟨f1, f2, f3, f4, f5, f6, f7, f8, f9, f10, f11⟩ := dE
    have := e1.1.p3
    omega
  refine ⟨1, by simp only [dU]; omega, kc_take e1.1 (c := 217) (by decide) (by decide) (fun c => ⟨fun z => absurd z (by decide), fun _ => ?_⟩) (fun c => ⟨fun _ => k_5_readPairWith_24 _ _ ⟨_, rfl, q0 _ _ ((Flt.at e1.1 (by omega)).pre e1.2.1) (fun d Q E hd hq => ⟨_, by simp only [dU] at hd ⊢; omega, acr_ok hr ⟨6, by simp only [dU] at hd; omega, ac_mustWord (w := 17) e1.1 (by decide) (fun z => absurd z c) (fun _ => hq)⟩⟩)⟩, fun z => absurd rfl z⟩)⟩
  have hlt : pC κ1 < N := e1.1.n0 (c := 217) c (by omega) (by omega)
  obtain ⟨p2, t2, n1, n2, n3, n4, n5, n6, n7, n8, n9, n10, n11⟩ := e1.1.next hlt
  have hb2 : Bdd (setC κ1 (pC κ1 + 1)) (wS σ1 10 (nI (pC κ1 + 1))) := by
    obtain ⟨b1, b2, b3, b4, b5, b6, b7⟩ := hb
    obtain ⟨f1, f2, f3, f4, f5, f6, f7, f8, f9, f10, f11⟩ := dE
    unfold Bdd
    rw [n1, n2, n3, n4, n5, n6, n7, n8, n9]
    omega
  have sub2 := hs _ _ p2 hb2 (by rw [n1]; have := dE.1; omega)
  rw [n2, eo] at sub2
  refine ⟨_, by simp only [dU]; omega, sub2.k (fun κ2 σ2 hr2 ok => ⟨fun z => absurd z (by decide), fun _ => ?_⟩) (fun κ2 σ2 hr2 bad => ⟨fun _ => k_5_readPairWith_24 _ _ ⟨_, rfl, q0 _ _ (bad.pre (e1.2.1.trans t2)) (fun d Q E hd hq => ⟨_, by simp only [dU] at hd ⊢; omega, acr_ok hr ⟨6, by simp only [dU] at hd; omega, ac_mustWord (w := 17) e1.1 (by decide) (fun _ => ⟨_, by simp only [dU] at hd ⊢; omega, acr_bad hr2 hq⟩) (fun z => absurd c z)⟩⟩)⟩, fun z => absurd rfl z⟩)⟩
  obtain ⟨e2, dF⟩ := ok
  have eo2 : oC κ2 = oC κ := by have := dF.2.2.2.2.2.2.2.2.1; omega
  obtain ⟨td, m1, m2, m3, m4, m5, m6, m7, m8, m9, m10, m11⟩ := e2.1.dn (by omega)
  rintro κ15 rfl
  have o4 : kI κ2 77 4 = nI (oC κ2) := e2.1.2.2.2.2.2.2.1
  have o12 : sI σ2 12 = nI (oC κ2) := e2.1.2.2.2.2.2.2.2.1
  rw [o4, litI 1, nI_sb (by omega)]
  have hi2 : iC κ2 < 9900 ∧ rJ σ2 < 11990 ∧ pC κ2 ≤ 3000 := by
    obtain ⟨b1, b2, b3, b4, b5, b6, b7⟩ := hb2
    obtain ⟨f1, f2, f3, f4, f5, f6, f7, f8, f9, f10, f11⟩ := dF
    have := e2.1.p3
    omega
  refine ⟨2, by simp only [dU]; omega, td.1.add (by omega) ha (fun κ3 ad => ⟨_, rfl, ?_⟩)⟩
  have ac := act_duo (B := 6 * oC κ + 2) (z := 0) td.1 (by omega) (by omega) (by omega) ad ho
  obtain ⟨-, -, w1, w2, w3, w4, w5, w6, w7, w8, w9, w10, w11⟩ := act_pair (op := op) (y := y) (z := 0) td.1 (by omega) (by omega) ad
  have s2 : ES N b P (6 * oC κ + 2) 1 2 (setC κ1 (pC κ1 + 1)) (wS σ1 10 (nI (pC κ1 + 1))) κ2 σ2 := e2.two.up (k := 1) (by omega)
  refine q1 _ _ ((e1.weak (by omega)).trans ((((e1.1.tp hlt).es.trans s2).trans td.es).trans ac.two)) ?_ (fun d Q E hd hq => ⟨_, by simp only [dU] at hd ⊢; omega, acr_ok hr ⟨6, by simp only [dU] at hd; omega, ac_mustWord (w := 17) e1.1 (by decide) (fun _ => ⟨_, by simp only [dU] at hd ⊢; omega, acr_ok hr2 ?_⟩) (fun z => absurd c z)⟩⟩)
  · obtain ⟨f1, f2, f3, f4, f5, f6, f7, f8, f9, f10, f11⟩ := dE
    obtain ⟨g1, g2, g3, g4, g5, g6, g7, g8, g9, g10, g11⟩ := dF
    unfold Dp
    rw [w1, w2, w3, w4, w5, w6, w7, w8, w9, w10, w11]
    omega
  · rintro s9 rfl
    rw [o12, litI 1, nI_sb (by omega)]
    exact ⟨0, by simp only [dU] at hd; omega, ac_emit td.1.2.2.2.2.2.2.2.2.2.2.2.1 (by omega) hq⟩
end UN
