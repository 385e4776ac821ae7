/-! resume, hand, inject; U; all expressions -/
section PL3
variable {X : Cx} {N b P : Nat} {κ : Km} {σ : Rm}
theorem Ps.bd2 {κa : Km} {σa : Rm} (hb : Bdd κ σ) (n1 : pC κ + 1 ≤ pC κa) (n2 : oC κ ≤ oC κa) (n3 : iC κa = iC κ) (n4 : rJ σa = rJ σ) (n5 : rU σa = rU σ) (n6 : rA σa = rA σ) (n7 : rT σa = rT σ) (n8 : rC σa = rC σ) (n9 : rV σa = rV σ) : Bdd κa σa := by
  obtain ⟨b1, b2, b3, b4, b5, b6, b7⟩ := hb
  unfold Bdd
  rw [n3, n4, n5, n6, n7, n8, n9]
  omega
theorem with_core {m d0 c : Nat} {a op : Int32} {F : Int32 → Km → Prop} (hs : SpU X N b P m) (h : Ps κ σ N b P) (hb : Bdd κ σ) (hm : N + 1 - pC κ ≤ m + 1) (hc : kI κ 72 7 = nI c) (hc1 : 1 < c) (hc2 : c < 300) (hd0 : dU (oC κ) ≤ d0 + 1) (ha : i8 a) (ho : (a = 26 ∧ op = 17) ∨ (a = 28 ∧ op = 19)) (rp : ∀ (d : Nat) (Q : Res → Rm → Prop), dU (oC κ) ≤ d + 1 → A X 92 d MX13_readP 431 [(0, vR 92)] [vI op] σ Q → A X 92 d MX13_readP 0 [(0, vR 92)] [] σ Q) (q1 : ∀ κ', OkP X N b P κ σ κ' → F 1 κ') (q0 : ∀ κ', BadP X b κ σ κ' → F 0 κ') : KC' X d0 MX5_readWith [vR 77, vI a] κ (kRI F) := by
  have ho2 : oC κ ≤ 24 := h.2.2.2.2.2.2.2.2.1
  have bi := hb.i h
  have hlt := h.n0 hc hc1 hc2
  have bad : ∀ (κ' : Km), F 0 κ' → K X d0 MX5_readWith 27 [(0, vR 77), (1, vI a)] [] κ' (kRI F) := fun κ' hF => k_5_readWith_27 _ (k_5_readWith_28 _ _ ⟨Or.inl rfl, _, rfl, hF⟩)
  refine KC_of_K rfl (Nat.le_of_ble_eq_true rfl) rfl (k_5_readWith_0 _ ⟨1, by simp only [dU] at hd0; omega, ?_⟩)
  refine kc_takeOpening h (by rw [hc]; exact nI_ne (b := 0) (by omega) (by omega) (by omega)) (by rw [hc]; exact nI_ne (b := 1) (by omega) (by omega) (by omega)) (fun _ o1 => ⟨fun z => absurd z (by decide), fun _ => ?_⟩) (fun o1 => ⟨fun _ => bad _ (q0 _ ⟨_, Flt.at h (by omega), fun d Q hd hq => rp d Q hd (a_readP_431 _ ⟨1, by simp only [dU] at hd; omega, ac_opens h (fun z => absurd ⟨rfl, z⟩ o1) (fun _ => hq)⟩)⟩), fun z => absurd rfl z⟩)
  obtain ⟨tp, n1, n2, n3, n4, n5, n6, n7, n8, n9, n10, n11⟩ := h.op2 hlt o1
  have hb1 : Bdd (opK κ) (opS κ σ) := Ps.bd2 hb (by omega) (by omega) n3 n4 n5 n6 n7 n8 n9
  have pc := pair_core (X := X) (a := a) (op := op) (x := 0) (y := 0) (F := fun y κ' => ((y = 0 → K X d0 MX5_readWith 27 [(0, vR 77), (1, vI a)] [] κ' (kRI F)) ∧ (¬ y = 0 → K X d0 MX5_readWith 28 [(0, vR 77), (1, vI a)] [vI 1] κ' (kRI F)))) hs tp.1 (by omega) hb1 (by rw [n1]; omega) ha (ho.elim Or.inl (fun z => Or.inr (Or.inl z))) (fun κ' σ' es dp ref => ⟨fun z => absurd z (by decide), fun _ => k_5_readWith_28 _ _ ⟨Or.inr rfl, _, rfl, q1 _ ⟨σ', tp.es1 (es.weak (by omega)), ?_, fun d Q hd hq => rp d Q hd (a_readP_431 _ ⟨1, by simp only [dU] at hd; omega, ac_opens h (fun _ => ref d Q _ (by simp only [dU] at hd ⊢; omega) (a_readP_547 hq)) (fun z => absurd o1 z)⟩)⟩⟩⟩) (fun κ' σ' fl ref => ⟨fun _ => bad _ (q0 _ ⟨σ', (fl.pre tp.2.1).weak (by omega), fun d Q hd hq => rp d Q hd (a_readP_431 _ ⟨1, by simp only [dU] at hd; omega, ac_opens h (fun _ => ref d Q _ (by simp only [dU] at hd ⊢; omega) hq) (fun z => absurd o1 z)⟩)⟩), fun z => absurd rfl z⟩)
  · exact ⟨_, by simp only [dU] at hd0 ⊢; omega, pc⟩
  · obtain ⟨f1, f2, f3, f4, f5, f6, f7, f8, f9, f10, f11⟩ := dp
    unfold De
    omega
theorem inject_core {m d0 : Nat} {F : Int32 → Km → Prop} (hs : SpU X N b P m) (h : Ps κ σ N b P) (hb : Bdd κ σ) (hm : N + 1 - pC κ ≤ m + 1) (hc : kI κ 72 7 = 214) (hd0 : dU (oC κ) ≤ d0 + 1) (q1 : ∀ κ', OkP X N b P κ σ κ' → F 1 κ') (q0 : ∀ κ', BadP X b κ σ κ' → F 0 κ') : KC' X d0 MX5_readInject [vR 77] κ (kRI F) := by
  have ho2 : oC κ ≤ 24 := h.2.2.2.2.2.2.2.2.1
  have bi := hb.i h
  have hlt := h.n0 (c := 214) hc (by omega) (by omega)
  refine KC_of_K rfl (Nat.le_of_ble_eq_true rfl) rfl (k_5_readInject_0 ⟨1, by simp only [dU] at hd0; omega, ?_⟩)
  refine kc_takeOpening h (by decide) (by decide) (fun _ o1 => ⟨fun z => absurd z (by decide), fun _ => ?_⟩) (fun o1 => ⟨fun _ => k_5_readInject_17 ⟨_, rfl, q0 _ ⟨_, Flt.at h (by omega), fun d Q hd hq => rp_inject h hd hc ⟨1, by simp only [dU] at hd; omega, ac_opens h (fun z => absurd ⟨hc, z⟩ o1) (fun _ => hq)⟩⟩⟩, fun z => absurd rfl z⟩)
  obtain ⟨tp, n1, n2, n3, n4, n5, n6, n7, n8, n9, n10, n11⟩ := h.op2 hlt o1
  have t3 := tp.1.p3
  refine ⟨1, by simp only [dU] at hd0; omega, kc_isNumber (fun c => ⟨fun z => absurd z (by decide), fun _ => ?_⟩) (fun c => ⟨fun _ => k_5_readInject_17 ⟨_, rfl, q0 _ ⟨_, (Flt.at' (k := 9) tp.1 (by omega) (by omega)).pre tp.2.1, fun d Q hd hq => rp_inject h hd hc ⟨1, by simp only [dU] at hd; omega, ac_opens h (fun _ => ⟨1, by simp only [dU] at hd; omega, ac_mustNumber tp.1 (fun x _ z => absurd (c.symm.trans z) (by decide)) (fun _ => hq) (fun _ z => absurd c z)⟩) (fun z => absurd o1 z)⟩⟩⟩, fun z => absurd rfl z⟩) (fun c c6 => ⟨fun _ => k_5_readInject_17 ⟨_, rfl, q0 _ ⟨_, (Flt.at tp.1 (by omega)).pre tp.2.1, fun d Q hd hq => rp_inject h hd hc ⟨1, by simp only [dU] at hd; omega, ac_opens h (fun _ => ⟨1, by simp only [dU] at hd; omega, ac_mustNumber tp.1 (fun x _ z => absurd z c) (fun z => absurd z c6) (fun _ _ => hq)⟩) (fun z => absurd o1 z)⟩⟩⟩, fun z => absurd rfl z⟩)⟩
  obtain ⟨f, t, t1, t2, t3', t4, t5, t6, t7, t8⟩ := tp.1.tok
  obtain ⟨x, hx, -, -, -, hv, -⟩ := t7.number.resolve_right (fun z => by
    rcases z with ⟨z, -⟩ | ⟨z, -⟩
    · exact absurd (c.symm.trans z) (by decide)
    · exact absurd c z)
  have hlt1 := tp.1.n0 (c := 3) c (by omega) (by omega)
  obtain ⟨p2, tr2, m1, m2, m3, m4, m5, m6, m7, m8, m9, m10, m11⟩ := tp.1.next hlt1
  have tp2 := tp.1.tp hlt1
  refine ⟨1, by simp only [dU] at hd0; omega, kc_numberHere tp.1 hx hv ⟨0, by simp only [dU] at hd0; omega, kc_nextP tp.1 hlt1 ?_⟩⟩
  rw [md10 hx]
  have num : ∀ (x' : Nat), x' < 1000000000 → kL (opK κ) 76 (pC (opK κ)) = Int64.ofNat x' → x' = x := fun x' hx' hv' => ofNat64_inj (by omega) (by omega) (hv'.symm.trans hv)
  -- the reference up to behind the number
  have path : ∀ (d : Nat) (Q : Res → Rm → Prop), dU (oC κ) ≤ d + 1 → (∃ e102 : Nat, e102 + 1 ≤ d ∧ AC X 92 e102 MX13_mustWord [vR 92, vR 22] (wS (opS κ σ) 10 (nI (pC (opK κ) + 1))) (aTV Q fun s105 => RPair X d s105 18 (nI (x % 10)) Q (fun s123 => A X 92 d MX13_readP 547 [(0, vR 92)] [] s123 Q))) → A X 92 d MX13_readP 0 [(0, vR 92)] [] σ Q := fun d Q hd hA => rp_inject h hd hc ⟨1, by simp only [dU] at hd; omega, ac_opens h (fun _ => ⟨1, by simp only [dU] at hd; omega, ac_mustNumber tp.1 (fun x' hx' _ hv' => by rw [num x' hx' hv', md10 hx]; exact hA) (fun z => absurd (c.symm.trans z) (by decide)) (fun z => absurd c z)⟩) (fun z => absurd o1 z)⟩
  have bad : ∀ (κ' : Km), F 0 κ' → K X d0 MX5_readInject 58 [(0, vR 77), (1, vI (nI (x % 10)))] [] κ' (kRI F) := fun κ' hF => k_5_readInject_58 _ (k_5_readInject_59 _ _ ⟨Or.inl rfl, _, rfl, hF⟩)
  refine ⟨1, by simp only [dU] at hd0; omega, kc_take p2 (c := 218) (by decide) (by decide) (fun c2 => ⟨fun z => absurd z (by decide), fun _ => ?_⟩) (fun c2 => ⟨fun _ => bad _ (q0 _ ⟨_, (Flt.at p2 (by omega)).pre (tp.2.1.trans tr2), fun d Q hd hq => path d Q hd ⟨6, by simp only [dU] at hd; omega, ac_mustWord (w := 18) p2 (by decide) (fun z => absurd z c2) (fun _ => hq)⟩⟩), fun z => absurd rfl z⟩)⟩
  have hlt2 := p2.n0 (c := 218) c2 (by omega) (by omega)
  obtain ⟨p3, tr3, w1, w2, w3, w4, w5, w6, w7, w8, w9, w10, w11⟩ := p2.next hlt2
  have tp3 := p2.tp hlt2
  have hb3 : Bdd _ _ := Ps.bd2 (κa := setC (setC (opK κ) (pC (opK κ) + 1)) (pC (setC (opK κ) (pC (opK κ) + 1)) + 1)) (σa := wS (wS (opS κ σ) 10 (nI (pC (opK κ) + 1))) 10 (nI (pC (setC (opK κ) (pC (opK κ) + 1)) + 1))) hb (by omega) (by omega) (by omega) (by omega) (by omega) (by omega) (by omega) (by omega) (by omega)
  have tpa := (tp.trans tp2).trans tp3
  have pc := pair_core (X := X) (a := 27) (op := 18) (x := nI (x % 10)) (y := nI (x % 10)) (F := fun y κ' => ((y = 0 → K X d0 MX5_readInject 58 [(0, vR 77), (1, vI (nI (x % 10)))] [] κ' (kRI F)) ∧ (¬ y = 0 → K X d0 MX5_readInject 59 [(0, vR 77), (1, vI (nI (x % 10)))] [vI 1] κ' (kRI F)))) hs p3 (by omega) hb3 (by rw [w1]; omega) (by unfold i8; decide) (Or.inr (Or.inr ⟨rfl, rfl, x % 10, by omega, rfl, rfl⟩)) (fun κ' σ' es dp ref => ⟨fun z => absurd z (by decide), fun _ => k_5_readInject_59 _ _ ⟨Or.inr rfl, _, rfl, q1 _ ⟨σ', tpa.es1 (es.weak (by omega)), ?_, fun d Q hd hq => path d Q hd ⟨6, by simp only [dU] at hd; omega, ac_mustWord (w := 18) p2 (by decide) (fun _ => ref d Q _ (by simp only [dU] at hd ⊢; omega) (a_readP_547 hq)) (fun z => absurd c2 z)⟩⟩⟩⟩) (fun κ' σ' fl ref => ⟨fun _ => bad _ (q0 _ ⟨σ', (fl.pre tpa.2.1).weak (by omega), fun d Q hd hq => path d Q hd ⟨6, by simp only [dU] at hd; omega, ac_mustWord (w := 18) p2 (by decide) (fun _ => ref d Q _ (by simp only [dU] at hd ⊢; omega) hq) (fun z => absurd c2 z)⟩⟩), fun z => absurd rfl z⟩)
  · exact ⟨_, by simp only [dU] at hd0 ⊢; omega, pc⟩
  · obtain ⟨f1, f2, f3, f4, f5, f6, f7, f8, f9, f10, f11⟩ := dp
    unfold De
    omega
theorem number_Q {Q : Res → Km → Prop} {d0 : Nat} (h : Ps κ σ N b P) (hb : Bdd κ σ) (hd0 : 5 ≤ d0) (hk : kI κ 72 7 = 3 ∨ kI κ 72 7 = 6) (q1 : ∀ κ', OkP X N b P κ σ κ' → Q (.inl (some (vI 1))) κ') (q0 : ∀ κ', BadP X b κ σ κ' → Q (.inl (some (vI 0))) κ') : KC' X 1 MX5_isNumber [vR 77] κ (kRI fun y12 κ13 => ((y12 = 0 → Q (.inl (some (vI 0))) κ13) ∧ (¬ y12 = 0 → ∃ e16 : Nat, e16 + 1 ≤ d0 ∧ KC' X e16 MX5_numberHere [vR 77] κ13 (kRI fun y19 κ20 => ∃ e22 : Nat, e22 + 1 ≤ d0 ∧ KC' X e22 MX1_add [vR 68, vI 1, vI y19] κ20 (kRI fun _ κ26 => ∃ e28 : Nat, e28 + 1 ≤ d0 ∧ KC' X e28 MX9_next [vR 72] κ26 (kRV fun κ31 => Q (.inl (some (vI 1))) κ31)))))) :=
  number_core (F := fun y κ' => Q (.inl (some (vI y))) κ') h hb hd0 hk q1 q0
/-- the reference's U where P stands -/
theorem ru_P {d : Nat} {Q : Res → Rm → Prop} (h : Ps κ σ N b P) (hd : 3 ≤ d) (n45 : kI κ 72 7 ≠ 45) (n33 : kI κ 72 7 ≠ 33) (hA : AC X 92 (d - 1) MX13_readP [vR 92] σ (aTV Q fun s16 => A X 92 d MX13_readU 68 [(0, vR 92)] [] s16 Q)) : AC X 92 d MX13_readU [vR 92] σ Q :=
  AC_of_A rfl (Nat.le_of_ble_eq_true rfl) rfl (a_readU_0 ⟨0, by omega, ac_isSign h (by decide) (fun z => absurd z n45) (fun _ => ⟨fun _ => ⟨0, by omega, ac_isSign h (by decide) (fun z => absurd z n33) (fun _ => ⟨fun _ => ⟨d - 1, by omega, hA⟩, fun z => absurd rfl z⟩)⟩, fun z => absurd rfl z⟩)⟩)
theorem un_spec {m : Nat} (hU : SpU X N b P m) (hE : SpE X N b P m) : SpU X N b P (m + 1) := by
  intro κ σ h hb hm
  have ho2 : oC κ ≤ 24 := h.2.2.2.2.2.2.2.2.1
  have bi := hb.i h
  have hp3 := h.p3
  -- how P's pieces end
  have okP : kI κ 72 7 ≠ 45 → kI κ 72 7 ≠ 33 → ∀ κ', OkP X N b P κ σ κ' → AC X 92 (dU (oC κ) + 0) MX13_readU [vR 92] σ (fun r' σ' => (Sum.inl (some (vI 1)) = (Sum.inl (some (vI 1)) : Res) ∧ r' = .inl none ∧ ES1 N b P (6 * oC κ + 3) 0 1 κ σ κ' σ' ∧ De κ σ κ' σ') ∨ (Sum.inl (some (vI 1)) = (Sum.inl (some (vI 0)) : Res) ∧ r' = .inr 93 ∧ Flt b κ σ (9010 + 4 * (24 - oC κ) + 0) κ' σ')) := fun n45 n33 κ' ⟨σ', es, de, rp⟩ => ru_P h (by simp only [dU]; omega) n45 n33 (AC_of_A rfl (Nat.le_of_ble_eq_true rfl) rfl (rp _ _ (by simp only [dU]; omega) (Or.inl ⟨rfl, a_readU_68 (Or.inl ⟨rfl, rfl, es, de⟩)⟩)))
  have badP : kI κ 72 7 ≠ 45 → kI κ 72 7 ≠ 33 → ∀ κ', BadP X b κ σ κ' → AC X 92 (dU (oC κ) + 0) MX13_readU [vR 92] σ (fun r' σ' => (Sum.inl (some (vI 0)) = (Sum.inl (some (vI 1)) : Res) ∧ r' = .inl none ∧ ES1 N b P (6 * oC κ + 3) 0 1 κ σ κ' σ' ∧ De κ σ κ' σ') ∨ (Sum.inl (some (vI 0)) = (Sum.inl (some (vI 0)) : Res) ∧ r' = .inr 93 ∧ Flt b κ σ (9010 + 4 * (24 - oC κ) + 0) κ' σ')) := fun n45 n33 κ' ⟨σ', fl, rp⟩ => ru_P h (by simp only [dU]; omega) n45 n33 (AC_of_A rfl (Nat.le_of_ble_eq_true rfl) rfl (rp _ _ (by simp only [dU]; omega) (Or.inr ⟨_, rfl, Or.inr ⟨rfl, rfl, fl⟩⟩)))
  refine KC_of_K rfl (Nat.le_of_ble_eq_true rfl) rfl (k_5_readUnary_0 ⟨fun c => ?_, fun c => ?_, fun c => ?_, fun c => ?_, fun c => ?_, fun c => ?_, fun c => ?_, fun c => ?_⟩)
  · refine ⟨dU (oC κ) - 1, by simp only [dU]; omega, pre_core (c := 33) (op := 12) hU h hb hm c (by omega) (by omega) (by unfold i8; decide) (Or.inr (Or.inl ⟨rfl, rfl⟩)) (fun κ' σ' es de ref => ⟨Or.inr rfl, AC_of_A rfl (Nat.le_of_ble_eq_true rfl) rfl ?_⟩) (fun κ' σ' fl ref => ⟨Or.inl rfl, AC_of_A rfl (Nat.le_of_ble_eq_true rfl) rfl ?_⟩)⟩
    · exact a_readU_0 ⟨0, by simp only [dU]; omega, ac_isSign h (by decide) (fun z => absurd (c.symm.trans z) (by decide)) (fun _ => ⟨fun _ => ⟨0, by simp only [dU]; omega, ac_isSign h (by decide) (fun _ => ⟨fun z => absurd z (by decide), fun _ => a_readU_18 ⟨0, by simp only [dU]; omega, ac_isSign h (by decide) (fun z => absurd (c.symm.trans z) (by decide)) (fun _ => ⟨fun _ => a_readU_34 _ (ref _ _ _ (by simp only [dU]; omega) (a_readU_68 (Or.inl ⟨rfl, rfl, es, de⟩))), fun z => absurd rfl z⟩)⟩⟩) (fun z => absurd c z)⟩, fun z => absurd rfl z⟩)⟩
    · exact a_readU_0 ⟨0, by simp only [dU]; omega, ac_isSign h (by decide) (fun z => absurd (c.symm.trans z) (by decide)) (fun _ => ⟨fun _ => ⟨0, by simp only [dU]; omega, ac_isSign h (by decide) (fun _ => ⟨fun z => absurd z (by decide), fun _ => a_readU_18 ⟨0, by simp only [dU]; omega, ac_isSign h (by decide) (fun z => absurd (c.symm.trans z) (by decide)) (fun _ => ⟨fun _ => a_readU_34 _ (ref _ _ _ (by simp only [dU]; omega) (Or.inr ⟨rfl, rfl, fl⟩)), fun z => absurd rfl z⟩)⟩⟩) (fun z => absurd c z)⟩, fun z => absurd rfl z⟩)⟩
  · refine ⟨dU (oC κ) - 1, by simp only [dU]; omega, pre_core (c := 45) (op := 11) hU h hb hm c (by omega) (by omega) (by unfold i8; decide) (Or.inl ⟨rfl, rfl⟩) (fun κ' σ' es de ref => ⟨Or.inr rfl, AC_of_A rfl (Nat.le_of_ble_eq_true rfl) rfl ?_⟩) (fun κ' σ' fl ref => ⟨Or.inl rfl, AC_of_A rfl (Nat.le_of_ble_eq_true rfl) rfl ?_⟩)⟩
    · exact a_readU_0 ⟨0, by simp only [dU]; omega, ac_isSign h (by decide) (fun _ => ⟨fun z => absurd z (by decide), fun _ => a_readU_18 ⟨0, by simp only [dU]; omega, ac_isSign h (by decide) (fun _ => ⟨fun z => absurd z (by decide), fun _ => a_readU_34 _ (ref _ _ _ (by simp only [dU]; omega) (a_readU_68 (Or.inl ⟨rfl, rfl, es, de⟩)))⟩) (fun z => absurd c z)⟩⟩) (fun z => absurd c z)⟩
    · exact a_readU_0 ⟨0, by simp only [dU]; omega, ac_isSign h (by decide) (fun _ => ⟨fun z => absurd z (by decide), fun _ => a_readU_18 ⟨0, by simp only [dU]; omega, ac_isSign h (by decide) (fun _ => ⟨fun z => absurd z (by decide), fun _ => a_readU_34 _ (ref _ _ _ (by simp only [dU]; omega) (Or.inr ⟨rfl, rfl, fl⟩))⟩) (fun z => absurd c z)⟩⟩) (fun z => absurd c z)⟩
  · have n45 : kI κ 72 7 ≠ 45 := by rw [c]; decide
    have n33 : kI κ 72 7 ≠ 33 := by rw [c]; decide
    exact ⟨dU (oC κ) - 1, by simp only [dU]; omega, pre_core (c := 211) (op := 15) hU h hb hm c (by omega) (by omega) (by unfold i8; decide) (Or.inr (Or.inr (Or.inr ⟨rfl, rfl⟩))) (fun κ' σ' es de ref => ⟨Or.inr rfl, okP n45 n33 κ' ⟨σ', es, de, fun d Q hd hq => rp_yield h hd c (a_readP_259 ⟨5, by simp only [dU] at hd; omega, ac_isWord (w := 20) h (by decide) (fun z => absurd (c.symm.trans z) (by decide)) (fun _ => ⟨fun _ => a_readP_275 _ (ref d Q _ hd (a_readP_547 hq)), fun z => absurd rfl z⟩)⟩)⟩⟩) (fun κ' σ' fl ref => ⟨Or.inl rfl, badP n45 n33 κ' ⟨σ', fl, fun d Q hd hq => rp_yield h hd c (a_readP_259 ⟨5, by simp only [dU] at hd; omega, ac_isWord (w := 20) h (by decide) (fun z => absurd (c.symm.trans z) (by decide)) (fun _ => ⟨fun _ => a_readP_275 _ (ref d Q _ hd hq), fun z => absurd rfl z⟩)⟩)⟩⟩)⟩
  · have n45 : kI κ 72 7 ≠ 45 := by rw [c]; decide
    have n33 : kI κ 72 7 ≠ 33 := by rw [c]; decide
    exact ⟨dU (oC κ) - 1, by simp only [dU]; omega, with_core (c := 213) (op := 17) hU h hb hm c (by omega) (by omega) (by simp only [dU]; omega) (by unfold i8; decide) (Or.inl ⟨rfl, rfl⟩) (fun d Q hd hA => rp_resume h hd c (a_readP_415 ⟨5, by simp only [dU] at hd; omega, ac_isWord (w := 13) h (by decide) (fun _ => ⟨fun z => absurd z (by decide), fun _ => hA⟩) (fun z => absurd c z)⟩)) (fun κ' ok => ⟨Or.inr rfl, okP n45 n33 κ' ok⟩) (fun κ' bd => ⟨Or.inl rfl, badP n45 n33 κ' bd⟩)⟩
  · have n45 : kI κ 72 7 ≠ 45 := by rw [c]; decide
    have n33 : kI κ 72 7 ≠ 33 := by rw [c]; decide
    exact ⟨dU (oC κ) - 1, by simp only [dU]; omega, inject_core hU h hb hm c (by simp only [dU]; omega) (fun κ' ok => ⟨Or.inr rfl, okP n45 n33 κ' ok⟩) (fun κ' bd => ⟨Or.inl rfl, badP n45 n33 κ' bd⟩)⟩
  · have n45 : kI κ 72 7 ≠ 45 := by rw [c]; decide
    have n33 : kI κ 72 7 ≠ 33 := by rw [c]; decide
    exact ⟨dU (oC κ) - 1, by simp only [dU]; omega, with_core (c := 216) (op := 19) hU h hb hm c (by omega) (by omega) (by simp only [dU]; omega) (by unfold i8; decide) (Or.inr ⟨rfl, rfl⟩) (fun d Q hd hA => rp_hand h hd c (a_readP_415 ⟨5, by simp only [dU] at hd; omega, ac_isWord (w := 13) h (by decide) (fun z => absurd (c.symm.trans z) (by decide)) (fun _ => ⟨fun _ => hA, fun z => absurd rfl z⟩)⟩)) (fun κ' ok => ⟨Or.inr rfl, okP n45 n33 κ' ok⟩) (fun κ' bd => ⟨Or.inl rfl, badP n45 n33 κ' bd⟩)⟩
  · have n45 : kI κ 72 7 ≠ 45 := by rw [c]; decide
    have n33 : kI κ 72 7 ≠ 33 := by rw [c]; decide
    exact ⟨dU (oC κ) - 1, by simp only [dU]; omega, pre_core (c := 220) (op := 14) hU h hb hm c (by omega) (by omega) (by unfold i8; decide) (Or.inr (Or.inr (Or.inl ⟨rfl, rfl⟩))) (fun κ' σ' es de ref => ⟨Or.inr rfl, okP n45 n33 κ' ⟨σ', es, de, fun d Q hd hq => rp_state h hd c (a_readP_259 ⟨5, by simp only [dU] at hd; omega, ac_isWord (w := 20) h (by decide) (fun _ => ⟨fun z => absurd z (by decide), fun _ => a_readP_275 _ (ref d Q _ hd (a_readP_547 hq))⟩) (fun z => absurd c z)⟩)⟩⟩) (fun κ' σ' fl ref => ⟨Or.inl rfl, badP n45 n33 κ' ⟨σ', fl, fun d Q hd hq => rp_state h hd c (a_readP_259 ⟨5, by simp only [dU] at hd; omega, ac_isWord (w := 20) h (by decide) (fun _ => ⟨fun z => absurd z (by decide), fun _ => a_readP_275 _ (ref d Q _ hd hq)⟩) (fun z => absurd c z)⟩)⟩⟩)⟩
  · have n33 : kI κ 72 7 ≠ 33 := fun z => c (Or.inl z)
    have n45 : kI κ 72 7 ≠ 45 := fun z => c (Or.inr (Or.inl z))
    have n211 : kI κ 72 7 ≠ 211 := fun z => c (Or.inr (Or.inr (Or.inl z)))
    have n213 : kI κ 72 7 ≠ 213 := fun z => c (Or.inr (Or.inr (Or.inr (Or.inl z))))
    have n214 : kI κ 72 7 ≠ 214 := fun z => c (Or.inr (Or.inr (Or.inr (Or.inr (Or.inl z)))))
    have n216 : kI κ 72 7 ≠ 216 := fun z => c (Or.inr (Or.inr (Or.inr (Or.inr (Or.inr (Or.inl z))))))
    have n220 : kI κ 72 7 ≠ 220 := fun z => c (Or.inr (Or.inr (Or.inr (Or.inr (Or.inr (Or.inr z))))))
    have fin1 : ∀ κ', OkP X N b P κ σ κ' → _ := fun κ' ok => okP n45 n33 κ' ok
    refine ⟨dU (oC κ) - 1, by simp only [dU]; omega, KC_of_K rfl (Nat.le_of_ble_eq_true rfl) rfl (k_5_readPlain_0 ⟨fun k => ?_, fun k => ?_, fun k => ?_, fun k => ?_, fun k => ?_, fun k => ?_, fun k => ?_⟩)⟩
    · exact ⟨dU (oC κ) - 2, by simp only [dU]; omega, name_core hE h hb hm (Or.inl k) (fun κ' ok => ⟨Or.inr rfl, _, rfl, Or.inr rfl, okP n45 n33 κ' ok⟩) (fun κ' bd => ⟨Or.inl rfl, _, rfl, Or.inl rfl, badP n45 n33 κ' bd⟩)⟩
    · exact ⟨1, by simp only [dU]; omega, number_Q (d0 := dU (oC κ) - 1) h hb (by simp only [dU]; omega) (Or.inl k) (fun κ' ok => ⟨_, rfl, Or.inr rfl, okP n45 n33 κ' ok⟩) (fun κ' bd => ⟨_, rfl, Or.inl rfl, badP n45 n33 κ' bd⟩)⟩
    · exact ⟨dU (oC κ) - 2, by simp only [dU]; omega, name_core hE h hb hm (Or.inr k) (fun κ' ok => ⟨Or.inr rfl, _, rfl, Or.inr rfl, okP n45 n33 κ' ok⟩) (fun κ' bd => ⟨Or.inl rfl, _, rfl, Or.inl rfl, badP n45 n33 κ' bd⟩)⟩
    · exact ⟨1, by simp only [dU]; omega, number_Q (d0 := dU (oC κ) - 1) h hb (by simp only [dU]; omega) (Or.inr k) (fun κ' ok => ⟨_, rfl, Or.inr rfl, okP n45 n33 κ' ok⟩) (fun κ' bd => ⟨_, rfl, Or.inl rfl, badP n45 n33 κ' bd⟩)⟩
    · exact ⟨dU (oC κ) - 2, by simp only [dU]; omega, new_core hE h hb hm k (by simp only [dU]; omega) (fun κ' ok => ⟨Or.inr rfl, _, rfl, Or.inr rfl, okP n45 n33 κ' ok⟩) (fun κ' bd => ⟨Or.inl rfl, _, rfl, Or.inl rfl, badP n45 n33 κ' bd⟩)⟩
    · have hlt := h.n0 (c := 219) k (by omega) (by omega)
      refine ⟨2, by simp only [dU]; omega, h.add (by omega) (by unfold i8; decide) (fun κ2 ad => ?_)⟩
      obtain ⟨⟨p2, tr2⟩, n1, n2, n3, n4, n5, n6, n7, n8, n9, n10, n11⟩ := h.addC (by omega) ad
      refine ⟨0, by simp only [dU]; omega, kc_nextP p2 (by omega) ⟨_, rfl, Or.inr rfl, okP n45 n33 _ ?_⟩⟩
      obtain ⟨p1, tr1, m1, m2, m3, m4, m5, m6, m7, m8, m9, m10, m11⟩ := p2.next (by omega)
      rw [n1] at p1 tr1 m1 m2 m3 m4 m5 m6 m7 m8 m9 m10 m11
      have hj : rJ (wS σ 10 (nI (pC κ + 1))) < 12000 := by omega
      obtain ⟨⟨p3, tr3⟩, w1, w2, w3, w4, w5, w6, w7, w8, w9, w10, w11⟩ := p1.emit (x := 13) (y := 0) (z := 0) hj
      rw [n1]
      refine ⟨em (wS σ 10 (nI (pC κ + 1))) 13 0 0, ⟨p3, (tr2.trans tr1).trans tr3, Tu.one (by omega) (by omega) (by omega) (by omega) ((tr1.trans tr3).2.2.1.2.2.2.2.2.2.1 (iC κ) (by omega) |>.1.trans ad.2.1) (by decide) (by omega), fun κF σF vr br hf he A L n hn hg g => ?_⟩, ?_, fun d Q hd hq => rp_me h hd k (by
        rintro s1 rfl
        rw [wS_at h]
        exact ⟨0, by simp only [dU] at hd; omega, ac_emit p1.2.2.2.2.2.2.2.2.2.2.2.1 hj (a_readP_547 hq)⟩)⟩
      · have e1 := he.1 (iC κ) (Nat.le_refl _) (by omega)
        have e2 := he.2.1 (rJ σ) (Nat.le_refl _) (by omega)
        have mm := em_at (σ := wS σ 10 (nI (pC κ + 1))) (x := 13) (y := 0) (z := 0)
        rw [m4, n4] at mm
        rw [setC_ne (by decide), setC_ne (by decide), ad.2.1, ad.2.2.1] at e1
        rw [mm.1, mm.2.1, mm.2.2.1] at e2
        rw [w3, m3, n3, w4, m4, n4] at g
        exact mkG hf.1 (by omega) e1.2.1 (by omega) (by omega) hg (Or.inr (Or.inr (Or.inr (Or.inr (Or.inr (Or.inr (Or.inl ⟨rfl, e1.1, e2.1, g⟩)))))))
      · unfold De
        rw [w1, w2, w3, w4, w5, w6, w7, w8, w9, w10, w11]
        omega
    · refine ⟨dU (oC κ) - 2, by simp only [dU]; omega, cond_core hE h hb hm (by simp only [dU]; omega) (fun κ' σ' k40 es de ref => ⟨Or.inr rfl, _, rfl, Or.inr rfl, okP n45 n33 κ' ⟨σ', es, de, fun d Q hd hq => rp_paren h hd k40 (ref d Q _ hd (a_readP_547 hq))⟩⟩) (fun κ' σ' k40 fl ref => ⟨Or.inl rfl, _, rfl, Or.inl rfl, badP n45 n33 κ' ⟨σ', fl, fun d Q hd hq => rp_paren h hd k40 (ref d Q _ hd hq)⟩⟩) (fun k40 => ⟨Or.inl rfl, _, rfl, Or.inl rfl, badP n45 n33 _ ⟨_, Flt.at h (by omega), fun d Q hd hq => rp_else h hd (fun z => k (Or.inl z)) (fun z => k (Or.inr (Or.inr (Or.inl z)))) (fun z => k (Or.inr (Or.inl z))) (fun z => k (Or.inr (Or.inr (Or.inr (Or.inl z))))) k40 (fun z => k (Or.inr (Or.inr (Or.inr (Or.inr (Or.inr z)))))) n220 n211 (fun z => k (Or.inr (Or.inr (Or.inr (Or.inr (Or.inl z)))))) n213 n216 n214 hq⟩⟩)⟩
/-- ALL EXPRESSIONS -/
theorem ex_all : ∀ m, SpU X N b P m ∧ SpE X N b P m := by
  intro m
  induction m with
  | zero =>
    have no : ∀ (κ : Km) (σ : Rm), Ps κ σ N b P → ¬ N + 1 - pC κ ≤ 0 := fun κ σ h => by
      have := h.2.2.2.2.2.1
      omega
    exact ⟨fun κ σ h _ hm => absurd hm (no κ σ h), fun κ σ h _ hm => absurd hm (no κ σ h)⟩
  | succ m ih =>
    have u := un_spec ih.1 ih.2
    exact ⟨u, ce_spec (sm_spec (tp_spec u))⟩
end PL3
