/-! statements, blocks: both read them alike -/
section BLK
variable {X : Cx} {N b P : Nat} {κ κi κn κ' : Km} {σ σi σn σ' : Rm}
theorem stm_core {m d0 : Nat} {F : Int32 → Km → Prop} (hB : SpB X N b P m) (h : Ps κ σ N b P) (hb : Bds κ σ) (hm : N + 1 - pC κ ≤ m + 1) (hd0 : dS (oC κ) + 6 ≤ d0) (q1 : ∀ κ', OkS X N b P κ σ κ' → F 1 κ') (q0 : ∀ κ', BadS X b κ σ κ' → F 0 κ') : KC' X d0 MX5_readStatement [vR 77] κ (kRI F) := by
  have bi := hb.1.i h
  have hE := (ex_all (X := X) (N := N) (b := b) (P := P) m).2
  have hE1 := (ex_all (X := X) (N := N) (b := b) (P := P) (m + 1)).2
  have y1 : ∀ κ', OkS X N b P κ σ κ' → ((1 : Int32) = 0 ∨ (1 : Int32) = 1) ∧ kRI F (.inl (some (vI 1))) κ' := fun κ' o => ⟨Or.inr rfl, _, rfl, q1 κ' o⟩
  have y0 : ∀ κ', BadS X b κ σ κ' → ((0 : Int32) = 0 ∨ (0 : Int32) = 1) ∧ kRI F (.inl (some (vI 0))) κ' := fun κ' o => ⟨Or.inl rfl, _, rfl, q0 κ' o⟩
  have hd5 : dS (oC κ) + 5 ≤ d0 - 1 := by omega
  have hd1 : dS (oC κ) ≤ d0 - 1 := by omega
  have hd2 : d0 - 1 + 1 ≤ d0 := by omega
  refine KC_of_K rfl (Nat.le_of_ble_eq_true rfl) rfl (k_5_readStatement_0 ⟨2, by omega, h.add (by omega) (by unfold i8; decide) (fun κ5 ad => ⟨fun c => ⟨_, hd2, ?_⟩, fun c => ⟨_, hd2, ?_⟩, fun c => ⟨_, hd2, ?_⟩, fun c => ⟨_, hd2, ?_⟩, fun c => ⟨_, hd2, ?_⟩, fun c => ⟨_, hd2, ?_⟩, fun c => ⟨_, hd2, ?_⟩⟩)⟩)
  · exact if_core (F := fun y κ' => (y = 0 ∨ y = 1) ∧ kRI F (.inl (some (vI y))) κ') hE hB h hb hm ad hd5 c y1 y0
  · exact while_core (F := fun y κ' => (y = 0 ∨ y = 1) ∧ kRI F (.inl (some (vI y))) κ') hE hB h hb hm ad hd5 c y1 y0
  · exact try_core (F := fun y κ' => (y = 0 ∨ y = 1) ∧ kRI F (.inl (some (vI y))) κ') hB h hb hm ad hd5 c y1 y0
  · exact throw_core (F := fun y κ' => (y = 0 ∨ y = 1) ∧ kRI F (.inl (some (vI y))) κ') hE1 h hb hm ad hd1 c y1 y0
  · exact return_core (F := fun y κ' => (y = 0 ∨ y = 1) ∧ kRI F (.inl (some (vI y))) κ') hE1 h hb hm ad hd1 c y1 y0
  · exact each_core (F := fun y κ' => (y = 0 ∨ y = 1) ∧ kRI F (.inl (some (vI y))) κ') hE hB h hb hm ad hd5 c y1 y0
  · exact simple_core (F := fun y κ' => (y = 0 ∨ y = 1) ∧ kRI F (.inl (some (vI y))) κ') hE1 h hb hm ad hd1 (fun z => c (Or.inl z)) (fun z => c (Or.inr (Or.inl z))) (fun z => c (Or.inr (Or.inr (Or.inr (Or.inl z))))) (fun z => c (Or.inr (Or.inr (Or.inr (Or.inr (Or.inl z)))))) (fun z => c (Or.inr (Or.inr (Or.inr (Or.inr (Or.inr z)))))) (fun z => c (Or.inr (Or.inr (Or.inl z)))) y1 y0
theorem Bds.on (hb : Bds κi σi) (ds : Ds κi σi κn σn) : Bds κn σn := by
  obtain ⟨⟨b1, b2, b3, b4, b5, b6, b7⟩, b8, b9, b10⟩ := hb
  obtain ⟨l1, l2, l3, l4, l5, l6, l7, l8, l9, l10, l11⟩ := ds
  unfold Bds Bdd
  omega
/-- what a block comes to -/
def OkB (N b P : Nat) (κ : Km) (σ : Rm) (κ' : Km) (σ' : Rm) : Prop := ST N b P 0 κ σ κ' σ' ∧ pC κ + 2 ≤ pC κ' ∧ iC κ' + 6 ≤ iC κ + 3 * (pC κ' - pC κ) ∧ rJ σ' + 6 ≤ rJ σ + 3 * (pC κ' - pC κ) ∧ 6 * rT σ' + 2 ≤ 6 * rT σ + (pC κ' - pC κ) ∧ 4 * rC σ' + 2 ≤ 4 * rC σ + (pC κ' - pC κ)
theorem blk_st (tp : TP N b P κ σ κi σi) (nu : Nu κi σi (pC κ + 1) (oC κ + 1) (iC κ) (rJ σ) (rU σ) (rA σ) (rT σ) (rC σ) (rV σ) (rK σ) (rE σ)) (st : ST N b P 1 κi σi κn σn) (tq : TP N b P κn σn κ' σ') (nv : Nu κ' σ' (pC κn + 1) (oC κn - 1) (iC κn) (rJ σn) (rU σn) (rA σn) (rT σn) (rC σn) (rV σn) (rK σn) (rE σn)) : OkB N b P κ σ κ' σ' := by
  obtain ⟨n1, n2, n3, n4, n5, n6, n7, n8, n9, n10, n11⟩ := nu
  obtain ⟨v1, v2, v3, v4, v5, v6, v7, v8, v9, v10, v11⟩ := nv
  obtain ⟨s1, s2, s3, s4, l1, l2, l3, l4, l5, l6, l7, l8, l9, l10, l11⟩ := st
  have tc1 : Tc σ σi := Tc.same tp.2.2.2.2.1
  have tc2 : Tc σn σ' := Tc.same tq.2.2.2.2.1
  have tc12 : Tc σ σn := tc1.trans s3.1 tp.2.1.2.2.1 s2.2.2.1
  have us := s3.2.step tq.2.1 ⟨Nat.le_refl _, Nat.le_refl _, Nat.le_refl _, Nat.le_refl _, Nat.le_refl _⟩
  rw [n3, n4, n5, n6, n9] at us
  have us' : UsA N κ' σ' (iC κ) (iC κ') (rJ σ) (rJ σ') (rU σ) (rU σ') (rA σ) (rA σ') (rV σ) (rV σ') := us.to ⟨by omega, by omega, by omega, by omega, by omega⟩
  refine ⟨⟨tq.1, (tp.2.1.trans s2).trans tq.2.1, ⟨tc12.trans tc2 (tp.2.1.trans s2).2.2.1 tq.2.1.2.2.1, us'⟩, fun κF σF vr br hf he A L e1 e2 e3 hg => ?_, ?_⟩, by omega, by omega, by omega, by omega, by omega⟩
  · have he1 := he.left (tp.2.1.trans s2) tq.2.1 tc12 tc2 s1.1.2.2.2.2.cv
    have he2 := he1.right tp.2.1 s2 tc1 s3.1
    have u := s4 κF σF vr br hf he2 A L (by omega) (by omega) (by omega) hg
    rw [v3, v4, ← n3, ← n4]
    exact u
  · unfold Ds
    omega
theorem blk_loop {m : Nat} (hB : SpB X N b P m) (h : Ps κ σ N b P) (ho : oC κ < 24) (tp : TP N b P κ σ κi σi) (nu : Nu κi σi (pC κ + 1) (oC κ + 1) (iC κ) (rJ σ) (rU σ) (rA σ) (rT σ) (rC σ) (rV σ) (rK σ) (rE σ)) (hbi : Bds κi σi) : ∀ (g i : Nat) (κn : Km) (σn : Rm), N + 1 - pC κn ≤ g → N + 1 - pC κn ≤ m + 1 → i ≤ pC κn → ST N b P 1 κi σi κn σn → (∀ Q : Res → Rm → Prop, A X 92 (dS (oC κ)) MX13_readBlock 26 [(0, vR 92)] [] σn Q → A X 92 (dS (oC κ)) MX13_readBlock 0 [(0, vR 92)] [] σ Q) → K X (dS (oC κ)) MX5_readBlock 13 [(0, vR 77), (1, vI (nI i))] [] κn (fun r κ' => AC X 92 (dS (oC κ)) MX13_readBlock [vR 92] σ (fun r' σ' => (r = .inl (some (vI 1)) ∧ r' = .inl none ∧ OkB N b P κ σ κ' σ') ∨ (r = .inl (some (vI 0)) ∧ r' = .inr 93 ∧ Flt b κ σ 9200 κ' σ'))) := by
  intro g
  induction g with
  | zero =>
    intro i κn σn hg hm hi st
    have := st.1.2.2.2.2.2.1
    omega
  | succ g ih =>
    intro i κn σn hg hm hi st path
    have pn := st.1
    have hpn := pn.p3
    have hbn : Bds κn σn := hbi.on st.2.2.2.2
    have on : oC κn = oC κ + 1 := by
      have e1 := st.2.2.2.2.2.2.2.2.2.2.2.2.1
      have e2 := nu.2.1
      omega
    have tAn : Tr b κ σ κn σn := tp.2.1.trans st.2.1
    refine k_5_readBlock_13 _ ?_
    rw [litI 3001, le_nI (by omega) (by omega)]
    refine ⟨fun z => absurd z (by omega), fun _ => ⟨fun c => ?_, fun nc => ?_⟩⟩
    · have hlt := pn.n0 (c := 125) c (by omega) (by omega)
      obtain ⟨tq, nv⟩ := pn.cl2 hlt (by omega)
      refine k_5_readBlock_47 _ ⟨1, by simp only [dS]; omega, kc_takeClosing pn (by omega) (by decide) (by decide) (fun _ => ⟨Or.inr rfl, AC_of_A rfl (Nat.le_of_ble_eq_true rfl) rfl (path _ (a_readBlock_26 ⟨0, by simp only [dS]; omega, ac_isSign pn (by decide) (fun _ => ⟨fun z => absurd z (by decide), fun _ => ⟨2, by simp only [dS]; omega, ac_closes pn (by omega) (by decide) (fun _ => Or.inl ⟨rfl, rfl, blk_st tp nu st tq nv⟩) (fun z => absurd c z)⟩⟩) (fun z => absurd c z)⟩))⟩) (fun z => absurd c z)⟩
    · refine ⟨dS (oC κ) - 1, by simp only [dS]; omega, stm_core hB pn hbn hm (by simp only [dS]; omega) (fun κ' ok => ⟨fun z => absurd z (by decide), fun _ => ?_⟩) (fun κ' bad => ⟨fun _ => ?_, fun z => absurd rfl z⟩)⟩
      · obtain ⟨σ', s, lt, rs⟩ := ok
        rw [nI_1]
        exact ih (i + 1) κ' σ' (nbl hg lt) (Nat.le_trans (Nat.sub_le_sub_left (Nat.le_of_lt lt) _) hm) (Nat.lt_of_le_of_lt hi lt) (st.trans s) (fun Q hA => path Q (a_readBlock_26 ⟨0, by simp only [dS]; omega, ac_isSign pn (by decide) (fun z => absurd z nc) (fun _ => ⟨fun _ => ⟨dS (oC κ) - 1, by simp only [dS]; omega, AC_of_A rfl (Nat.le_of_ble_eq_true rfl) rfl (rs (dS (oC κ) - 1) _ (by simp only [dS]; omega) (Or.inl ⟨rfl, hA⟩))⟩, fun z => absurd rfl z⟩)⟩))
      · obtain ⟨σ', fl, rs⟩ := bad
        exact AC_of_A rfl (Nat.le_of_ble_eq_true rfl) rfl (path _ (a_readBlock_26 ⟨0, by simp only [dS]; omega, ac_isSign pn (by decide) (fun z => absurd z nc) (fun _ => ⟨fun _ => ⟨dS (oC κ) - 1, by simp only [dS]; omega, AC_of_A rfl (Nat.le_of_ble_eq_true rfl) rfl (rs (dS (oC κ) - 1) _ (by simp only [dS]; omega) (Or.inr ⟨93, rfl, Or.inr ⟨rfl, rfl, fl.pre tAn⟩⟩))⟩, fun z => absurd rfl z⟩)⟩))
theorem blk_spec {m : Nat} (hB : SpB X N b P m) : SpB X N b P (m + 1) := by
  intro κ σ h hb hm
  have ho2 : oC κ ≤ 24 := h.2.2.2.2.2.2.2.2.1
  have hp := h.p3
  obtain ⟨b1, b2, b3, b4, b5, b6, b7, b8⟩ := hb
  have hi : iC κ ≤ 9200 := by omega
  obtain ⟨f, t, f1, f2, -⟩ := h.tok
  refine KC_of_K rfl (Nat.le_of_ble_eq_true rfl) rfl (k_5_readBlock_0 ⟨1, by simp only [dS]; omega, kc_takeOpening h (by decide) (by decide) (fun c o1 => ⟨fun z => absurd z (by decide), fun _ => ?_⟩) (fun no => ⟨fun _ => AC_of_A rfl (Nat.le_of_ble_eq_true rfl) rfl (a_readBlock_0 ⟨0, by simp only [dS]; omega, ac_isSign h (by decide) (fun c => ⟨fun z => absurd z (by decide), fun _ => a_readBlock_22 ⟨1, by simp only [dS]; omega, ac_opens h (fun z => absurd ⟨c, z⟩ no) (fun _ => Or.inr ⟨rfl, rfl, Flt.at h hi⟩)⟩⟩) (fun nc => ⟨fun _ => ?_, fun z => absurd rfl z⟩)⟩), fun z => absurd rfl z⟩)⟩)
  · have hlt := h.n0 (c := 123) c (by omega) (by omega)
    obtain ⟨tp, nu⟩ := h.op2 hlt o1
    have nu' := nu
    obtain ⟨n1, n2, n3, n4, n5, n6, n7, n8, n9, n10, n11⟩ := nu'
    have hbi : Bds (opK κ) (opS κ σ) := by
      unfold Bds Bdd
      omega
    show K X (dS (oC κ)) MX5_readBlock 13 [(0, vR 77), (1, vI (nI 0))] [] (opK κ) _
    exact blk_loop hB h o1 tp nu hbi (N + 1 - pC (opK κ)) 0 (opK κ) (opS κ σ) (Nat.le_refl _) (by omega) (Nat.zero_le _) (ST.refl tp.1) (fun Q hA => a_readBlock_0 ⟨0, by simp only [dS]; omega, ac_isSign h (by decide) (fun _ => ⟨fun z => absurd z (by decide), fun _ => a_readBlock_22 ⟨1, by simp only [dS]; omega, ac_opens h (fun _ => hA) (fun z => absurd o1 z)⟩⟩) (fun z => absurd c z)⟩)
  · rw [h.2.2.2.2.1, vpn (by omega), cl_nI (by omega), f2, ← f1]
    exact ⟨by omega, 0, by simp only [dS]; omega, ac_failT (Or.inr ⟨rfl, rfl, Flt.at h hi⟩)⟩
theorem blk_all : ∀ m, SpB X N b P m := by
  intro m
  induction m with
  | zero =>
    intro κ σ h _ hm
    have := h.2.2.2.2.2.1
    omega
  | succ m ih => exact blk_spec ih
end BLK
