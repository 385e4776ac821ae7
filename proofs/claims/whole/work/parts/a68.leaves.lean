/-! a failure leaves a voice: the methods -/
section LEAVES
variable {X : Cx} {d e : Nat} {κ0 κ κ1 κ' : Km} {σ0 σ σ1 σ' : Rm} {b V al S T T' sp z LT HT LT' HT' F0 F0' v p n x x' q s r g : Nat} {st : Nat → Nat} {fr : Nat → List Frm} {pt : Nat → Nat} {fs : List Frm} {ch : List Nat} {y u : Int32} {C : Km → Prop} {D : Rm → Prop} {G : Rm → Prop}
theorem Ro.ends (ro : Ro p σ σ') : Ro p (enR σ n al y) (enR σ' n al y) := by
  unfold enR
  rw [ro.s (k := 58) (by decide)]
  split
  · exact ro.par.par
  · exact ro.par.par.par.par
theorem enR_B (h : aI σ 58 n = nI p) (hp : p < 12) : enR σ n al y = wI (wI (wS (wI σ 49 n y) 48 (nI (al - 1))) 59 p 0) 58 n (-9) := by
  unfold enR
  rw [if_neg (by rw [h]; exact neg9 (by omega)), h, cl_nI (by omega)]
/-- rows of a part that nobody has -/
theorem Bn.part (h : Bn κ0 σ0 κ σ b V al S T sp z LT HT F0 st fr pt 0) (ro : Ro q σ σ') (hq : ∀ n, 1 ≤ n → n ≤ V → fr n ≠ [] → pt n ≠ q) : Bn κ0 σ0 κ σ' b V al S T sp z LT HT F0 st fr pt 0 := by
  obtain ⟨⟨a1, a2, a3⟩, a4, a5, a7, a8, a9, a10⟩ := h
  have ko : Vo 1 κ κ := Vo.refl
  refine ⟨⟨a1.vo (by omega) ko ro, a2, a3⟩, a4.vo ko ro, fun n n1 n2 => (a5 n n1 n2).vo ko ro, a7.cg rfl (ro.s (by decide)) (fun _ => rfl), a8.vo ko ro, a9.vo ko ro, fun n n1 n2 => ?_⟩
  rcases a10 n n1 n2 with ⟨h1, h2, h3, h4⟩ | ⟨h1, h2, h3, h4⟩
  · exact Or.inl ⟨h1, h2, by rw [ro.s (by decide)]; exact h3, h4⟩
  · exact Or.inr ⟨h1, h2, Or.inl ((h3.elim id (fun z => absurd z.1 (by omega))).ro (hq n n1 n2 h1) ro), by rw [ro.s (by decide)]; exact h4⟩
/-- the class: a failure that isn't the close of one that is closed -/
theorem kc_leaveN (hB : Bn κ0 σ0 κ σ b V al S T sp z LT HT F0 st fr pt x) (hv : 1 ≤ v ∧ v ≤ V) (h14 : kI κ 79 14 = nI (g + 1)) (hg : g < F0) (hc : kI κ (1002 + 8 * v) 11 = 0 ∨ aI σ 89 g ≠ 14) (h5 : kI κ (1002 + 8 * v) 5 = nI r) (hr : r ≤ V) (hT : HT < 2000000000) (q0 : r = 0 → ∀ κ2, HdC (enK κ v sp 5) κ2 HT (nI v) 0 → C (cI (cI (cI (cI (cI κ2 79 13 0) 79 15 2) 84 2 (nI (g + 1))) 84 3 0) 79 14 0)) (qV : 1 ≤ r → ∀ κ2, HdC (enK κ v sp 5) κ2 HT (nI v) (nI r) → C (cI (cI κ2 79 13 (nI r)) (1002 + 8 * r) 1 2)) : KC' X 4 MX6_leaveVoice [vR 79, vR (1002 + 8 * v)] κ (kRV C) := by
  obtain ⟨s1, s2, s3, s4, s5, s6, s7, s8, s9, s10, s11, s12, s13, s14, s15⟩ := hB.2.1
  have hH : isH κ (1002 + 8 * v) 10 := isH_voice hv.1 (by omega)
  have h0 := (hB.2.2.1 v hv.1 hv.2).1
  have fl := hB.2.2.2.2.2.1
  obtain ⟨gg, p1, -⟩ := hB.hp
  have main : K X 4 MX6_leaveVoice 27 [(0, vR 79), (1, vR (1002 + 8 * v))] [] κ (kRV C) := by
    refine k_6_leaveVoice_27 _ (k_6_leaveVoice_28 _ _ ⟨fun _ => ?_, fun z => absurd rfl z⟩)
    refine k_6_leaveVoice_41z _ _ _ _ ⟨hH, 2, by omega, ?_⟩
    refine kc_end hB hv ⟨fun _ => ⟨3, by omega, ?_⟩, fun z => absurd rfl z⟩
    rw [enK_v (by decide) (by decide), h0, enK_v (by decide) (by decide), h5]
    have pe : PrC (enK κ v sp 5) 82 HT gg := p1.fr (enK_h (by omega) (by omega) (by omega)).1 (enK_h (by omega) (by omega) (by omega)).1 (enK_w (by omega) (by omega))
    refine kc_hand pe hT (fun κ2 hd2 => ?_)
    have eh : ∀ g, g ≠ 82 → g ≠ 83 → kI κ2 g = kI (enK κ v sp 5) g := fun g c1 c2 => (hd2.1.1.1 g (fun z => z.elim c1 c2)).1
    have ekv : kV κ2 = kV κ := hd2.1.1.2.2.2.trans enK_BV.2
    rw [eh _ (by omega) (by omega), enK_v (by decide) (by decide), h5]
    rintro κ13 rfl
    rw [kI_eq]
    refine ⟨0, by omega, kc_vfind (V := V) (by rw [kI_nk (by decide), eh 79 (by decide) (by decide), enK_79 (by decide) (by decide)]; exact s1.1) s8 (by show V ≤ kV κ2; rw [ekv]; exact s9) (fun n n1 n2 ee => ?_) (fun c => ?_)⟩
    · have en : r = n := by rw [eq_nI (by omega) (by omega)] at ee; exact ee
      subst en
      have hH2 : isH κ2 (1002 + 8 * r) 10 := isH_voice n1 (by rw [ekv]; omega)
      refine ⟨Or.inr hH2.1, fun z => absurd z (by omega), fun _ => ⟨hH2, ?_⟩⟩
      rintro κ29 rfl
      exact k_6_leaveVoice_109 _ _ _ ⟨rfl, qV n1 κ2 hd2⟩
    · have r0 : r = 0 := by
        rw [litI 1, lt_nI (by omega) (by omega), lt_nI (by omega) (by omega)] at c
        omega
      subst r0
      refine ⟨Or.inl rfl, fun _ => ⟨Or.inl (by decide), 1, by omega, ?_⟩, fun z => absurd rfl z⟩
      refine KC_of_K rfl (Nat.le_of_ble_eq_true rfl) rfl (k_6_comeOut_0 ?_)
      rintro κ1 rfl κ3 rfl
      rw [show nI 0 = 0 from rfl, cI_cI, kI_nk (by decide), kI_nk (by decide), eh 79 (by decide) (by decide), enK_79 (by decide) (by decide), h14]
      refine ⟨0, by omega, KC_of_K rfl (Nat.le_of_ble_eq_true rfl) rfl (k_2_comeOut_0 _ ?_)⟩
      rintro κ4 rfl κ5 rfl
      refine ⟨rfl, ?_⟩
      rintro κ8 rfl
      exact ⟨rfl, k_6_leaveVoice_109 _ _ _ ⟨rfl, q0 rfl κ2 hd2⟩⟩
  refine KC_of_K rfl (Nat.le_of_ble_eq_true rfl) rfl (k_6_leaveVoice_0 _ ⟨hH, fun _ => main, fun c0 => ⟨1, by omega, ?_⟩⟩)
  rw [h14]
  refine kc_fnumber fl hg ⟨fun c1 => absurd c1 (hc.resolve_left c0), fun _ => main⟩
/-- the class: the close of one that is closed -/
theorem kc_leaveC {eb : Nat} (hB : Bn κ0 σ0 κ σ b V al S T sp z LT HT F0 st fr pt x) (hv : 1 ≤ v ∧ v ≤ V) (h14 : kI κ 79 14 = nI (g + 1)) (hg : g < F0) (h11 : kI κ (1002 + 8 * v) 11 = 1) (h89 : aI σ 89 g = 14) (hd : 3 ≤ d) (he : eb + 1 ≤ d) (q : KC' X eb MX6_goBack [vR 79, vR (1002 + 8 * v), vI 0, vI 1] (cI (enK κ v sp 6) 79 14 0) (kRV C)) : KC' X d MX6_leaveVoice [vR 79, vR (1002 + 8 * v)] κ (kRV C) := by
  obtain ⟨s1, s2, s3, s4, s5, s6, s7, s8, s9, s10, s11, s12, s13, s14, s15⟩ := hB.2.1
  have hH : isH κ (1002 + 8 * v) 10 := isH_voice hv.1 (by omega)
  have fl := hB.2.2.2.2.2.1
  refine KC_of_K rfl (Nat.le_of_ble_eq_true rfl) rfl (k_6_leaveVoice_0 _ ⟨hH, fun c0 => ?_, fun c0 => ⟨1, by omega, ?_⟩⟩)
  · rw [h11] at c0
    exact absurd c0 (by decide)
  rw [h14]
  refine kc_fnumber fl hg ⟨fun c1 => ?_, fun c1 => absurd h89 c1⟩
  refine k_6_leaveVoice_28 _ _ ⟨fun z => absurd z (by decide), fun _ => ?_⟩
  refine k_6_leaveVoice_41z _ _ _ _ ⟨hH, 2, by omega, ?_⟩
  refine kc_end hB hv ⟨fun z => absurd z (by decide), fun _ => ?_⟩
  rintro κ30 rfl
  refine ⟨eb, he, q.mono ?_⟩
  rintro r0 κ2 ⟨rfl, hC⟩
  exact ⟨rfl, rfl, hC⟩
/-- a call's own end: from there on anything -/
theorem ac_exV {M : MI} {as : List AV} {P : Rm → Prop} (h : AC X 92 d M as σ (aRV P)) : ∃ σ', P σ' ∧ ∀ F : Rm → Prop, F σ' → AC X 92 d M as σ (aRV F) := by
  obtain ⟨r0, σ', hr, rfl, hP⟩ := h
  exact ⟨σ', hP, fun F hF => ⟨_, σ', hr, rfl, hF⟩⟩
/-- the reference -/
theorem ac_leavesN {σ2 : Rm} (hv : 1 ≤ v ∧ v ≤ 60) (h58 : aI σ 58 v = nI p) (hp : p < 12) (h48 : sI σ 48 = nI al) (hA : 1 ≤ al) (h57 : aI σ 57 v = nI z) (hz : z ≤ 1) (hg : g < 8000) (hc : z = 0 ∨ aI σ 89 g ≠ 14) (h54 : aI σ 54 v = nI r) (hr : r ≤ 60) (hh : ∀ F : Rm → Prop, F σ2 → AC X 92 0 MX13_hands [vR 92, vI (nI v), vI (nI r)] (enR σ v al 5) (aRV F)) (hd : 1 ≤ d) (q0 : r = 0 → D (wS (wS (wS σ2 77 0) 78 2) 97 (nI g))) (qV : 1 ≤ r → ∃ er, er + 1 ≤ d ∧ AC X 92 er MX13_raise [vR 92, vI (nI r), vI (nI g)] (wI (wS σ2 77 (nI r)) 49 r 2) (aRV D)) : AC X 92 d MX13_leaves [vR 92, vI (nI v), vI (nI g)] σ (aRV D) := by
  have eB := enR_B (σ := σ) (n := v) (al := al) (y := 5) h58 hp
  have main : A X 92 d MX13_leaves 24 [(0, vR 92), (1, vI (nI v)), (2, vI (nI g))] [] σ (aRV D) := by
    refine a_leaves_24 _ _ (a_leaves_25 _ _ _ ⟨fun _ => ?_, fun z => absurd rfl z⟩)
    refine a_leaves_38 _ _ _ _ _ ⟨0, hd, ac_over (by omega) hp h58 h48 hA ?_⟩
    rw [← eB]
    have e54 : aI (enR σ v al 5) 54 v = nI r := by rw [enR_k (by decide) (by decide) (by decide) (by decide)]; exact h54
    rw [vpn (by omega), cl_nI (by omega), e54]
    refine ⟨by omega, 0, hd, hh _ ?_⟩
    rintro s10 rfl
    rw [litI 0, eq_nI (by omega) (by omega)]
    refine ⟨fun c => ⟨fun _ => ?_, fun z => absurd rfl z⟩, fun c => ?_⟩
    · subst c
      refine a_leaves_77 _ _ _ _ _ ?_
      rintro s1 rfl
      refine ⟨fun _ => a_leaves_93 _ _ _ _ _ ?_, fun z => absurd rfl z⟩
      rintro s2 rfl
      exact ⟨rfl, q0 rfl⟩
    · rw [vpn (by omega), cl_nI (by omega)]
      refine ⟨by omega, ?_⟩
      rintro s14 rfl
      refine ⟨fun _ => ?_, fun z => absurd rfl z⟩
      obtain ⟨er, he, ha⟩ := qV (by omega)
      refine ⟨er, he, ha.mono ?_⟩
      rintro r0 s0 ⟨rfl, hD⟩
      exact ⟨rfl, a_leaves_116 _ _ _ _ ⟨rfl, hD⟩⟩
  refine AC_of_A rfl (Nat.le_of_ble_eq_true rfl) rfl (a_leaves_0 _ _ ?_)
  rw [vpn (by omega), cl_nI (by omega), vpn (by omega), cl_nI (by omega), h57, litI 0, eq_nI (by omega) (by omega)]
  refine ⟨by omega, fun _ => main, fun c => ⟨hg, fun c2 => absurd c2 (hc.resolve_left c), fun _ => main⟩⟩
theorem ac_leavesC {σ2 : Rm} (hv : 1 ≤ v ∧ v ≤ 60) (h58 : aI σ 58 v = nI p) (hp : p < 12) (h48 : sI σ 48 = nI al) (hA : 1 ≤ al) (h57 : aI σ 57 v = 1) (hg : g < 8000) (h89 : aI σ 89 g = 14) (h54 : aI σ 54 v = nI r) (hr : r ≤ 60) (hh : ∀ F : Rm → Prop, F σ2 → AC X 92 0 MX13_hands [vR 92, vI (nI v), vI (nI r)] (enR σ v al 6) (aRV F)) (hd : 1 ≤ d) (q0 : r = 0 → D (wS (wS σ2 77 0) 78 1)) (qV : 1 ≤ r → D (wI (wS σ2 77 (nI r)) 49 r 2)) : AC X 92 d MX13_leaves [vR 92, vI (nI v), vI (nI g)] σ (aRV D) := by
  have eB := enR_B (σ := σ) (n := v) (al := al) (y := 6) h58 hp
  refine AC_of_A rfl (Nat.le_of_ble_eq_true rfl) rfl (a_leaves_0 _ _ ?_)
  rw [vpn (by omega), cl_nI (by omega), vpn (by omega), cl_nI (by omega), h57, h89]
  refine ⟨by omega, fun c => absurd c (by decide), fun _ => ⟨hg, fun _ => ?_, fun c => absurd rfl c⟩⟩
  refine a_leaves_25 _ _ _ ⟨fun z => absurd z (by decide), fun _ => ?_⟩
  refine a_leaves_38 _ _ _ _ _ ⟨0, hd, ac_over (by omega) hp h58 h48 hA ?_⟩
  rw [← eB]
  have e54 : aI (enR σ v al 6) 54 v = nI r := by rw [enR_k (by decide) (by decide) (by decide) (by decide)]; exact h54
  rw [vpn (by omega), cl_nI (by omega), e54]
  refine ⟨by omega, 0, hd, hh _ ?_⟩
  rintro s10 rfl
  rw [litI 0, eq_nI (by omega) (by omega)]
  refine ⟨fun c => ⟨fun z => absurd z (by decide), fun _ => ?_⟩, fun c => ?_⟩
  · subst c
    refine a_leaves_77 _ _ _ _ _ ?_
    rintro s1 rfl
    refine ⟨fun z => absurd z (by decide), fun _ => a_leaves_93 _ _ _ _ _ ?_⟩
    rintro s2 rfl
    rw [show wS (wS (wS σ2 77 (nI 0)) 78 1) 97 (sI (wS (wS σ2 77 (nI 0)) 78 1) 97) = wS (wS σ2 77 (nI 0)) 78 1 from wI_sm rfl]
    exact ⟨rfl, q0 rfl⟩
  · rw [vpn (by omega), cl_nI (by omega)]
    refine ⟨by omega, ?_⟩
    rintro s14 rfl
    exact ⟨fun z => absurd z (by decide), fun _ => a_leaves_116 _ _ _ _ ⟨rfl, qV (by omega)⟩⟩
/-- a raise begins -/
theorem ac_raise (hv : 1 ≤ v ∧ v ≤ 60) (h58 : aI σ 58 v = nI p) (hd : e + 1 ≤ d) (q : RaG X e v g p σ G) : AC X 92 d MX13_raise [vR 92, vI (nI v), vI (nI g)] σ (aRV G) := by
  refine AC_of_A rfl (Nat.le_of_ble_eq_true rfl) rfl (a_raise_0 _ _ ⟨e, hd, ?_⟩)
  have hA : A X 92 e MX13_raiseIn 0 [(0, vR 92), (1, vI (nI v)), (2, vI (nI g))] [] σ (aRV G) := by
    refine a_raiseIn_0 _ _ ?_
    rw [vpn (by omega), cl_nI (by omega), h58]
    exact ⟨by omega, q⟩
  refine AC_of_A rfl (Nat.le_of_ble_eq_true rfl) rfl (hA.mono ?_)
  rintro r0 s0 ⟨rfl, hG⟩
  exact ⟨rfl, rfl, hG⟩
end LEAVES
