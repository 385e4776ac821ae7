/-! CALL -/
section CALLS
variable {X : Cx} {d e er : Nat} {κ0 κ κa κb κ1 κ' : Km} {σ0 σ σa σ1 σ' : Rm} {b V al S T sp z LT HT F0 v p n x q g k op : Nat} {st : Nat → Nat} {fr fr' : Nat → List Frm} {pt : Nat → Nat} {fs r rr : List Frm} {ch cr : List Nat} {w : Nat → Nat} {f f' : Frm} {y u val vo ca : Int32} {C : Km → Prop} {D P : Rm → Prop} {G : Rm → Prop}
variable {bd i j nv s md i' j' s' md' t h0 ph c jb a0 j2 nw : Nat} {pl pl' : Int32} {vs vs' : Nat → Int32} {L L0 : List Ite} {O Ar O' : List Int32}
/-- one voice's calls are others (any number of them), with its counts -/
theorem Rn.locA (h : Rn κ0 σ0 κ σ b V al S LT HT sp F0 st fr pt ch w v f r) (ko : Vo v κ κ') (ro : Ro (pt v) σ σ') (vk : VK κ' v (f' :: rr)) (vr : VR σ' v (pt v) (f' :: rr)) (fo : frM f' = 0 ∧ FrO κ0 σ0 F0 b f' ∧ ∀ h, h ∈ rr → frM h = 1 ∧ FrO κ0 σ0 F0 b h) (hac : Acc V S F0 LT HT st (un fr v (f' :: rr))) (hk : ∀ g, g < F0 → kps g (f' :: rr) ≤ kps g (f :: r)) (h1 : ∀ f0 it, f0 ∈ f' :: rr → it ∈ frL f0 → it.1 ≠ 0 → it.2.2.2.1 = 1 → ∃ f2, f2 ∈ f :: r ∧ it ∈ frL f2) :
    Rn κ0 σ0 κ' σ' b V al S LT HT sp F0 st (un fr v (f' :: rr)) pt ch w v f' rr := by
  obtain ⟨a, c, m⟩ := h.bn (x := 0)
  obtain ⟨-, ⟨b1, b2, b3, b4, b5⟩, ⟨c1, c2, c3⟩, -, -, col⟩ := h
  refine Rn.of (a.loc ⟨b1, b2⟩ (Or.inl rfl) ko ro vk (Or.inl vr) c3 (by rw [b4]; exact List.cons_ne_nil _ _) (List.cons_ne_nil _ _)) (c.cg (ro.s (by decide)) (ro.s (by decide)) (ro.s (by decide))) (fun n n1 n2 hn => ?_) ⟨b1, b2, b3, un_eq, by rw [(ko.h (h := 79) (by omega) (by omega)).1]; exact b5⟩ fo hac ?_
  · rw [un_ne hn]
    exact (m n n1 n2 hn).cg (congrFun (ro.s (by decide)) n) (Nat.le_refl _)
  · refine col.sub (ko.h (h := 84) (by omega) (by omega)).1 (fun h h1 h2 => ⟨(ko.h (h := h) (by omega) (by omega)).1, (ko.h (h := h) (by omega) (by omega)).2.2⟩) (fun k k1 k2 => ro.s (by omega)) (fun y hy => ?_) (fun n f0 it n1 n2 hf hi i1 i2 => ?_)
    · have e := kps_un (g := y) (fr := fr) (fs := f' :: rr) (V := V) (v := v) ⟨b1, b2⟩
      rw [b4] at e
      have := hk y hy
      omega
    · by_cases cw : n = v
      · rw [cw, un_eq] at hf
        obtain ⟨f2, g1, g2⟩ := h1 f0 it hf hi i1 i2
        exact ⟨v, f2, b1, b2, by rw [b4]; exact g1, g2⟩
      · rw [un_ne cw] at hf
        exact ⟨n, f0, n1, n2, hf, hi⟩
/-- the class: CALL, to where the step is taken -/
theorem pp_callS (hk : VK κ v ((bd, i, j, pl, nv, vs, L, O, s, md) :: r)) (h12 : kI κ 79 12 = nI S) (hS : S < 6000) (h67 : kI κ 67 2 = nI b) (hb : b ≤ 12) (hc : c < b) (hB : b ≤ kB κ) (hr : r.length < 900)
    (q1 : r.length + 1 < 60 → KC' X 4 MX10_enter [vR (1002 + 8 * v), vR (1000 + 8 * c)] (stK κ v S) (kRV C)) (q0 : 60 ≤ r.length + 1 → KC' X 4 MX6_raise [vR 79, vR (1002 + 8 * v), vI 12] (stK κ v S) (kRV C)) : KC' X 6 MX6_playPart [vR 79, vR (1002 + 8 * v), vI (nI 24), vI (nI c)] κ (kRV C) := by
  have vks := VK.stp (S := S) hk
  have hH : isH κ (1000 + 8 * c) 0 := isH_body (by omega)
  refine KC_of_K rfl (Nat.le_of_ble_eq_true rfl) rfl (k_6_playPart_0 _ _ _ ⟨fun z => absurd z (by decide), fun z => absurd z (by decide), fun z => absurd z (by decide), fun z => absurd z (by decide), fun _ => ⟨hk.v, 5, by omega, KC_of_K rfl (Nat.le_of_ble_eq_true rfl) rfl (k_6_callBy_0 _ _ ⟨hk.v, 0, by omega, kc_sat h67 hb hc hB ⟨Or.inr hH.1, fun z => absurd z (by omega), fun _ => ⟨hH, 0, by omega, kc_step hk.v h12 (by omega) (fun _ => ⟨fun z => absurd z (by decide), fun _ => ?_⟩) (fun z => absurd z (by omega))⟩⟩⟩)⟩, fun z => absurd z (by decide), fun z => absurd z (by decide), fun z => absurd z (by decide), fun z => absurd z (by decide), fun z => absurd z (by decide), fun z => absurd (by decide) z⟩)
  obtain ⟨c0, o, h1, h2, h3⟩ := id vks
  refine ⟨0, by omega, kc_vcanCall h3 (by show r.length + 1 < 1000; omega) (fun z => ⟨fun z2 => absurd z2 (by decide), fun _ => ⟨4, by omega, (q1 z).mono ?_⟩⟩) (fun z => ⟨fun _ => ⟨4, by omega, (q0 z).mono ?_⟩, fun z2 => absurd rfl z2⟩)⟩
  · rintro r0 κ2 ⟨rfl, hC⟩
    exact ⟨rfl, k_6_callBy_44 _ _ _ ⟨rfl, k_6_playPart_213 _ _ _ ⟨rfl, hC⟩⟩⟩
  · rintro r0 κ2 ⟨rfl, hC⟩
    exact ⟨rfl, k_6_callBy_44 _ _ _ ⟨rfl, k_6_playPart_213 _ _ _ ⟨rfl, hC⟩⟩⟩
theorem ac_calls0 (hk : VR σ v p ((bd, i, j, pl, nv, vs, L, O, s, md) :: r)) (hr : r.length + 1 = 60) (h : AC X 92 e MX13_arises [vR 92, vI (nI v), vI (nI 12)] σ (aRV P)) : AC X 92 (e + 1) MX13_calls [vR 92, vI (nI v), vI (nI c), vI (nI k)] σ (aRV P) := by
  obtain ⟨⟨h1, h2, h3, h4⟩, h5, h6, h7, h8⟩ := hk
  refine AC_of_A rfl (Nat.le_of_ble_eq_true rfl) rfl (a_calls_0 _ _ _ ?_)
  rw [vpn (by omega), cl_nI (by omega), h5, vpn (by omega), cl_nI (by omega), h6.1, show ((bd, i, j, pl, nv, vs, L, O, s, md) :: r).length = r.length + 1 from rfl, litI 60, eq_nI (by omega) (by omega)]
  refine ⟨by omega, h1, fun _ => ⟨e, Nat.le_refl _, h.mono ?_⟩, fun z => absurd hr z⟩
  rintro r0 s0 ⟨rfl, hp⟩
  exact ⟨rfl, a_calls_33 _ _ _ ⟨rfl, hp⟩⟩
theorem ac_calls1 (hk : VR σ v p ((bd, i, j, pl, nv, vs, L, O, s, md) :: r)) (hr : r.length + 1 < 60) (h : AC X 92 e MX13_enter [vR 92, vI (nI v), vI (nI c), vI (nI k)] σ (aRV P)) : AC X 92 (e + 1) MX13_calls [vR 92, vI (nI v), vI (nI c), vI (nI k)] σ (aRV P) := by
  obtain ⟨⟨h1, h2, h3, h4⟩, h5, h6, h7, h8⟩ := hk
  refine AC_of_A rfl (Nat.le_of_ble_eq_true rfl) rfl (a_calls_0 _ _ _ ?_)
  rw [vpn (by omega), cl_nI (by omega), h5, vpn (by omega), cl_nI (by omega), h6.1, show ((bd, i, j, pl, nv, vs, L, O, s, md) :: r).length = r.length + 1 from rfl, litI 60, eq_nI (by omega) (by omega)]
  refine ⟨by omega, h1, fun z => absurd z (by omega), fun _ => ⟨e, Nat.le_refl _, h.mono ?_⟩⟩
  rintro r0 s0 ⟨rfl, hp⟩
  exact ⟨rfl, a_calls_33 _ _ _ ⟨rfl, hp⟩⟩
/-- the reference: CALL, to where the step is taken -/
theorem on_callS (hd : 2 ≤ d) (h77 : sI σ 77 = nI v) (h75 : sI σ 75 = nI S) (hS : S < 6000) (hk : VR σ v p ((bd, i, j, pl, nv, vs, L, O, s, md) :: r)) (hj : j + 1 < 12000) (h13 : aI σ 13 j = 20) (h14 : aI σ 14 j = nI c) (h15 : aI σ 15 j = nI k) (hi : i' < 20000)
    (q1 : r.length + 1 < 60 → ∀ σ2, σ2 = stR (wI σ 62 (60 * p + r.length) (nI (j + 1))) v S → Ro p (stR σ v S) σ2 → VR σ2 v p ((bd, i', j + 1, pl, nv, vs, L, O, s', md') :: r) → ∃ e1, e1 + 1 + 1 ≤ d ∧ AC X 92 e1 MX13_enter [vR 92, vI (nI v), vI (nI c), vI (nI k)] σ2 (aRV P))
    (q0 : r.length + 1 = 60 → ∀ σ2, σ2 = stR (wI σ 62 (60 * p + r.length) (nI (j + 1))) v S → Ro p (stR σ v S) σ2 → VR σ2 v p ((bd, i', j + 1, pl, nv, vs, L, O, s', md') :: r) → ∃ e1, e1 + 1 + 1 ≤ d ∧ AC X 92 e1 MX13_arises [vR 92, vI (nI v), vI (nI 12)] σ2 (aRV P)) : A X 92 d MX13_goesOn 0 [(0, vR 92)] [] σ (aRV P) := by
  have hh := hk
  obtain ⟨⟨h1, h2, h3, h4⟩, h5, h6, h7, h8⟩ := hh
  have h4 : r.length + 1 ≤ 60 := h4
  obtain ⟨va, ra⟩ := hk.act (i' := i') (j' := j + 1) (s' := s') (md' := md') hi hj
  have vs2 : VR (stR (wI σ 62 (60 * p + r.length) (nI (j + 1))) v S) v p ((bd, i', j + 1, pl, nv, vs, L, O, s', md') :: r) := va.cg (fun k h1 h2 _ => stR_k (by omega) (by omega))
  have ro2 : Ro p (stR σ v S) (stR (wI σ 62 (60 * p + r.length) (nI (j + 1))) v S) := Ro.stp ra
  refine on_act (op := 20) (by omega) h77 hk.vx (by omega) h13 (by omega) ?_
  rw [h14, h15]
  have fin : ∀ (r0 : Res) (s0 : Rm), aRV P r0 s0 → r0 = .inl none ∧ P s0 := fun r0 s0 h => h
  refine a_goesOn_124 _ _ _ _ _ _ ⟨fun z => absurd z (by decide), fun z => absurd z (by decide), fun z => absurd z (by decide), fun z => absurd z (by decide), fun z => absurd z (by decide), fun z => absurd z (by decide), fun z => absurd z (by decide), fun z => absurd z (by decide), fun z => absurd z (by decide), fun z => absurd z (by decide), fun z => absurd z (by decide), fun z => absurd z (by decide), fun z => absurd z (by decide), fun _ => ⟨1, by omega, ?_⟩, fun z => absurd (by decide) z⟩
  refine ac_step (by omega) (by rw [show sI (wI σ 62 (60 * p + r.length) (nI (j + 1))) 75 = sI σ 75 from congrFun (ra.s (by decide)) 0]; exact h75) hS ⟨fun z => absurd z (by decide), fun _ => ?_⟩
  by_cases c60 : r.length + 1 = 60
  · obtain ⟨e1, he1, hA⟩ := q0 c60 _ rfl ro2 vs2
    refine ⟨e1 + 1, by omega, ac_calls0 vs2 c60 (hA.mono ?_)⟩
    rintro r0 s0 ⟨rfl, hp⟩
    exact ⟨rfl, a_goesOn_499 _ _ _ _ _ _ ⟨rfl, hp⟩⟩
  · obtain ⟨e1, he1, hA⟩ := q1 (by omega) _ rfl ro2 vs2
    refine ⟨e1 + 1, by omega, ac_calls1 vs2 (by omega) (hA.mono ?_)⟩
    rintro r0 s0 ⟨rfl, hp⟩
    exact ⟨rfl, a_goesOn_499 _ _ _ _ _ _ ⟨rfl, hp⟩⟩
end CALLS
