/-! the end of a try's block or catch that has no finally -/
section PARTN
variable {X : Cx} {d e : Nat} {κ0 κ κ' : Km} {σ0 σ σ' : Rm} {b V al S T LT HT sp F0 z v p x n : Nat} {st : Nat → Nat} {fr : Nat → List Frm} {pt : Nat → Nat} {ch : List Nat} {w rz : Nat → Nat} {r fs : List Frm} {f f' : Frm}
variable {bd i j nv s md i' j' s' md' t h0 ph jb ie : Nat} {pl : Int32} {vs : Nat → Int32} {L L0 : List Ite} {O : List Int32} {y u : Int32}
/-- an act of the class on guards, out of what holds of all voices -/
theorem RelM.pgact {a : Nat} {C : Km → Prop} (a1 : RelM κ0 σ0 κ σ b V al S v sp 0 LT HT F0 st fr pt ch) (b5 : kI κ 79 14 = 0) (hv : 1 ≤ v ∧ v ≤ V) (vk : VK κ v ((bd, i, j, pl, nv, vs, L, O, s, md) :: r)) (hi : nI i < kI κ0 68 2) (hi2 : i < 20000) (hx : x < 200000000) (hd : 1 ≤ d) (ha : 40 ≤ a ∧ a < 100) (e69 : kI κ0 69 i = nI a) (wc : ∀ κ1, Vo v κ κ1 → VK κ1 v ((bd, i + 1, j, pl, nv, vs, L, O, s, md) :: r) → ∃ ew, ew + 1 ≤ d ∧ KC' X ew MX6_passGuards [vR 79, vR (1002 + 8 * v), vI (nI a), vI (kI κ0 70 i)] κ1 (kRV C)) :
    ∀ Q : Res → Km → Prop, (∀ κ', C κ' → K X d MX6_run 2 [(0, vR 79), (1, vI (nI (x + 1)))] [] κ' Q) → K X d MX6_run 2 [(0, vR 79), (1, vI (nI x))] [] κ Q := by
  intro Q hQ
  obtain ⟨⟨⟨k1, k2, k3⟩, sta, rg⟩, ⟨s1, s2, s3, s4, s5, s6, s7, s8, s9, s10, s11, s12, s13, s14, s15⟩, -⟩ := a1
  have e68 := k1 68 (Or.inr (Or.inl (by omega)))
  have e69' := k1 69 (Or.inr (Or.inl (by omega)))
  have e70 := k1 70 (Or.inr (Or.inl (by omega)))
  obtain ⟨t1, ⟨m, m1, m2, m3, m4⟩, t3⟩ := sta
  rw [m1, lt_nI (by omega) (by omega)] at hi
  refine run_act (m := m) (V := V) (v := v) hd hx s1.1 s8 s9 s4.1 hv s7.1 b5 vk.pc9 ⟨by rw [e68.1]; exact m1, by omega, by rw [e69'.2.2]; exact m3, by rw [e70.2.2]; exact m4⟩ hi ?_
  rw [e69'.1, e70.1, e69, litI 20, litI 40, lt_nI (by omega) (by omega), lt_nI (by omega) (by omega)]
  obtain ⟨ew, he, hc⟩ := wc _ (Vo.reg (by decide)) vk.pc
  refine ⟨fun z => absurd z (by omega), fun _ z => absurd z (by omega), fun _ => ⟨ew, he, hc.mono ?_⟩⟩
  rintro r' κ' ⟨rfl, q⟩
  exact ⟨rfl, hQ κ' q⟩
theorem pg_no {C : Km → Prop} (hk : VK κ v ((bd, i, j, pl, nv, vs, L0 ++ [(1, t, h0, ph, u)], O, s, md) :: r)) (q2 : ∀ κ', Vo v κ κ' → VK κ' v ((bd, i, j', pl, nv, vs, L0, [], s', md') :: r) → C κ') : KC' X 2 MX6_passGuards [vR 79, vR (1002 + 8 * v), vI (nI 44), vI y] κ (kRV C) := by
  refine KC_of_K rfl (Nat.le_of_ble_eq_true rfl) rfl (k_6_passGuards_0 _ _ _ ⟨fun z => absurd z (by decide), fun z => absurd z (by decide), fun _ => ⟨hk.v, 1, by omega, ?_⟩, fun z => absurd z (by decide), fun z => absurd z (by decide), fun z => absurd (by decide) z⟩)
  exact vk_close (b' := bd) (j' := j') (s' := s') (md' := md') hk noG_nil (fun κ' vo vk => k_6_passGuards_130 _ _ _ ⟨rfl, q2 κ' vo vk⟩)
theorem on_partn {Q : Res → Rm → Prop} (hd : 2 ≤ d) (h77 : sI σ 77 = nI v) (hk : VR σ v p ((bd, i, j, pl, nv, vs, L0 ++ [(1, t, h0, ph, u)], O, s, md) :: r)) (hj : j + 1 < 12000) (h13 : aI σ 13 j = 29) (h14 : aI σ 14 j = nI t) (ht : t < 1000) (h27 : aI σ 27 t = -9) (h28 : aI σ 28 t = nI jb) (hjb : jb < 12000) (hi : i' < 20000)
    (q : ∀ σ', Ro p σ σ' → VR σ' v p ((bd, i', jb, pl, nv, vs, L0, O, s', md') :: r) → Q (.inl none) σ') : A X 92 d MX13_goesOn 0 [(0, vR 92)] [] σ Q := by
  have hh := hk
  obtain ⟨⟨h1, h2, h3, h4⟩, h5, h6, h7, h8⟩ := hh
  have h4 : r.length + 1 ≤ 60 := h4
  obtain ⟨va, ra⟩ := hk.act (i' := i') (j' := j + 1) (s' := s) (md' := md) hi hj
  have hbd : gcs r + gcn (L0 ++ [(1, t, h0, ph, u)]) ≤ 1440 := va.bd.1
  rw [gcn_app] at hbd
  have e58 := va.2.1
  obtain ⟨g1, -, g3, g4, -, g6, g7, g8⟩ := va.vx.gd noG_nil
  refine on_act (op := 29) (by omega) h77 hk.vx (by omega) h13 (by omega) ?_
  refine a_goesOn_124 _ _ _ _ _ _ ⟨fun z => absurd z (by decide), fun z => absurd z (by decide), fun z => absurd z (by decide), fun z => absurd z (by decide), fun z => absurd z (by decide), fun z => absurd z (by decide), fun z => absurd z (by decide), fun z => absurd z (by decide), fun z => absurd z (by decide), fun z => absurd z (by decide), fun z => absurd z (by decide), fun z => absurd z (by decide), fun z => absurd z (by decide), fun z => absurd z (by decide), fun _ => ⟨1, hd, AC_of_A rfl (Nat.le_of_ble_eq_true rfl) rfl (a_controls_0 _ _ _ _ _ ?_)⟩⟩
  rw [vpn (a := v) (by omega)]
  refine ⟨by omega, fun z => absurd z (by decide), fun z => absurd z (by decide), fun z => absurd z (by decide), fun z => absurd z (by decide), fun z => absurd z (by decide), fun z => absurd z (by decide), fun z => absurd z (by decide), fun z => absurd z (by decide), fun _ => ?_, fun z => absurd z (by decide), fun z => absurd z (by decide), fun z => absurd (by decide) z⟩
  have e27 : aI (wI σ 62 (60 * p + r.length) (nI (j + 1))) 27 t = -9 := by rw [aI_ne (by decide)]; exact h27
  rw [cl_nI (show v < 2147483648 by omega), e58, vpn (by omega), cl_nI (by omega), g1, h14, vpn (by omega), cl_nI (by omega), e27, litI 1, nI_sb (by omega), show gcs r + gcn L0 + 1 - 1 = gcs r + gcn L0 by omega]
  refine ⟨h1, ht, fun _ => ⟨h1, h1, ?_⟩, fun z => absurd (by decide) z⟩
  rintro s76 rfl
  rw [vpn (by omega), cl_nI (by omega)]
  refine ⟨ht, by omega, ?_⟩
  rintro s79 rfl
  obtain ⟨vd, rd⟩ := va.drop (i' := i') (s' := s) (md' := md) hi
  have e28 : aI (wI (wI σ 62 (60 * p + r.length) (nI (j + 1))) 68 p (nI (gcs r + gcn L0))) 28 t = nI jb := by rw [aI_ne (by decide), aI_ne (by decide)]; exact h28
  obtain ⟨v4, r4⟩ := vd.act (i' := i') (j' := jb) (s' := s') (md' := md') hi hjb
  rw [e28]
  exact a_controls_449 _ _ _ _ _ _ ⟨rfl, a_goesOn_499 _ _ _ _ _ _ (q _ ((ra.trans rd).trans r4) v4)⟩
end PARTN
