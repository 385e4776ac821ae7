/-! END_FINALLY -/
section ENDF
variable {X : Cx} {d e : Nat} {κ0 κ κ' : Km} {σ0 σ σ' : Rm} {b V al S T LT HT sp F0 z v p x n : Nat} {st : Nat → Nat} {fr : Nat → List Frm} {pt : Nat → Nat} {ch : List Nat} {w rz : Nat → Nat} {r fs : List Frm} {f f' : Frm}
variable {bd i j nv s md i' j' s' md' t h0 ph jb : Nat} {pl : Int32} {vs : Nat → Int32} {L L0 : List Ite} {O : List Int32} {y u : Int32}
theorem noG_nil : noG [] := fun _ h => absurd h List.not_mem_nil
theorem VR.drop (h : VR σ n p ((bd, i, j, pl, nv, vs, L0 ++ [(1, t, h0, ph, u)], O, s, md) :: r)) (hi : i' < 20000) : VR (wI σ 68 p (nI (gcs r + gcn L0))) n p ((bd, i', j, pl, nv, vs, L0, O, s', md') :: r) ∧ Ro p σ (wI σ 68 p (nI (gcs r + gcn L0))) :=
  ⟨(h.vx.drop noG_nil hi).1.vr (by rw [aI_ne (by decide)]; exact h.2.2.1.2.2), (h.vx.drop (s' := s') (md' := md') noG_nil hi).2⟩
theorem kc_endFinally {C : Km → Prop} (hk : VK κ v ((bd, i, j, pl, nv, vs, L0 ++ [(1, t, h0, ph, u)], O, s, md) :: r)) (hph : 2 ≤ ph ∧ ph ≤ 4) (hd : 2 ≤ d) (q2 : ph = 2 → ∀ κ', Vo v κ κ' → VK κ' v ((bd, i, j', pl, nv, vs, L0, [], s', md') :: r) → C κ') (q3 : ph = 3 → ∀ κ', Vo v κ κ' → VK κ' v ((bd, i, j', pl, nv, vs, L0, [], s', md') :: r) → C (cI κ' 79 14 u))
    (q4 : ph = 4 → ∀ κ', Vo v κ κ' → VK κ' v ((bd, i, j', pl, nv, vs, L0, [], s', md') :: r) → ∃ eg, eg + 1 ≤ d ∧ KC' X eg MX6_giveBack [vR 79, vR (1002 + 8 * v), vI u] κ' (kRV C)) : KC' X d MX6_endFinally [vR 79, vR (1002 + 8 * v)] κ (kRV C) := by
  refine KC_of_K rfl (Nat.le_of_ble_eq_true rfl) rfl (k_6_endFinally_0 _ ⟨hk.v, 1, by omega, ?_⟩)
  refine vk_phase hk noG_nil ⟨1, by omega, ?_⟩
  refine vk_kept hk noG_nil ⟨1, by omega, ?_⟩
  refine vk_close (b' := bd) (j' := j') (s' := s') (md' := md') hk noG_nil (fun κ' vo vk => ?_)
  rw [litI 3, litI 4, eq_nI (by omega) (by omega), eq_nI (by omega) (by omega)]
  refine ⟨fun c => ?_, fun c => ⟨fun c2 => ?_, fun c2 => ?_⟩⟩
  · rintro κ20 rfl
    exact k_6_endFinally_38 _ _ _ ⟨rfl, q3 c κ' vo vk⟩
  · obtain ⟨eg, he, hc⟩ := q4 c2 κ' vo vk
    refine ⟨eg, he, hc.mono ?_⟩
    rintro r' κ2 ⟨rfl, q⟩
    exact ⟨rfl, k_6_endFinally_38 _ _ _ ⟨rfl, q⟩⟩
  · exact k_6_endFinally_38 _ _ _ ⟨rfl, q2 (by omega) κ' vo vk⟩
theorem on_end {Q : Res → Rm → Prop} (hd : 1 ≤ d) (h77 : sI σ 77 = nI v) (hk : VR σ v p ((bd, i, j, pl, nv, vs, L0 ++ [(1, t, h0, ph, u)], O, s, md) :: r)) (hph : 2 ≤ ph ∧ ph ≤ 4) (hj : j + 1 < 12000) (h13 : aI σ 13 j = 30) (h14 : aI σ 14 j = nI t) (ht : t < 1000) (h28 : aI σ 28 t = nI jb) (hjb : jb < 12000) (hi : i' < 20000)
    (q2 : ph = 2 → ∀ σ', Ro p σ σ' → VR σ' v p ((bd, i', jb, pl, nv, vs, L0, O, s', md') :: r) → Q (.inl none) σ')
    (q3 : ph = 3 → ∀ σ', Ro p σ σ' → VR σ' v p ((bd, i', jb, pl, nv, vs, L0, O, s', md') :: r) → ∃ er, er + 1 ≤ d ∧ AC X 92 er MX13_raise [vR 92, vI (nI v), vI (u - 1)] σ' (aRV fun s => Q (.inl none) s))
    (q4 : ph = 4 → ∀ σ', Ro p σ σ' → VR σ' v p ((bd, i', jb, pl, nv, vs, L0, O, s', md') :: r) → ∃ er, er + 1 ≤ d ∧ AC X 92 er MX13_gives [vR 92, vI (nI v), vI u] σ' (aRV fun s => Q (.inl none) s)) : A X 92 (d + 1) MX13_goesOn 0 [(0, vR 92)] [] σ Q := by
  have hh := hk
  obtain ⟨⟨h1, h2, h3, h4⟩, h5, h6, h7, h8⟩ := hh
  have h4 : r.length + 1 ≤ 60 := h4
  obtain ⟨va, ra⟩ := hk.act (i' := i') (j' := j + 1) (s' := s) (md' := md) hi hj
  have hbd : gcs r + gcn (L0 ++ [(1, t, h0, ph, u)]) ≤ 1440 := va.bd.1
  rw [gcn_app] at hbd
  have e58 := va.2.1
  obtain ⟨g1, -, g3, g4, -, g6, g7, g8⟩ := va.vx.gd noG_nil
  refine on_act (op := 30) (by omega) h77 hk.vx (by omega) h13 (by omega) ?_
  refine a_goesOn_124 _ _ _ _ _ _ ⟨fun z => absurd z (by decide), fun z => absurd z (by decide), fun z => absurd z (by decide), fun z => absurd z (by decide), fun z => absurd z (by decide), fun z => absurd z (by decide), fun z => absurd z (by decide), fun z => absurd z (by decide), fun z => absurd z (by decide), fun z => absurd z (by decide), fun z => absurd z (by decide), fun z => absurd z (by decide), fun z => absurd z (by decide), fun z => absurd z (by decide), fun _ => ⟨d, Nat.le_refl _, AC_of_A rfl (Nat.le_of_ble_eq_true rfl) rfl (a_controls_0 _ _ _ _ _ ?_)⟩⟩
  rw [vpn (a := v) (by omega)]
  refine ⟨by omega, fun z => absurd z (by decide), fun z => absurd z (by decide), fun z => absurd z (by decide), fun z => absurd z (by decide), fun z => absurd z (by decide), fun z => absurd z (by decide), fun z => absurd z (by decide), fun z => absurd z (by decide), fun z => absurd z (by decide), fun _ => ?_, fun z => absurd z (by decide), fun z => absurd (by decide) z⟩
  rw [cl_nI (show v < 2147483648 by omega), e58, vpn (by omega), cl_nI (by omega), g1, litI 1500, pk_mul, nI_add, litI 1, nI_sb (by omega), show 1500 * p + (gcs r + gcn L0 + 1) - 1 = 1500 * p + (gcs r + gcn L0) by omega, vpn (by omega), cl_nI (by omega), nI_sb (by omega), show gcs r + gcn L0 + 1 - 1 = gcs r + gcn L0 by omega, h14]
  refine ⟨h1, by omega, by omega, h1, h1, ?_⟩
  rintro s89 rfl
  rw [vpn (by omega), vpn (by omega), cl_nI (by omega), cl_nI (by omega)]
  refine ⟨ht, by omega, ?_⟩
  rintro s92 rfl
  obtain ⟨vd, rd⟩ := va.drop (i' := i') (s' := s) (md' := md) hi
  have e28 : aI (wI (wI σ 62 (60 * p + r.length) (nI (j + 1))) 68 p (nI (gcs r + gcn L0))) 28 t = nI jb := by rw [aI_ne (by decide), aI_ne (by decide)]; exact h28
  obtain ⟨v4, r4⟩ := vd.act (i' := i') (j' := jb) (s' := s') (md' := md') hi hjb
  rw [e28]
  have rr := (ra.trans rd).trans r4
  have cs : ph = 2 ∨ ph = 3 ∨ ph = 4 := by omega
  rcases cs with c | c | c
  · rw [g6 c]
    exact ⟨fun z => absurd z (by decide), fun _ => ⟨fun z => absurd z (by decide), fun _ => a_controls_449 _ _ _ _ _ _ ⟨rfl, a_goesOn_499 _ _ _ _ _ _ (q2 c _ rr v4)⟩⟩⟩
  · rw [(g7 c).1, (g7 c).2]
    refine ⟨fun _ => ?_, fun z => absurd rfl z⟩
    obtain ⟨er, he, hc⟩ := q3 c _ rr v4
    refine ⟨er, he, hc.mono ?_⟩
    rintro r0 s0 ⟨rfl, q⟩
    exact ⟨rfl, a_controls_449 _ _ _ _ _ _ ⟨rfl, a_goesOn_499 _ _ _ _ _ _ q⟩⟩
  · rw [(g8 c).1, (g8 c).2]
    refine ⟨fun z => absurd z (by decide), fun _ => ⟨fun _ => ?_, fun z => absurd rfl z⟩⟩
    obtain ⟨er, he, hc⟩ := q4 c _ rr v4
    refine ⟨er, he, hc.mono ?_⟩
    rintro r0 s0 ⟨rfl, q⟩
    exact ⟨rfl, a_controls_449 _ _ _ _ _ _ ⟨rfl, a_goesOn_499 _ _ _ _ _ _ q⟩⟩
end ENDF
