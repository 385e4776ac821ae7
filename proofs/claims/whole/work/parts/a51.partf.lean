/-! the end of a try's block or catch that has a finally -/
section PARTF
variable {X : Cx} {d e : Nat} {κ0 κ κ' : Km} {σ0 σ σ' : Rm} {b V al S T LT HT sp F0 z v p x n : Nat} {st : Nat → Nat} {fr : Nat → List Frm} {pt : Nat → Nat} {ch : List Nat} {w rz : Nat → Nat} {r fs : List Frm} {f f' : Frm}
variable {bd i j nv s md i' j' s' md' t h0 ph jb jf ie : Nat} {pl : Int32} {vs : Nat → Int32} {L L0 : List Ite} {O : List Int32} {y u : Int32}
theorem pg_fin {C : Km → Prop} (hk : VK κ v ((bd, i, j, pl, nv, vs, L0 ++ [(1, t, h0, ph, u)], O, s, md) :: r)) (q2 : ∀ κ', Vo v (fiK κ v) κ' → VK κ' v ((bd, i, j', pl, nv, vs, L0 ++ [(1, t, h0, 2, 0)], [], s', md') :: r) → C κ') : KC' X 2 MX6_passGuards [vR 79, vR (1002 + 8 * v), vI (nI 43), vI y] κ (kRV C) := by
  refine KC_of_K rfl (Nat.le_of_ble_eq_true rfl) rfl (k_6_passGuards_0 _ _ _ ⟨fun z => absurd z (by decide), fun _ => ⟨hk.v, ?_⟩, fun z => absurd z (by decide), fun z => absurd z (by decide), fun z => absurd z (by decide), fun z => absurd (by decide) z⟩)
  rintro κ62 rfl
  have hf : VK (fiK κ v) v ((bd, i, j, pl, nv, vs, L0 ++ [(1, t, h0, ph, u)], O, s, md) :: r) := hk.fin
  refine ⟨1, by omega, ?_⟩
  have e9 : kI (cI κ (1002 + 8 * v) 7 (kI κ (1002 + 8 * v) 7 + 1)) (1002 + 8 * v) 9 = nI i := hf.pc9
  rw [e9]
  exact vk_turn (b' := bd) (i' := i) (j' := j') (s' := s') (md' := md') (t' := t) (ph' := 2) (x' := 0) hf noG_nil (fun κ' vo vk => k_6_passGuards_130 _ _ _ ⟨rfl, q2 κ' vo vk⟩)
theorem on_partf {Q : Res → Rm → Prop} (hd : 3 ≤ d) (h77 : sI σ 77 = nI v) (hk : VR σ v p ((bd, i, j, pl, nv, vs, L0 ++ [(1, t, h0, ph, u)], O, s, md) :: r)) (hj : j + 1 < 12000) (h13 : aI σ 13 j = 29) (h14 : aI σ 14 j = nI t) (ht : t < 1000) (h27 : aI σ 27 t = nI jf) (hjf : jf < 12000) (hi : i' < 20000)
    (q : ∀ σ', Ro p (fiR σ v) σ' → VR σ' v p ((bd, i', jf, pl, nv, vs, L0 ++ [(1, t, h0, 2, 0)], [], s', md') :: r) → Q (.inl none) σ') : A X 92 d MX13_goesOn 0 [(0, vR 92)] [] σ Q := by
  have hh := hk
  obtain ⟨⟨h1, h2, h3, h4⟩, h5, h6, h7, h8⟩ := hh
  have h4 : r.length + 1 ≤ 60 := h4
  obtain ⟨va, ra⟩ := hk.act (i' := i') (j' := j + 1) (s' := s) (md' := md) hi hj
  have hbd : gcs r + gcn (L0 ++ [(1, t, h0, ph, u)]) ≤ 1440 := va.bd.1
  rw [gcn_app] at hbd
  have e58 := va.2.1
  obtain ⟨g1, -, g3, g4, -, g6, g7, g8⟩ := va.vx.gd noG_nil
  refine on_act (op := 29) (by omega) h77 hk.vx (by omega) h13 (by omega) ?_
  refine a_goesOn_124 _ _ _ _ _ _ ⟨fun z => absurd z (by decide), fun z => absurd z (by decide), fun z => absurd z (by decide), fun z => absurd z (by decide), fun z => absurd z (by decide), fun z => absurd z (by decide), fun z => absurd z (by decide), fun z => absurd z (by decide), fun z => absurd z (by decide), fun z => absurd z (by decide), fun z => absurd z (by decide), fun z => absurd z (by decide), fun z => absurd z (by decide), fun z => absurd z (by decide), fun _ => ⟨2, hd, AC_of_A rfl (Nat.le_of_ble_eq_true rfl) rfl (a_controls_0 _ _ _ _ _ ?_)⟩⟩
  rw [vpn (a := v) (by omega)]
  refine ⟨by omega, fun z => absurd z (by decide), fun z => absurd z (by decide), fun z => absurd z (by decide), fun z => absurd z (by decide), fun z => absurd z (by decide), fun z => absurd z (by decide), fun z => absurd z (by decide), fun z => absurd z (by decide), fun _ => ?_, fun z => absurd z (by decide), fun z => absurd z (by decide), fun z => absurd (by decide) z⟩
  have e27 : aI (wI σ 62 (60 * p + r.length) (nI (j + 1))) 27 t = nI jf := by rw [aI_ne (by decide)]; exact h27
  rw [cl_nI (show v < 2147483648 by omega), e58, vpn (by omega), cl_nI (by omega), g1, h14, vpn (by omega), cl_nI (by omega), e27, n0_lt (by omega), litI 1500, pk_mul, nI_add, litI 1, nI_sb (a := 1500 * p + (gcs r + gcn L0 + 1)) (by omega), show 1500 * p + (gcs r + gcn L0 + 1) - 1 = 1500 * p + (gcs r + gcn L0) by omega]
  refine ⟨h1, ht, fun z => z.elim, fun _ => ⟨1, by omega, ?_⟩⟩
  refine ac_finishes (kd := 0) (x' := 0) (t' := h0) (i' := i') (s' := s') (md' := md') (b' := bd) va.vx noG_nil ht e27 hjf hi (by omega) ⟨fun c => absurd c (by omega), fun c => absurd c (by omega)⟩ (fun σ' ro vr => ?_) rfl
  exact a_controls_449 _ _ _ _ _ _ ⟨rfl, a_goesOn_499 _ _ _ _ _ _ (q _ ((Ro.fin (v := v) ra).trans ro) vr)⟩
end PARTF
