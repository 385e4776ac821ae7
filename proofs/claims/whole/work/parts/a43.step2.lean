/-! a statement begins -/
section STEP2
variable {X : Cx} {d e : Nat} {κ0 κ κ' : Km} {σ0 σ σ' : Rm} {b V al S T LT HT sp F0 z v p x n : Nat} {st : Nat → Nat} {fr : Nat → List Frm} {pt : Nat → Nat} {ch : List Nat} {w rz : Nat → Nat} {r fs : List Frm} {f f' : Frm}
variable {bd i j nv s md i' j' s' md' : Nat} {pl : Int32} {vs : Nat → Int32} {L : List Ite} {O : List Int32} {y : Int32}
theorem VK.stp (h : VK κ v fs) : VK (stK κ v S) v fs := (h.oth (by omega) (by omega)).reg (by decide)
theorem VR.place (h : VR σ n p ((bd, i, j, pl, nv, vs, L, O, s, md) :: r)) (hi : i' < 20000) : VR (wI σ 63 (60 * p + r.length) y) n p ((bd, i', j, y, nv, vs, L, O, s', md') :: r) ∧ Ro p σ (wI σ 63 (60 * p + r.length) y) :=
  ⟨(h.vx.place hi).1.vr (by rw [aI_ne (by decide)]; exact h.2.2.1.2.2), (h.vx.place (s' := s') (md' := md') hi).2⟩
theorem pp_step {C : Km → Prop} (hk : VK κ v ((bd, i, j, pl, nv, vs, L, O, s, md) :: r)) (h12 : kI κ 79 12 = nI S) (hS : S < 6000) (q : ∀ κ', Vo v (stK κ v S) κ' → VK κ' v ((bd, i, j', y, nv, vs, L, O, s', md') :: r) → C κ') : KC' X 4 MX6_playPart [vR 79, vR (1002 + 8 * v), vI (nI 20), vI y] κ (kRV C) := by
  refine KC_of_K rfl (Nat.le_of_ble_eq_true rfl) rfl (k_6_playPart_0 _ _ _ ⟨fun _ => ⟨hk.v, 0, by omega, ?_⟩, fun z => absurd z (by decide), fun z => absurd z (by decide), fun z => absurd z (by decide), fun z => absurd z (by decide), fun z => absurd z (by decide), fun z => absurd z (by decide), fun z => absurd z (by decide), fun z => absurd z (by decide), fun z => absurd z (by decide), fun z => absurd (by decide) z⟩)
  refine kc_step hk.v h12 (by omega) (fun _ => ⟨fun z => absurd z (by decide), fun _ => ⟨1, by omega, ?_⟩⟩) (fun z => absurd z (by omega))
  exact vk_setPlace (b' := bd) (j' := j') (s' := s') (md' := md') (VK.stp (S := S) hk) (fun κ' vo vk => k_6_playPart_213 _ _ _ ⟨rfl, q κ' vo vk⟩)
theorem on_step {Q : Res → Rm → Prop} (hd : 2 ≤ d) (h77 : sI σ 77 = nI v) (h75 : sI σ 75 = nI S) (hS : S < 6000) (hk : VR σ v p ((bd, i, j, pl, nv, vs, L, O, s, md) :: r)) (hj : j + 1 < 12000) (h13 : aI σ 13 j = 0) (h14 : aI σ 14 j = y) (hi : i' < 20000) (q : ∀ σ', Ro p (stR σ v S) σ' → VR σ' v p ((bd, i', j + 1, y, nv, vs, L, O, s', md') :: r) → Q (.inl none) σ') : A X 92 d MX13_goesOn 0 [(0, vR 92)] [] σ Q := by
  have hh := hk
  obtain ⟨⟨h1, h2, h3, h4⟩, h5, h6, h7, h8⟩ := hh
  have h4 : r.length + 1 ≤ 60 := h4
  obtain ⟨va, ra⟩ := hk.act (i' := i') (j' := j + 1) (s' := s) (md' := md) hi hj
  refine on_act (op := 0) (by omega) h77 hk.vx (by omega) h13 (by omega) ?_
  refine a_goesOn_124 _ _ _ _ _ _ ⟨fun _ => ⟨1, by omega, ?_⟩, fun z => absurd z (by decide), fun z => absurd z (by decide), fun z => absurd z (by decide), fun z => absurd z (by decide), fun z => absurd z (by decide), fun z => absurd z (by decide), fun z => absurd z (by decide), fun z => absurd z (by decide), fun z => absurd z (by decide), fun z => absurd z (by decide), fun z => absurd z (by decide), fun z => absurd z (by decide), fun z => absurd z (by decide), fun z => absurd (by decide) z⟩
  rw [h14]
  refine ac_step (by omega) (by rw [show sI (wI σ 62 (60 * p + r.length) (nI (j + 1))) 75 = sI σ 75 from congrFun (ra.s (by decide)) 0]; exact h75) hS ⟨fun z => absurd z (by decide), fun _ => ?_⟩
  rw [vpn (by omega), cl_nI (by omega)]
  refine ⟨by omega, ?_⟩
  rintro s18 rfl
  have vs2 : VR (stR (wI σ 62 (60 * p + r.length) (nI (j + 1))) v S) v p ((bd, i', j + 1, pl, nv, vs, L, O, s, md) :: r) := va.cg (fun k h1 h2 _ => stR_k (by omega) (by omega))
  obtain ⟨v4, r4⟩ := vs2.place (i' := i') (y := y) (s' := s') (md' := md') hi
  exact a_goesOn_499 _ _ _ _ _ _ (q _ ((Ro.stp (v := v) (S := S) ra).trans r4) v4)
theorem lc_step (h : Rn κ0 σ0 κ σ b V al S LT HT sp F0 st fr pt ch w v (bd, i, j, pl, nv, vs, L, O, s, md) r) (all : AllOK X d (e + 1) κ0 σ0 b (pot V S st fr)) (hx : x + pot V S st fr ≤ 199000000) (hd : 7 ≤ d) (he : 2 ≤ e) (hS : S < 6000) (e69 : kI κ0 69 i = 20) (e13 : aI σ0 13 j = 0) (e14 : aI σ0 14 j = kI κ0 70 i) (g : Good2 κ0 σ0 (fun _ => False) (bd, i + 1, j + 1, L.map itm, O.length, 1)) : RunOK X d (e + 1) κ0 σ0 κ σ b x (HT + 2 * pot V S st fr) := by
  obtain ⟨n1, n2, n3, n4, n5, n6, n7, n8, n9, vr⟩ := h.num
  obtain ⟨⟨q1, q2, q3⟩, -, -, -, -, -, c12, c13, c14⟩ := h.cls
  obtain ⟨-, l2, -, l4, -, l6, -⟩ := g.loc
  have l4 : j + 1 + 1 < 12000 := l4
  have h12 := h.1.1.2.1.2.2.1
  have hst := h.stp hS
  have acc := h.2.2.2.2.1
  have b4 := h.2.1.2.2.2.1
  refine rn_step (C := fun κ' => Vo v (stK κ v S) κ' ∧ VK κ' v ((bd, i + 1, j + 1, kI κ0 70 i, nv, vs, L, O, 1, 0) :: r)) (D := fun σ' => Ro (pt v) (stR σ v S) σ' ∧ VR σ' v (pt v) ((bd, i + 1, j + 1, kI κ0 70 i, nv, vs, L, O, 1, 0) :: r)) all hx
    (ref_ex c12 (by omega) (on_step he c12 h12.2 hS vr (by omega) (by rw [c13 13 (by omega) (by omega)]; exact e13) (by rw [c13 14 (by omega) (by omega)]; exact e14) (by omega) (fun σ' ro vr' => ⟨rfl, ro, vr'⟩)))
    (h.ppc hx (by omega) (by decide) e69 (fun κ1 vo1 vk1 => ⟨4, by omega, pp_step (S := S) vk1 (by rw [(vo1.h (h := 79) (by omega) (by omega)).1]; exact h12.1) hS (fun κ' vo2 vk2 => ⟨(Vo.stp (S := S) vo1).trans vo2, vk2⟩)⟩)) ?_
  rintro κ' σ' ⟨vo, vk⟩ ⟨ro, v2⟩
  have ea := arm_un (st := st) (fr := fr) (fs := (bd, i + 1, j + 1, kI κ0 70 i, nv, vs, L, O, 1, 0) :: r) c14
  have ep := pot_un (S := S + 1) (st := st) (fr := fr) (fs := (bd, i + 1, j + 1, kI κ0 70 i, nv, vs, L, O, 1, 0) :: r) c14
  have eS := pot_S (V := V) (st := st) (fr := fr) hS
  rw [b4] at ea ep
  have ea : cn (vArm st (un fr v ((bd, i + 1, j + 1, kI κ0 70 i, nv, vs, L, O, 1, 0) :: r))) V + (s + arm r) = cn (vArm st fr) V + (1 + arm r) := ea
  have ep : pot V (S + 1) st (un fr v ((bd, i + 1, j + 1, kI κ0 70 i, nv, vs, L, O, 1, 0) :: r)) + (((9600 - i) + 22000 * s + gws L) + fws r) = pot V (S + 1) st fr + (((9600 - (i + 1)) + 22000 * 1 + gws L) + fws r) := ep
  have acc1 := acc.1
  have acc2 := acc.2.1
  have acc3 := acc.2.2
  have hac : Acc V (S + 1) F0 LT HT st (un fr v ((bd, i + 1, j + 1, kI κ0 70 i, nv, vs, L, O, 1, 0) :: r)) := ⟨by omega, by omega, by omega⟩
  exact ⟨_, _, _, _, _, _, _, _, _, _, _, _, _, _, _, hst.loc2 (f' := (bd, i + 1, j + 1, kI κ0 70 i, nv, vs, L, O, 1, 0)) vo ro vk v2 rfl (n9.to (by omega) g) hac (fun g => rfl) (fun y hy _ _ => hy), by omega, by omega⟩
end STEP2
