/-! END_FINALLY of a finally that was come to without a failure -/
section ENDG
variable {X : Cx} {d e : Nat} {κ0 κ κ' : Km} {σ0 σ σ' : Rm} {b V al S T LT HT sp F0 z v p x n : Nat} {st : Nat → Nat} {fr : Nat → List Frm} {pt : Nat → Nat} {ch : List Nat} {w rz : Nat → Nat} {r fs : List Frm} {f f' : Frm}
variable {bd i j nv s md i' j' s' md' t h0 ph jb : Nat} {pl : Int32} {vs : Nat → Int32} {L L0 : List Ite} {O : List Int32} {y u : Int32}
theorem pg_end {C : Km → Prop} (hk : VK κ v ((bd, i, j, pl, nv, vs, L0 ++ [(1, t, h0, 2, u)], O, s, md) :: r)) (q2 : ∀ κ', Vo v κ κ' → VK κ' v ((bd, i, j', pl, nv, vs, L0, [], s', md') :: r) → C κ') : KC' X 3 MX6_passGuards [vR 79, vR (1002 + 8 * v), vI (nI 45), vI y] κ (kRV C) := by
  refine KC_of_K rfl (Nat.le_of_ble_eq_true rfl) rfl (k_6_passGuards_0 _ _ _ ⟨fun z => absurd z (by decide), fun z => absurd z (by decide), fun z => absurd z (by decide), fun _ => ⟨hk.v, 2, by omega, ?_⟩, fun z => absurd z (by decide), fun z => absurd (by decide) z⟩)
  exact kc_endFinally (j' := j') (s' := s') (md' := md') hk (by omega) (by omega) (fun _ κ' vo vk => k_6_passGuards_130 _ _ _ ⟨rfl, q2 κ' vo vk⟩) (fun c => absurd c (by omega)) (fun c => absurd c (by omega))
theorem lc_end2 (h : Rn κ0 σ0 κ σ b V al S LT HT sp F0 st fr pt ch w v (bd, i, j, pl, nv, vs, L0 ++ [(1, t, h0, 2, u)], [], s, md) r) (all : AllOK X d (e + 2) κ0 σ0 b (pot V S st fr)) (hx : x + pot V S st fr ≤ 199000000) (hd : 7 ≤ d) (he : 1 ≤ e) (hj : j + 1 < 12000) (e69 : kI κ0 69 i = 45) (e13 : aI σ0 13 j = 30) (e14 : aI σ0 14 j = nI t) (ht : t < 1000) (e28 : aI σ0 28 t = nI jb) (g : Good2 κ0 σ0 (fun _ => False) (bd, i + 1, jb, L0.map itm, 0, 0)) : RunOK X d (e + 2) κ0 σ0 κ σ b x (HT + 2 * pot V S st fr) := by
  obtain ⟨n1, n2, n3, n4, n5, n6, n7, n8, n9, vr⟩ := h.num
  obtain ⟨-, -, -, -, -, -, c12, c13, c14⟩ := h.cls
  obtain ⟨-, l2, -, l4, l5, l6, -⟩ := g.loc
  have l4 : jb + 1 < 12000 := l4
  have fo : FrO κ0 σ0 F0 b (bd, i + 1, jb, pl, nv, vs, L0, [], 0, 0) := ⟨n9.1, n9.2.1, by show 0 ≤ 1; omega, fun x hx => n9.2.2.2.1 x (List.mem_append.mpr (Or.inl hx)), Or.inl ⟨rfl, g⟩⟩
  refine rn_step (C := fun κ' => Vo v κ κ' ∧ VK κ' v ((bd, i + 1, jb, pl, nv, vs, L0, [], 0, 0) :: r)) (D := fun σ' => Ro (pt v) σ σ' ∧ VR σ' v (pt v) ((bd, i + 1, jb, pl, nv, vs, L0, [], 0, 0) :: r)) all hx
    (ref_ex c12 (by omega) (on_end (i' := i + 1) (s' := 0) (md' := 0) he c12 vr (by omega) hj (by rw [c13 13 (by omega) (by omega)]; exact e13) (by rw [c13 14 (by omega) (by omega)]; exact e14) ht (by rw [c13 28 (by omega) (by omega)]; exact e28) (by omega) (by omega) (fun _ σ' ro vr' => ⟨rfl, ro, vr'⟩) (fun c => absurd c (by omega)) (fun c => absurd c (by omega))))
    (h.pgc hx (by omega) (by decide) e69 (fun κ1 vo1 vk1 => ⟨3, by omega, pg_end vk1 (fun κ' vo2 vk2 => ⟨vo1.trans vo2, vk2⟩)⟩)) ?_
  rintro κ' σ' ⟨vo, vk⟩ ⟨ro, v2⟩
  obtain ⟨h2, hp⟩ := h.loc (f' := (bd, i + 1, jb, pl, nv, vs, L0, [], 0, 0)) vo ro vk v2 rfl fo (Nat.zero_le _) (by
    show (9600 - (i + 1)) + 22000 * 0 + gws L0 < (9600 - i) + 22000 * s + gws (L0 ++ [(1, t, h0, 2, u)])
    rw [gws_app]
    omega) (fun g => by
    show kpl g L0 = kpl g (L0 ++ [(1, t, h0, 2, u)])
    rw [kpl_app]
    have e : kp1 g (1, t, h0, 2, u) = 0 := if_neg (fun z => by
      have z2 : (2 : Nat) = 3 := z.2.1
      omega)
    show kpl g L0 = kpl g L0 + (kp1 g (1, t, h0, 2, u) + 0)
    rw [e]
    omega) (fun y hy y1 y2 => List.mem_append.mpr (Or.inl hy))
  exact ⟨_, _, _, _, _, _, _, _, _, _, _, _, _, _, _, h2, hp, by omega⟩
end ENDG
