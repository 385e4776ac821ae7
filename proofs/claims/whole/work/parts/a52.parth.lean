/-! the end of a try's block or catch that has a finally: both -/
section PARTH
variable {X : Cx} {d e : Nat} {κ0 κ κ' : Km} {σ0 σ σ' : Rm} {b V al S T LT HT sp F0 z v p x n : Nat} {st : Nat → Nat} {fr : Nat → List Frm} {pt : Nat → Nat} {ch : List Nat} {w rz : Nat → Nat} {r fs : List Frm} {f f' : Frm}
variable {bd i j nv s md i' j' s' md' t h0 ph jf ie : Nat} {pl : Int32} {vs : Nat → Int32} {L L0 : List Ite} {O : List Int32} {y u : Int32}
theorem lc_partf (h : Rn κ0 σ0 κ σ b V al S LT HT sp F0 st fr pt ch w v (bd, i, j, pl, nv, vs, L0 ++ [(1, t, h0, ph, u)], [], s, md) r) (all : AllOK X d (e + 1) κ0 σ0 b (pot V S st fr)) (hx : x + pot V S st fr ≤ 199000000) (hd : 7 ≤ d) (he : 3 ≤ e) (hj : j + 1 < 12000) (hph : ph < 2) (e69 : kI κ0 69 i = 15) (e13 : aI σ0 13 j = 29) (e14 : aI σ0 14 j = nI t) (e70 : kI κ0 70 i = nI ie) (hie : i < ie) (ht : t < 1000) (f69 : kI κ0 69 ie = 43) (e27 : aI σ0 27 t = nI jf) (g : Good2 κ0 σ0 (fun _ => False) (bd, ie + 1, jf, L0.map itm ++ [(1, t, h0, 2)], 0, 0)) : RunOK X d (e + 1) κ0 σ0 κ σ b x (HT + 2 * pot V S st fr) := by
  obtain ⟨n1, n2, n3, n4, n5, n6, n7, n8, n9, vr⟩ := h.num
  obtain ⟨⟨q1, q2, q3⟩, -, -, -, ⟨m, -, -, m2, m1⟩, -, c12, c13, c14⟩ := h.cls
  obtain ⟨-, l2, -, l4, -, l6, -⟩ := g.loc
  have l4 : jf + 1 < 12000 := l4
  have l2 : ie + 1 + 1 < 20000 := l2
  have hlt := good_lt m1 m2 g
  have b4 := h.2.1.2.2.2.1
  have hne : fr v ≠ [] := by rw [b4]; exact List.cons_ne_nil _ _
  have fo : FrO κ0 σ0 F0 b (bd, ie + 1, jf, pl, nv, vs, L0 ++ [(1, t, h0, 2, 0)], [], 0, 0) := by
    refine ⟨n9.1, n9.2.1, by show 0 ≤ 1; omega, fun x hx => ?_, Or.inl ⟨rfl, ?_⟩⟩
    · rcases List.mem_append.mp hx with hx | hx
      · exact n9.2.2.2.1 x (List.mem_append.mpr (Or.inl hx))
      · rw [List.mem_singleton.mp hx]
        exact Or.inr ⟨rfl, (show 2 ≤ 4 by omega), fun z => by
          have z : (2 : Nat) = 1 ∨ (2 : Nat) = 3 := z
          omega⟩
    · show Good2 κ0 σ0 (fun _ => False) (bd, ie + 1, jf, (L0 ++ [(1, t, h0, 2, 0)]).map itm, 0, 0)
      rw [List.map_append]
      exact g
  have hgw : 10200 ≤ gwt (1, t, h0, ph, u) := by
    unfold gwt
    rw [if_neg (show ¬ (1 : Nat) = 0 by omega)]
    by_cases c : ph = 0
    · rw [if_pos (show (1, t, h0, ph, u).2.2.2.1 = 0 from c)]
      omega
    · rw [if_neg (show ¬ (1, t, h0, ph, u).2.2.2.1 = 0 from c), if_pos (show ph = 1 by omega)]
      omega
  refine rn_stepk (C := fun κ' => Vo v (fiK κ v) κ' ∧ VK κ' v ((bd, ie + 1, jf, pl, nv, vs, L0 ++ [(1, t, h0, 2, 0)], [], 0, 0) :: r)) (D := fun σ' => Ro (pt v) (fiR σ v) σ' ∧ VR σ' v (pt v) ((bd, ie + 1, jf, pl, nv, vs, L0 ++ [(1, t, h0, 2, 0)], [], 0, 0) :: r)) 2 all hx (by omega) ?_ ?_ ?_
  · exact ref_ex c12 (by omega) (on_partf (i' := ie + 1) (s' := 0) (md' := 0) he c12 vr hj (by rw [c13 13 (by omega) (by omega)]; exact e13) (by rw [c13 14 (by omega) (by omega)]; exact e14) ht (by rw [c13 27 (by omega) (by omega)]; exact e27) (by omega) (by omega) (fun σ' ro vr' => ⟨rfl, ro, vr'⟩))
  · intro Q hQ
    refine h.1.1.act (a := 15) (C := fun κ' => Vo v κ κ' ∧ VK κ' v ((bd, ie, j, pl, nv, vs, L0 ++ [(1, t, h0, ph, u)], [], s, md) :: r)) h.2.1.2.2.2.2 c14 h.2.2.1.1 (by rw [m1, lt_nI (by omega) (by omega)]; omega) (by omega) (by omega) (by omega) (by decide) e69 (fun κ1 vo1 vk1 => ⟨4, by omega, ?_⟩) Q (fun κ3 hc3 => ?_)
    · rw [e70]
      exact wk_jump vk1 (fun κ' vo vk => ⟨rfl, vo1.trans vo, vk⟩)
    · obtain ⟨vo3, vk3⟩ := hc3
      have rm := h.1.1.vo (fs := (bd, ie, j, pl, nv, vs, L0 ++ [(1, t, h0, ph, u)], [], s, md) :: r) c14 vo3 (Ro.refl (p := pt v)) hne (List.cons_ne_nil _ _)
      refine rm.pgact (a := 43) (C := fun κ' => Vo v (fiK κ v) κ' ∧ VK κ' v ((bd, ie + 1, jf, pl, nv, vs, L0 ++ [(1, t, h0, 2, 0)], [], 0, 0) :: r)) (by rw [(vo3.h (h := 79) (by omega) (by omega)).1]; exact h.2.1.2.2.2.2) c14 vk3 (by rw [m1, lt_nI (by omega) (by omega)]; omega) (by omega) (by omega) (by omega) (by decide) f69 (fun κ4 vo4 vk4 => ⟨2, by omega, pg_fin vk4 (fun κ' vo vk => ⟨(Vo.fin (vo3.trans vo4)).trans vo, vk⟩)⟩) Q hQ
  · rintro κ' σ' ⟨vo, vk⟩ ⟨ro, v2⟩
    have hw : fwt (bd, ie + 1, jf, pl, nv, vs, L0 ++ [(1, t, h0, 2, 0)], [], 0, 0) + 2 ≤ fwt (bd, i, j, pl, nv, vs, L0 ++ [(1, t, h0, ph, u)], [], s, md) := by
      show (9600 - (ie + 1)) + 22000 * 0 + gws (L0 ++ [(1, t, h0, 2, 0)]) + 2 ≤ (9600 - i) + 22000 * s + gws (L0 ++ [(1, t, h0, ph, u)])
      rw [gws_app, gws_app]
      have e : gws [(1, t, h0, ph, u)] = gwt (1, t, h0, ph, u) + 0 := rfl
      have e2 : gws [(1, t, h0, 2, 0)] = 100 := rfl
      omega
    have ep := pot_un (S := S) (st := st) (fr := fr) (fs := (bd, ie + 1, jf, pl, nv, vs, L0 ++ [(1, t, h0, 2, 0)], [], 0, 0) :: r) c14
    rw [b4] at ep
    have ep : pot V S st (un fr v ((bd, ie + 1, jf, pl, nv, vs, L0 ++ [(1, t, h0, 2, 0)], [], 0, 0) :: r)) + (fwt (bd, i, j, pl, nv, vs, L0 ++ [(1, t, h0, ph, u)], [], s, md) + fws r) = pot V S st fr + (fwt (bd, ie + 1, jf, pl, nv, vs, L0 ++ [(1, t, h0, 2, 0)], [], 0, 0) + fws r) := ep
    obtain ⟨h2, hp⟩ := h.fin.loc (f' := (bd, ie + 1, jf, pl, nv, vs, L0 ++ [(1, t, h0, 2, 0)], [], 0, 0)) vo ro vk v2 rfl fo (Nat.zero_le _) (by omega) (fun g => by
      show kpl g (L0 ++ [(1, t, h0, 2, 0)]) = kpl g (L0 ++ [(1, t, h0, ph, u)])
      rw [kpl_app, kpl_app]
      have e : kp1 g (1, t, h0, ph, u) = 0 := if_neg (fun z => by
        have z2 : ph = 3 := z.2.1
        omega)
      have e2 : kp1 g (1, t, h0, 2, 0) = 0 := if_neg (fun z => by
        have z2 : (2 : Nat) = 3 := z.2.1
        omega)
      show kpl g L0 + (kp1 g (1, t, h0, 2, 0) + 0) = kpl g L0 + (kp1 g (1, t, h0, ph, u) + 0)
      rw [e, e2]) (fun y hy y1 y2 => by
      have hy : y ∈ L0 ++ [(1, t, h0, 2, 0)] := hy
      rcases List.mem_append.mp hy with hy | hy
      · exact List.mem_append.mpr (Or.inl hy)
      · rw [List.mem_singleton.mp hy] at y2
        have y2 : (2 : Nat) = 1 := y2
        omega)
    exact ⟨_, _, _, _, _, _, _, _, _, _, _, _, _, _, _, h2, by omega, by omega⟩
end PARTH
