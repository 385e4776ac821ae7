/-! a general step; TELL -/
section TELLS
variable {X : Cx} {d e : Nat} {κ0 κ κ' : Km} {σ0 σ σ' : Rm} {b V al S T LT HT sp F0 v p x n : Nat} {st : Nat → Nat} {fr : Nat → List Frm} {pt : Nat → Nat} {ch : List Nat} {w rz : Nat → Nat} {r : List Frm}
variable {bd i j nv s md i' j' s' md' : Nat} {pl : Int32} {vs : Nat → Int32} {L : List Ite} {O : List Int32} {y : Int32}
/-- both do an act: what they come to runs on -/
theorem rn_step {C : Km → Prop} {D : Rm → Prop} (all : AllOK X d e κ0 σ0 b (pot V S st fr)) (hx : x + pot V S st fr ≤ 199000000) (rf : ∃ σ1, D σ1 ∧ ∀ Q' : Res → Rm → Prop, A X 92 e MX13_goes 0 [(0, vR 92)] [] σ1 Q' → A X 92 e MX13_goes 0 [(0, vR 92)] [] σ Q')
    (cl : ∀ Q : Res → Km → Prop, (∀ κ', C κ' → K X d MX6_run 2 [(0, vR 79), (1, vI (nI (x + 1)))] [] κ' Q) → K X d MX6_run 2 [(0, vR 79), (1, vI (nI x))] [] κ Q)
    (rn : ∀ κ' σ', C κ' → D σ' → ∃ V' al' S' LT' HT' sp' F0' st' fr' pt' ch' w' v' f' r', Rn κ0 σ0 κ' σ' b V' al' S' LT' HT' sp' F0' st' fr' pt' ch' w' v' f' r' ∧ pot V' S' st' fr' < pot V S st fr ∧ HT' + 2 * pot V' S' st' fr' ≤ HT + 2 * pot V S st fr) : RunOK X d e κ0 σ0 κ σ b x (HT + 2 * pot V S st fr) := by
  intro Q hQ
  obtain ⟨σ1, hD, adv⟩ := rf
  refine cl Q (fun κ' hC => ?_)
  obtain ⟨V', al', S', LT', HT', sp', F0', st', fr', pt', ch', w', v', f', r', h', hp, hb⟩ := rn κ' σ1 hC hD
  exact all _ _ _ _ _ _ _ _ _ _ _ _ _ _ _ _ _ _ h' hp (by omega) Q (fun κ2 σ2 V2 al2 S2 LT2 HT2 sp2 F2 z2 st2 fr2 pt2 w2 dk e15 hb2 adv' => hQ κ2 σ2 V2 al2 S2 LT2 HT2 sp2 F2 z2 st2 fr2 pt2 w2 dk e15 (by omega) (fun Q' hq => adv Q' (adv' Q' hq)))
/-- the class's part of an act on the stage -/
theorem Rn.ppc {a : Nat} {C : Km → Prop} (h : Rn κ0 σ0 κ σ b V al S LT HT sp F0 st fr pt ch w v (bd, i, j, pl, nv, vs, L, O, s, md) r) (hx : x + pot V S st fr ≤ 199000000) (hd : 1 ≤ d) (ha : 20 ≤ a ∧ a < 40) (e69 : kI κ0 69 i = nI a) (wc : ∀ κ1, Vo v κ κ1 → VK κ1 v ((bd, i + 1, j, pl, nv, vs, L, O, s, md) :: r) → ∃ ew, ew + 1 ≤ d ∧ KC' X ew MX6_playPart [vR 79, vR (1002 + 8 * v), vI (nI a), vI (kI κ0 70 i)] κ1 (kRV C)) :
    ∀ Q : Res → Km → Prop, (∀ κ', C κ' → K X d MX6_run 2 [(0, vR 79), (1, vI (nI (x + 1)))] [] κ' Q) → K X d MX6_run 2 [(0, vR 79), (1, vI (nI x))] [] κ Q := by
  intro Q hQ
  obtain ⟨⟨c1, c2, c3⟩, c4, c5, c6, ⟨m, c7, c8, c9, -⟩, ⟨c10, c11⟩, c12, c13, c14⟩ := h.cls
  have c8 : i < m := c8
  have vk := h.2.2.1.1
  refine run_act (m := m) (V := V) (v := v) (by omega) (by omega) c1 c2 c3 c4 c14 c5 c6 vk.pc9 c7 c8 ?_
  rw [c10, c11, e69, litI 20, litI 40, lt_nI (by omega) (by omega), lt_nI (by omega) (by omega)]
  obtain ⟨ew, he, hc⟩ := wc _ (Vo.reg (by decide)) vk.pc
  refine ⟨fun z => absurd z (by omega), fun _ _ => ⟨ew, he, hc.mono ?_⟩, fun z => absurd ha.2 z⟩
  rintro r' κ' ⟨rfl, q⟩
  exact ⟨rfl, hQ κ' q⟩
theorem pp_tell {g : Nat → Int32} {C : Km → Prop} {z : Int32} (hk : VK κ n ((bd, i, j, pl, nv, vs, L, O ++ [y], s, md) :: r)) (h0 : kI κ (1002 + 8 * n) 0 = nI n) (p : PrC κ 80 LT g) (hT : LT < 2000000000) (q : ∀ κ2 κ', Vo n κ κ2 → VK κ2 n ((bd, i, j', pl, nv, vs, L, O, s', md') :: r) → Po 80 κ2 κ' → PrC κ' 80 (LT + 1) (padd LT g (nI n) y) → C κ') : KC' X 4 MX6_playPart [vR 79, vR (1002 + 8 * n), vI (nI 21), vI z] κ (kRV C) := by
  refine KC_of_K rfl (Nat.le_of_ble_eq_true rfl) rfl (k_6_playPart_0 _ _ _ ⟨fun z => absurd z (by decide), fun _ => ⟨hk.v, 0, by omega, ?_⟩, fun z => absurd z (by decide), fun z => absurd z (by decide), fun z => absurd z (by decide), fun z => absurd z (by decide), fun z => absurd z (by decide), fun z => absurd z (by decide), fun z => absurd z (by decide), fun z => absurd z (by decide), fun z => absurd (by decide) z⟩)
  rw [h0]
  refine vk_pop (b' := bd) (j' := j') (s' := s') (md' := md') hk (fun κ1 vo1 vk1 => ⟨3, by omega, ?_⟩)
  refine kc_padd (Or.inl rfl) (p.fr (vo1.h (h := 80) (by omega) (by omega)).1 (vo1.h (h := 81) (by omega) (by omega)).1 (vo1.h (h := 81) (by omega) (by omega)).2.2) hT (fun κ' po p' => ?_)
  exact k_6_playPart_213 _ _ _ ⟨rfl, q κ1 κ' vo1 vk1 po p'⟩
theorem on_tell {Q : Res → Rm → Prop} {g : Nat → Int32} (hd : 2 ≤ d) (h77 : sI σ 77 = nI v) (hk : VR σ v p ((bd, i, j, pl, nv, vs, L, O ++ [y], s, md) :: r)) (hj : j + 1 < 12000) (h13 : aI σ 13 j = 21) (hi : i' < 20000) (pr : PRr σ 80 81 82 LT g) (hT : LT < 2000000000) (q : ∀ σ2 σ', Ro p σ σ2 → VR σ2 v p ((bd, i', j + 1, pl, nv, vs, L, O, s', md') :: r) → AF (fun k => k = 80 ∨ k = 81 ∨ k = 82) σ2 σ' → PRr σ' 80 81 82 (LT + 1) (padd LT g (nI v) y) → Q (.inl none) σ') : A X 92 d MX13_goesOn 0 [(0, vR 92)] [] σ Q := by
  have hh := hk
  obtain ⟨⟨h1, h2, h3, h4⟩, h5, h6, h7, h8⟩ := hh
  have h4 : r.length + 1 ≤ 60 := h4
  obtain ⟨va, ra⟩ := hk.act (i' := i') (j' := j + 1) (s' := s) (md' := md) hi hj
  refine on_act (op := 21) (by omega) h77 hk.vx (by omega) h13 (by omega) ?_
  refine a_goesOn_124 _ _ _ _ _ _ ⟨fun z => absurd z (by decide), fun z => absurd z (by decide), fun z => absurd z (by decide), fun z => absurd z (by decide), fun z => absurd z (by decide), fun z => absurd z (by decide), fun z => absurd z (by decide), fun z => absurd z (by decide), fun z => absurd z (by decide), fun z => absurd z (by decide), fun z => absurd z (by decide), fun z => absurd z (by decide), fun z => absurd z (by decide), fun z => absurd z (by decide), fun _ => ⟨1, hd, AC_of_A rfl (Nat.le_of_ble_eq_true rfl) rfl (a_controls_0 _ _ _ _ _ ?_)⟩⟩
  rw [vpn (a := v) (by omega)]
  refine ⟨by omega, fun _ => ⟨0, by omega, ?_⟩, fun z => absurd z (by decide), fun z => absurd z (by decide), fun z => absurd z (by decide), fun z => absurd z (by decide), fun z => absurd z (by decide), fun z => absurd z (by decide), fun z => absurd z (by decide), fun z => absurd z (by decide), fun z => absurd z (by decide), fun z => absurd z (by decide), fun z => absurd (by decide) z⟩
  refine ac_pop (s' := s') (md' := md') va hi (fun σ3 r3 v3 => ⟨0, by omega, ?_⟩)
  have rr := ra.trans r3
  refine ac_tells (pr.fr (rr.s (by decide)) (rr.s (by decide)) (rr.s (by decide))) hT (fun σ' af pr' => ?_)
  exact a_controls_449 _ _ _ _ _ _ ⟨rfl, a_goesOn_499 _ _ _ _ _ _ (q σ3 σ' rr v3 af pr')⟩
theorem lc_tell (h : Rn κ0 σ0 κ σ b V al S LT HT sp F0 st fr pt ch w v (bd, i, j, pl, nv, vs, L, O ++ [y], s, md) r) (all : AllOK X d (e + 1) κ0 σ0 b (pot V S st fr)) (hx : x + pot V S st fr ≤ 199000000) (hd : 7 ≤ d) (he : 2 ≤ e) (e69 : kI κ0 69 i = 21) (e13 : aI σ0 13 j = 21) (g : Good2 κ0 σ0 (fun _ => False) (bd, i + 1, j + 1, L.map itm, O.length, 0)) : RunOK X d (e + 1) κ0 σ0 κ σ b x (HT + 2 * pot V S st fr) := by
  obtain ⟨n1, n2, n3, n4, n5, n6, n7, n8, n9, vr⟩ := h.num
  obtain ⟨⟨q1, q2, q3⟩, -, -, -, -, -, c12, c13, c14⟩ := h.cls
  obtain ⟨-, l2, -, l4, -, l6, -⟩ := g.loc
  have l4 : j + 1 + 1 < 12000 := l4
  have hvo := h.1.1.2.2.1
  have ln : Lns κ σ LT HT := h.1.1.2.2.2.2.2.1
  obtain ⟨⟨g1, pc, pr⟩, -⟩ := id ln
  have acc : Acc V S F0 LT HT st fr := h.2.2.2.2.1
  have hT : LT < 2000000000 := by have := acc.2.1; omega
  refine rn_step (C := fun κ' => ∃ κ2, Vo v κ κ2 ∧ VK κ2 v ((bd, i + 1, j + 1, pl, nv, vs, L, O, 0, 0) :: r) ∧ Po 80 κ2 κ' ∧ PrC κ' 80 (LT + 1) (padd LT g1 (nI v) y)) (D := fun σ' => ∃ σ2, Ro (pt v) σ σ2 ∧ VR σ2 v (pt v) ((bd, i + 1, j + 1, pl, nv, vs, L, O, 0, 0) :: r) ∧ AF (fun k => k = 80 ∨ k = 81 ∨ k = 82) σ2 σ' ∧ PRr σ' 80 81 82 (LT + 1) (padd LT g1 (nI v) y)) all hx
    (ref_ex c12 (by omega) (on_tell he c12 vr (by omega) (by rw [c13 13 (by omega) (by omega)]; exact e13) (by omega) pr hT (fun σ2 σ' r2 v2 af pr' => ⟨rfl, σ2, r2, v2, af, pr'⟩)))
    (h.ppc hx (by omega) (by decide) e69 (fun κ1 vo1 vk1 => ⟨4, by omega, pp_tell vk1 (by rw [vo1.2.2 0 (by decide) (by decide) (by decide) (by decide) (by decide)]; exact (hvo v c14.1 c14.2).1) (pc.fr (vo1.h (h := 80) (by omega) (by omega)).1 (vo1.h (h := 81) (by omega) (by omega)).1 (vo1.h (h := 81) (by omega) (by omega)).2.2) hT (fun κ2 κ' vo2 vk2 po p' => ⟨κ2, vo1.trans vo2, vk2, po, p'⟩)⟩)) ?_
  rintro κ' σ' ⟨κ2, vo, vk, po, p'⟩ ⟨σ2, ro, v2, af, pr'⟩
  obtain ⟨h2, hp⟩ := h.loc (f' := (bd, i + 1, j + 1, pl, nv, vs, L, O, 0, 0)) vo ro vk v2 rfl (n9.to (by omega) g) (Nat.zero_le _) (by
    show (9600 - (i + 1)) + 22000 * 0 + gws L < (9600 - i) + 22000 * s + gws L
    omega) (fun g => rfl) (fun y hy _ _ => hy)
  have ln2 : Lns κ2 σ2 LT HT := h2.1.1.2.2.2.2.2.1
  refine ⟨_, _, _, _, _, _, _, _, _, _, _, _, _, _, _, h2.oth (H := fun k => k = 80 ∨ k = 80 + 1) po.1 po.2 (fun g hg => by omega) (fun k hk => af k (fun z => hk (by omega))) (Lns.tell (g := g1) (v := v) (y := y) ln2 ?_ ?_ po af p' pr') ?_, hp, by omega⟩
  · exact pc.fr (vo.h (h := 80) (by omega) (by omega)).1 (vo.h (h := 81) (by omega) (by omega)).1 (vo.h (h := 81) (by omega) (by omega)).2.2
  · exact pr.fr (ro.s (by decide)) (ro.s (by decide)) (ro.s (by decide))
  · have a2 := h2.2.2.2.2.1
    have a3 := acc.2.1
    exact ⟨a2.1, by omega, a2.2.2⟩
end TELLS
