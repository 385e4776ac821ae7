/-! STATE_OF; changes outside of all voices; TELL -/
section STATED
variable {X : Cx} {d e ew : Nat} {κ0 κ κ' : Km} {σ0 σ σ' : Rm} {b V al S T LT HT LT' HT' sp F0 F0' z v p x n : Nat} {st : Nat → Nat} {fr : Nat → List Frm} {pt : Nat → Nat} {ch : List Nat} {w rz : Nat → Nat} {r fs : List Frm} {f f' : Frm}
variable {bd i j nv s md i' j' s' md' : Nat} {pl : Int32} {vs : Nat → Int32} {L : List Ite} {O : List Int32} {y u : Int32}
theorem Rn.pp {a : Nat} (h : Rn κ0 σ0 κ σ b V al S LT HT sp F0 st fr pt ch w v (bd, i, j, pl, nv, vs, L, O, s, md) r) (all : AllOK X d (e + 1) κ0 σ0 b (pot V S st fr)) (hx : x + pot V S st fr ≤ 199000000) (hd : ew + 1 ≤ d) (ha : 20 ≤ a ∧ a < 40) (e69 : kI κ0 69 i = nI a) (m0 : frM f' = 0) (fo : FrO κ0 σ0 F0 b f') (hs : frS f' ≤ s) (hw : fwt f' < fwt (bd, i, j, pl, nv, vs, L, O, s, md)) (hL : frL f' = L)
    (rf : A X 92 e MX13_goesOn 0 [(0, vR 92)] [] σ (fun r' σ' => r' = .inl none ∧ Ro (pt v) σ σ' ∧ VR σ' v (pt v) (f' :: r)))
    (wc : ∀ κ1, Vo v κ κ1 → VK κ1 v ((bd, i + 1, j, pl, nv, vs, L, O, s, md) :: r) → KC' X ew MX6_playPart [vR 79, vR (1002 + 8 * v), vI (nI a), vI (kI κ0 70 i)] κ1 (kRV fun κ' => Vo v κ1 κ' ∧ VK κ' v (f' :: r))) : RunOK X d (e + 1) κ0 σ0 κ σ b x (HT + 2 * pot V S st fr) := by
  obtain ⟨⟨c1, c2, c3⟩, c4, c5, c6, ⟨m, c7, c8, c9, -⟩, ⟨c10, c11⟩, c12, c13, c14⟩ := h.cls
  have c8 : i < m := c8
  have vk := h.2.2.1.1
  refine h.go all hx m0 fo hs hw (fun g => by rw [hL]) (fun y hy _ _ => by rw [hL] at hy; exact hy) (ref_ex c12 (by omega) rf) (fun Q hQ => ?_)
  refine run_act (m := m) (V := V) (v := v) (by omega) (by omega) c1 c2 c3 c4 c14 c5 c6 vk.pc9 c7 c8 ?_
  rw [c10, c11, e69, litI 20, litI 40, lt_nI (by omega) (by omega), lt_nI (by omega) (by omega)]
  refine ⟨fun z => absurd z (by omega), fun _ _ => ⟨ew, hd, ?_⟩, fun z => absurd ha.2 z⟩
  refine (wc _ (Vo.reg (by decide)) vk.pc).mono ?_
  rintro r' κ' ⟨rfl, vo, vk'⟩
  exact ⟨rfl, hQ κ' ((Vo.reg (by decide)).trans vo) vk'⟩
theorem pp_state (h10 : kI κ 79 10 = nI V) (hV : V ≤ 60) (hkV : V ≤ kV κ) (hst : ∀ n, 1 ≤ n → n ≤ V → kI κ (1002 + 8 * n) 1 = nI (st n)) (hk : VK κ n ((bd, i, j, pl, nv, vs, L, O ++ [y], s, md) :: r)) (hz : tsz 0 r + (4 + nv + psz L + O.length) ≤ 16000) (hu : (∃ n, 1 ≤ n ∧ n ≤ V ∧ y = nI n ∧ u = nI (st n)) ∨ ((y < 1 ∨ nI V < y) ∧ u = 9)) {x : Int32} : KC' X 4 MX6_playPart [vR 79, vR (1002 + 8 * n), vI (nI 22), vI x] κ (kRV fun κ' => Vo n κ κ' ∧ VK κ' n ((bd, i, j', pl, nv, vs, L, O ++ [u], s', md') :: r)) := by
  refine KC_of_K rfl (Nat.le_of_ble_eq_true rfl) rfl (k_6_playPart_0 _ _ _ ⟨fun z => absurd z (by decide), fun z => absurd z (by decide), fun _ => ⟨hk.v, 0, by omega, ?_⟩, fun z => absurd z (by decide), fun z => absurd z (by decide), fun z => absurd z (by decide), fun z => absurd z (by decide), fun z => absurd z (by decide), fun z => absurd z (by decide), fun z => absurd z (by decide), fun z => absurd (by decide) z⟩)
  refine vk_pop (b' := bd) (j' := j) (s' := s) (md' := md) hk (fun κ1 vo1 vk1 => ⟨0, by omega, ?_⟩)
  have e79 := (vo1.h (h := 79) (by omega) (by omega)).1
  have push : K X 4 MX6_playPart 213 [(0, vR 79), (1, vR (1002 + 8 * n)), (2, vI (nI 22)), (3, vI x)] [] κ1 (kRV fun κ' => True) → ∃ e83 : Nat, e83 + 1 ≤ 4 ∧ KC' X e83 MX10_push [vR (1002 + 8 * n), vI u] κ1 (kRV fun κ86 => K X 4 MX6_playPart 213 [(0, vR 79), (1, vR (1002 + 8 * n)), (2, vI (nI 22)), (3, vI x)] [] κ86 (kRV fun κ' => Vo n κ κ' ∧ VK κ' n ((bd, i, j', pl, nv, vs, L, O ++ [u], s', md') :: r))) := fun _ =>
    ⟨3, by omega, vk_push vk1 (by show tsz 0 r + (4 + nv + psz L + O.length) ≤ 17000; omega) (fun κ' vo vk => k_6_playPart_213 _ _ _ ⟨rfl, vo1.trans vo, vk⟩)⟩
  have push := push (k_6_playPart_213 _ _ _ ⟨rfl, trivial⟩)
  refine kc_vfind (V := V) (by rw [e79]; exact h10) hV (by rw [vo1.1.2.2.2]; exact hkV) (fun m m1 m2 e => ?_) (fun c => ?_)
  · have eu : u = nI (st m) := by
      rcases hu with ⟨m', a1, a2, a3, a4⟩ | ⟨a1, a2⟩
      · have : m = m' := by rw [e, eq_nI (by omega) (by omega)] at a3; exact a3
        rw [this]; exact a4
      · rw [e, litI 1, lt_nI (by omega) (by omega), lt_nI (by omega) (by omega)] at a1
        omega
    have hH : isH κ1 (1002 + 8 * m) 10 := isH_voice m1 (by rw [vo1.1.2.2.2]; omega)
    have e1 : kI κ1 (1002 + 8 * m) 1 = nI (st m) := by
      by_cases c : m = n
      · rw [c] at m1 m2 ⊢
        rw [vo1.2.2 1 (by decide) (by decide) (by decide) (by decide) (by decide)]; exact hst n m1 m2
      · rw [(vo1.h (vh c).1 (vh c).2.1).1]; exact hst m m1 m2
    refine ⟨0, by omega, KC_of_K rfl (Nat.le_of_ble_eq_true rfl) rfl (k_6_stateOf_0 _ ⟨Or.inr hH.1, fun z => absurd z (by omega), fun _ => ⟨hH, k_6_stateOf_13 _ _ ⟨_, rfl, ?_⟩⟩⟩)⟩
    rw [e1, ← eu]
    exact push
  · have eu : u = 9 := by
      rcases hu with ⟨m', a1, a2, a3, a4⟩ | ⟨a1, a2⟩
      · rw [a3, litI 1, lt_nI (by omega) (by omega), lt_nI (by omega) (by omega)] at c
        omega
      · exact a2
    refine ⟨0, by omega, KC_of_K rfl (Nat.le_of_ble_eq_true rfl) rfl (k_6_stateOf_0 _ ⟨Or.inl rfl, fun _ => k_6_stateOf_13 _ _ ⟨_, rfl, ?_⟩, fun z => absurd rfl z⟩)⟩
    rw [← eu]
    exact push
theorem on_state {Q : Res → Rm → Prop} (hd : 2 ≤ d) (h77 : sI σ 77 = nI v) (h47 : sI σ 47 = nI V) (hV : V ≤ 60) (hst : ∀ n, 1 ≤ n → n ≤ V → aI σ 49 n = nI (st n)) (hk : VR σ v p ((bd, i, j, pl, nv, vs, L, O ++ [y], s, md) :: r)) (hj : j + 1 < 12000) (h13 : aI σ 13 j = 14) (hi : i' < 20000) (hu : (∃ n, 1 ≤ n ∧ n ≤ V ∧ y = nI n ∧ u = nI (st n)) ∨ ((y < 1 ∨ nI V < y) ∧ u = 9)) (q : ∀ σ', Ro p σ σ' → VR σ' v p ((bd, i', j + 1, pl, nv, vs, L, O ++ [u], s', md') :: r) → Q (.inl none) σ') : A X 92 d MX13_goesOn 0 [(0, vR 92)] [] σ Q := by
  have hh := hk
  obtain ⟨⟨h1, h2, h3, h4⟩, h5, h6, h7, h8⟩ := hh
  have h4 : r.length + 1 ≤ 60 := h4
  have ho := h8.1.2.2.1
  have ho : (O ++ [y]).length ≤ 150 := ho
  rw [List.length_append] at ho
  have ho : O.length + 1 ≤ 150 := ho
  obtain ⟨va, ra⟩ := hk.act (i' := i') (j' := j + 1) (s' := s) (md' := md) hi hj
  refine on_act (op := 14) (by omega) h77 hk.vx (by omega) h13 (by omega) ?_
  refine a_goesOn_124 _ _ _ _ _ _ ⟨fun z => absurd z (by decide), fun z => absurd z (by decide), fun z => absurd z (by decide), fun z => absurd z (by decide), fun z => absurd z (by decide), fun z => absurd z (by decide), fun z => absurd z (by decide), fun _ => ⟨0, by omega, ?_⟩, fun z => absurd z (by decide), fun z => absurd z (by decide), fun z => absurd z (by decide), fun z => absurd z (by decide), fun z => absurd z (by decide), fun z => absurd z (by decide), fun z => absurd (by decide) z⟩
  refine ac_pop (s' := s) (md' := md) va hi (fun σ3 r3 v3 => ⟨1, by omega, ?_⟩)
  have rr := ra.trans r3
  refine ac_isVoice (V := V) (by rw [show sI σ3 47 = sI σ 47 from congrFun (rr.s (by decide)) 0]; exact h47) hV (fun m m1 m2 e => ?_) (fun c => ?_)
  · have eu : u = nI (st m) := by
      rcases hu with ⟨m', a1, a2, a3, a4⟩ | ⟨a1, a2⟩
      · have : m = m' := by rw [e, eq_nI (by omega) (by omega)] at a3; exact a3
        rw [this]; exact a4
      · rw [e, litI 1, lt_nI (by omega) (by omega), lt_nI (by omega) (by omega)] at a1
        omega
    refine ⟨fun z => absurd z (by decide), fun _ => ?_⟩
    rw [e, vpn (by omega), cl_nI (by omega), rr.s (by decide), hst m m1 m2, ← eu]
    exact ⟨by omega, a_goesOn_367 _ _ _ _ _ _ _ _ _ ⟨0, by omega, ac_push (s' := s') (md' := md') v3 (by omega) hi (fun σ4 r4 v4 => a_goesOn_499 _ _ _ _ _ _ (q σ4 (rr.trans r4) v4))⟩⟩
  · have eu : u = 9 := by
      rcases hu with ⟨m', a1, a2, a3, a4⟩ | ⟨a1, a2⟩
      · rw [a3, litI 1, lt_nI (by omega) (by omega), lt_nI (by omega) (by omega)] at c
        omega
      · exact a2
    refine ⟨fun _ => ?_, fun z => absurd rfl z⟩
    rw [← eu]
    exact a_goesOn_367 _ _ _ _ _ _ _ _ _ ⟨0, by omega, ac_push (s' := s') (md' := md') v3 (by omega) hi (fun σ4 r4 v4 => a_goesOn_499 _ _ _ _ _ _ (q σ4 (rr.trans r4) v4))⟩
theorem lc_state (h : Rn κ0 σ0 κ σ b V al S LT HT sp F0 st fr pt ch w v (bd, i, j, pl, nv, vs, L, O ++ [y], s, md) r) (all : AllOK X d (e + 1) κ0 σ0 b (pot V S st fr)) (hx : x + pot V S st fr ≤ 199000000) (hd : 7 ≤ d) (he : 2 ≤ e) (hs : s = 1) (e69 : kI κ0 69 i = 22) (e13 : aI σ0 13 j = 14) (g : Good2 κ0 σ0 (fun _ => False) (bd, i + 1, j + 1, L.map itm, O.length + 1, 1)) : RunOK X d (e + 1) κ0 σ0 κ σ b x (HT + 2 * pot V S st fr) := by
  obtain ⟨n1, n2, n3, n4, n5, n6, n7, n8, n9, vr⟩ := h.num
  obtain ⟨⟨q1, q2, q3⟩, -, -, -, -, -, c12, c13, -⟩ := h.cls
  obtain ⟨-, l2, -, l4, -, l6, -⟩ := g.loc
  have l4 : j + 1 + 1 < 12000 := l4
  rw [List.length_append] at n2
  have hvo := h.1.1.2.2.1
  have h47 := h.1.1.2.1.1.2
  obtain ⟨u, hu⟩ : ∃ u : Int32, (∃ n, 1 ≤ n ∧ n ≤ V ∧ y = nI n ∧ u = nI (st n)) ∨ ((y < 1 ∨ nI V < y) ∧ u = 9) := by
    rcases vno y q2 with ⟨n, a1, a2, a3⟩ | c
    · exact ⟨nI (st n), Or.inl ⟨n, a1, a2, a3, rfl⟩⟩
    · exact ⟨9, Or.inr ⟨c, rfl⟩⟩
  refine h.pp (f' := (bd, i + 1, j + 1, pl, nv, vs, L, O ++ [u], 1, 0)) (ew := 4) (a := 22) all hx (by omega) (by decide) e69 rfl (n9.to (by omega) (by rw [List.length_append]; exact g)) (by rw [hs]; exact Nat.le_refl 1) ?_ rfl ?_ (fun κ1 vo1 vk1 => ?_)
  · show (9600 - (i + 1)) + 22000 * 1 + gws L < (9600 - i) + 22000 * s + gws L
    omega
  · exact on_state he c12 h47 q2 (fun n a1 a2 => (hvo n a1 a2).2.1.2.1) vr (by omega) (by rw [c13 13 (by omega) (by omega)]; exact e13) (by omega) hu (fun σ' ro vr' => ⟨rfl, ro, vr'⟩)
  · refine pp_state (V := V) (st := st) (by rw [(vo1.h (h := 79) (by omega) (by omega)).1]; exact q1) q2 (by rw [vo1.1.2.2.2]; exact q3) (fun n a1 a2 => ?_) vk1 (by omega) hu
    by_cases c : n = v
    · rw [c] at a1 a2 ⊢
      rw [vo1.2.2 1 (by decide) (by decide) (by decide) (by decide) (by decide)]; exact (hvo v a1 a2).2.1.1
    · rw [(vo1.h (vh c).1 (vh c).2.1).1]; exact (hvo n a1 a2).2.1.1
end STATED
