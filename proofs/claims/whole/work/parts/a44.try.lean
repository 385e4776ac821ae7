/-! TRY -/
section TRYS
variable {X : Cx} {d e : Nat} {κ0 κ κ' : Km} {σ0 σ σ' : Rm} {b V al S T LT HT sp F0 z v p x n : Nat} {st : Nat → Nat} {fr : Nat → List Frm} {pt : Nat → Nat} {ch : List Nat} {w rz : Nat → Nat} {r fs : List Frm} {f f' : Frm}
variable {bd i j nv s md i' j' s' md' t h0 : Nat} {pl : Int32} {vs : Nat → Int32} {L : List Ite} {O : List Int32} {y : Int32}
theorem gws_app : ∀ L M : List Ite, gws (L ++ M) = gws L + gws M := by
  intro L M
  induction L with
  | nil => show gws M = 0 + gws M; omega
  | cons x r ih => show gwt x + gws (r ++ M) = gwt x + gws r + gws M; rw [ih]; omega
theorem kpl_app {g : Nat} : ∀ L M : List Ite, kpl g (L ++ M) = kpl g L + kpl g M := by
  intro L M
  induction L with
  | nil => show kpl g M = 0 + kpl g M; omega
  | cons x r ih => show kp1 g x + kpl g (r ++ M) = kp1 g x + kpl g r + kpl g M; rw [ih]; omega
/-- the class's part of an act on guards -/
theorem Rn.pgc {a : Nat} {C : Km → Prop} (h : Rn κ0 σ0 κ σ b V al S LT HT sp F0 st fr pt ch w v (bd, i, j, pl, nv, vs, L, O, s, md) r) (hx : x + pot V S st fr ≤ 199000000) (hd : 1 ≤ d) (ha : 40 ≤ a ∧ a < 100) (e69 : kI κ0 69 i = nI a) (wc : ∀ κ1, Vo v κ κ1 → VK κ1 v ((bd, i + 1, j, pl, nv, vs, L, O, s, md) :: r) → ∃ ew, ew + 1 ≤ d ∧ KC' X ew MX6_passGuards [vR 79, vR (1002 + 8 * v), vI (nI a), vI (kI κ0 70 i)] κ1 (kRV C)) :
    ∀ Q : Res → Km → Prop, (∀ κ', C κ' → K X d MX6_run 2 [(0, vR 79), (1, vI (nI (x + 1)))] [] κ' Q) → K X d MX6_run 2 [(0, vR 79), (1, vI (nI x))] [] κ Q := by
  intro Q hQ
  obtain ⟨⟨c1, c2, c3⟩, c4, c5, c6, ⟨m, c7, c8, c9, -⟩, ⟨c10, c11⟩, c12, c13, c14⟩ := h.cls
  have c8 : i < m := c8
  have vk := h.2.2.1.1
  refine run_act (m := m) (V := V) (v := v) (by omega) (by omega) c1 c2 c3 c4 c14 c5 c6 vk.pc9 c7 c8 ?_
  rw [c10, c11, e69, litI 20, litI 40, lt_nI (by omega) (by omega), lt_nI (by omega) (by omega)]
  obtain ⟨ew, he, hc⟩ := wc _ (Vo.reg (by decide)) vk.pc
  refine ⟨fun z => absurd z (by omega), fun _ z => absurd z (by omega), fun _ => ⟨ew, he, hc.mono ?_⟩⟩
  rintro r' κ' ⟨rfl, q⟩
  exact ⟨rfl, hQ κ' q⟩
theorem pg_try {C : Km → Prop} (hk : VK κ v ((bd, i, j, pl, nv, vs, L, [], s, md) :: r)) (hz : tsz 0 r + (4 + nv + psz L + 0) ≤ 16000) (q : ∀ κ', Vo v κ κ' → VK κ' v ((bd, i, j', pl, nv, vs, L ++ [(1, t, h0, 0, 0)], [], s', md') :: r) → C κ') : KC' X 5 MX6_passGuards [vR 79, vR (1002 + 8 * v), vI (nI 40), vI (nI h0)] κ (kRV C) := by
  refine KC_of_K rfl (Nat.le_of_ble_eq_true rfl) rfl (k_6_passGuards_0 _ _ _ ⟨fun _ => ⟨hk.v, 4, by omega, ?_⟩, fun z => absurd z (by decide), fun z => absurd z (by decide), fun z => absurd z (by decide), fun z => absurd z (by decide), fun z => absurd (by decide) z⟩)
  exact vk_open (b' := bd) (j' := j') (s' := s') (md' := md') (t' := t) hk (by show tsz 0 r + (4 + nv + psz L + 0) ≤ 17000; omega) (fun κ' vo vk => k_6_passGuards_130 _ _ _ ⟨rfl, q κ' vo vk⟩)
theorem VR.tryG (h : VR σ n p ((bd, i, j, pl, nv, vs, L, O, s, md) :: r)) (hl : L.length < 24) (hi : i' < 20000) : VR (wI (wI (wI σ 68 p (nI (gcs r + gcn L + 1))) 69 (1500 * p + (gcs r + gcn L)) (nI t)) 70 (1500 * p + (gcs r + gcn L)) 0) n p ((bd, i', j, pl, nv, vs, L ++ [(1, t, h0, 0, 0)], O, s', md') :: r) ∧ Ro p σ (wI (wI (wI σ 68 p (nI (gcs r + gcn L + 1))) 69 (1500 * p + (gcs r + gcn L)) (nI t)) 70 (1500 * p + (gcs r + gcn L)) 0) :=
  ⟨(h.vx.tryG hl hi).1.vr (by rw [aI_ne (by decide), aI_ne (by decide), aI_ne (by decide)]; exact h.2.2.1.2.2), (h.vx.tryG (h := h0) (s' := s') (md' := md') hl hi).2⟩
theorem on_try {Q : Res → Rm → Prop} (hd : 2 ≤ d) (h77 : sI σ 77 = nI v) (hk : VR σ v p ((bd, i, j, pl, nv, vs, L, O, s, md) :: r)) (hj : j + 1 < 12000) (h13 : aI σ 13 j = 28) (h14 : aI σ 14 j = nI t) (hl : L.length < 24) (hi : i' < 20000) (q : ∀ σ', Ro p σ σ' → VR σ' v p ((bd, i', j + 1, pl, nv, vs, L ++ [(1, t, h0, 0, 0)], O, s', md') :: r) → Q (.inl none) σ') : A X 92 d MX13_goesOn 0 [(0, vR 92)] [] σ Q := by
  have hh := hk
  obtain ⟨⟨h1, h2, h3, h4⟩, h5, h6, h7, h8⟩ := hh
  have h4 : r.length + 1 ≤ 60 := h4
  obtain ⟨va, ra⟩ := hk.act (i' := i') (j' := j + 1) (s' := s) (md' := md) hi hj
  have hbd := va.bd.1
  have e58 := va.2.1
  have e68 := va.2.2.1.2.1
  have e68 : aI (wI σ 62 (60 * p + r.length) (nI (j + 1))) 68 p = nI (gcs r + gcn L) := e68
  have hbd : gcs r + gcn L ≤ 1440 := hbd
  refine on_act (op := 28) (by omega) h77 hk.vx (by omega) h13 (by omega) ?_
  refine a_goesOn_124 _ _ _ _ _ _ ⟨fun z => absurd z (by decide), fun z => absurd z (by decide), fun z => absurd z (by decide), fun z => absurd z (by decide), fun z => absurd z (by decide), fun z => absurd z (by decide), fun z => absurd z (by decide), fun z => absurd z (by decide), fun z => absurd z (by decide), fun z => absurd z (by decide), fun z => absurd z (by decide), fun z => absurd z (by decide), fun z => absurd z (by decide), fun z => absurd z (by decide), fun _ => ⟨1, hd, AC_of_A rfl (Nat.le_of_ble_eq_true rfl) rfl (a_controls_0 _ _ _ _ _ ?_)⟩⟩
  rw [vpn (a := v) (by omega)]
  refine ⟨by omega, fun z => absurd z (by decide), fun z => absurd z (by decide), fun z => absurd z (by decide), fun z => absurd z (by decide), fun z => absurd z (by decide), fun z => absurd z (by decide), fun z => absurd z (by decide), fun _ => ?_, fun z => absurd z (by decide), fun z => absurd z (by decide), fun z => absurd z (by decide), fun z => absurd (by decide) z⟩
  rw [cl_nI (show v < 2147483648 by omega), e58, vpn (by omega), cl_nI (by omega), e68, nI_1, litI 1500, pk_mul, nI_add, vpn (by omega), cl_nI (by omega), h14]
  refine ⟨h1, h1, h1, ?_⟩
  rintro s66 rfl
  refine ⟨by omega, ?_⟩
  rintro s68 rfl
  refine ⟨by omega, ?_⟩
  rintro s70 rfl
  obtain ⟨v4, r4⟩ := va.tryG (t := t) (h0 := h0) (i' := i') (s' := s') (md' := md') hl hi
  exact a_controls_449 _ _ _ _ _ _ ⟨rfl, a_goesOn_499 _ _ _ _ _ _ (q _ (ra.trans r4) v4)⟩
theorem lc_try (h : Rn κ0 σ0 κ σ b V al S LT HT sp F0 st fr pt ch w v (bd, i, j, pl, nv, vs, L, [], s, md) r) (all : AllOK X d (e + 1) κ0 σ0 b (pot V S st fr)) (hx : x + pot V S st fr ≤ 199000000) (hd : 7 ≤ d) (he : 2 ≤ e) (hs : s = 1) (e69 : kI κ0 69 i = 40) (e13 : aI σ0 13 j = 28) (e14 : aI σ0 14 j = nI t) (e70 : kI κ0 70 i = nI h0) (g : Good2 κ0 σ0 (fun _ => False) (bd, i + 1, j + 1, L.map itm ++ [(1, t, h0, 0)], 0, 0)) : RunOK X d (e + 1) κ0 σ0 κ σ b x (HT + 2 * pot V S st fr) := by
  obtain ⟨n1, n2, n3, n4, n5, n6, n7, n8, n9, vr⟩ := h.num
  obtain ⟨-, -, -, -, -, -, c12, c13, c14⟩ := h.cls
  obtain ⟨-, l2, -, l4, l5, l6, -⟩ := g.loc
  have l4 : j + 1 + 1 < 12000 := l4
  have l5 : (L.map itm ++ [(1, t, h0, 0)]).length ≤ 24 := l5
  rw [List.length_append, List.length_map] at l5
  have l5 : L.length + 1 ≤ 24 := l5
  have n2 : tsz 0 r + (4 + nv + psz L + 0) ≤ 15720 := n2
  have fo : FrO κ0 σ0 F0 b (bd, i + 1, j + 1, pl, nv, vs, L ++ [(1, t, h0, 0, 0)], [], 0, 0) := by
    refine ⟨n9.1, n9.2.1, by show 0 ≤ 1; omega, fun x hx => ?_, Or.inl ⟨rfl, ?_⟩⟩
    · rcases List.mem_append.mp hx with hx | hx
      · exact n9.2.2.2.1 x hx
      · rw [List.mem_singleton.mp hx]
        exact Or.inr ⟨rfl, Nat.zero_le _, fun z => by
          have z : (0 : Nat) = 1 ∨ (0 : Nat) = 3 := z
          omega⟩
    · show Good2 κ0 σ0 (fun _ => False) (bd, i + 1, j + 1, (L ++ [(1, t, h0, 0, 0)]).map itm, 0, 0)
      rw [List.map_append]
      exact g
  refine rn_step (C := fun κ' => Vo v κ κ' ∧ VK κ' v ((bd, i + 1, j + 1, pl, nv, vs, L ++ [(1, t, h0, 0, 0)], [], 0, 0) :: r)) (D := fun σ' => Ro (pt v) σ σ' ∧ VR σ' v (pt v) ((bd, i + 1, j + 1, pl, nv, vs, L ++ [(1, t, h0, 0, 0)], [], 0, 0) :: r)) all hx
    (ref_ex c12 (by omega) (on_try he c12 vr (by omega) (by rw [c13 13 (by omega) (by omega)]; exact e13) (by rw [c13 14 (by omega) (by omega)]; exact e14) (by omega) (by omega) (fun σ' ro vr' => ⟨rfl, ro, vr'⟩)))
    (h.pgc hx (by omega) (by decide) e69 (fun κ1 vo1 vk1 => ⟨5, by omega, by rw [e70]; exact pg_try vk1 (by omega) (fun κ' vo2 vk2 => ⟨vo1.trans vo2, vk2⟩)⟩)) ?_
  rintro κ' σ' ⟨vo, vk⟩ ⟨ro, v2⟩
  obtain ⟨h2, hp⟩ := h.loc (f' := (bd, i + 1, j + 1, pl, nv, vs, L ++ [(1, t, h0, 0, 0)], [], 0, 0)) vo ro vk v2 rfl fo (Nat.zero_le _) (by
    show (9600 - (i + 1)) + 22000 * 0 + gws (L ++ [(1, t, h0, 0, 0)]) < (9600 - i) + 22000 * s + gws L
    rw [gws_app]
    show (9600 - (i + 1)) + 22000 * 0 + (gws L + (20500 + 0)) < (9600 - i) + 22000 * s + gws L
    omega) (fun g => by
    show kpl g (L ++ [(1, t, h0, 0, 0)]) = kpl g L
    rw [kpl_app]
    have e : kp1 g (1, t, h0, 0, 0) = 0 := if_neg (fun z => by
      have z2 : (0 : Nat) = 3 := z.2.1
      omega)
    show kpl g L + (kp1 g (1, t, h0, 0, 0) + 0) = kpl g L
    rw [e]
    omega) (fun y hy y1 y2 => by
    have hy : y ∈ L ++ [(1, t, h0, 0, 0)] := hy
    rcases List.mem_append.mp hy with hy | hy
    · exact hy
    · rw [List.mem_singleton.mp hy] at y2
      have y2 : (0 : Nat) = 1 := y2
      omega)
  exact ⟨_, _, _, _, _, _, _, _, _, _, _, _, _, _, _, h2, hp, by omega⟩
end TRYS
