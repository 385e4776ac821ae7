/-! two operands become one, in both -/
section DUO
variable {X : Cx} {d : Nat} {κ κ' : Km} {σ σ' : Rm} {n b i j nv s md i' j' s' md' v p k : Nat} {x y : Int32} {pl : Int32} {vs : Nat → Int32} {L : List Ite} {O : List Int32} {r : List Frm}
def rk (k : Nat) (x y : Int32) : Int32 := if k = 0 then x + y else if k = 1 then x - y else if k = 2 then x * y else if k = 3 then x / y else if k = 4 then x - x / y * y else if k = 5 then (if y ≤ x then 0 else 1) else if x = y then 1 else 0
theorem kc_combine {F : Int32 → Km → Prop} (hk7 : k < 7) (hk : VK κ n ((b, i, j, pl, nv, vs, L, O ++ [x] ++ [y], s, md) :: r)) (hz : tsz 0 r + (4 + nv + psz L + O.length) ≤ 16000) (q1 : ¬ ((k = 3 ∨ k = 4) ∧ y = 0) → ∀ κ', Vo n κ κ' → VK κ' n ((b, i, j', pl, nv, vs, L, O ++ [rk k x y], s', md') :: r) → F 1 κ') (q0 : (k = 3 ∨ k = 4) ∧ y = 0 → ∀ κ', Vo n κ κ' → VK κ' n ((b, i, j', pl, nv, vs, L, O, s', md') :: r) → F 0 κ') : KC' X 4 MX10_combine [vR (1002 + 8 * n), vI (nI (8 + k))] κ (kRI F) := by
  have ps : ∀ (κ1 : Km) (z : Int32), Vo n κ κ1 → VK κ1 n ((b, i, j, pl, nv, vs, L, O, s, md) :: r) → (∀ κ', Vo n κ κ' → VK κ' n ((b, i, j', pl, nv, vs, L, O ++ [z], s', md') :: r) → F 1 κ') → KC' X 3 MX10_push [vR (1002 + 8 * n), vI z] κ1 (kRV fun κ2 => kRI F (.inl (some (vI 1))) κ2) := fun κ1 z vo1 vk1 q => vk_push vk1 (by show tsz 0 r + (4 + nv + psz L + O.length) ≤ 17000; omega) (fun κ' vo vk => ⟨_, rfl, q κ' (vo1.trans vo) vk⟩)
  refine KC_of_K rfl (Nat.le_of_ble_eq_true rfl) rfl (k_10_combine_0 _ _ ⟨hk.v, 0, by omega, ?_⟩)
  refine vk_pop (b' := b) (j' := j) (s' := s) (md' := md) hk (fun κ1 vo1 vk1 => ⟨0, by omega, ?_⟩)
  refine vk_pop (b' := b) (j' := j) (s' := s) (md' := md) vk1 (fun κ2 vo2 vk2 => ?_)
  have vo := vo1.trans vo2
  have hkk : k = 0 ∨ k = 1 ∨ k = 2 ∨ k = 3 ∨ k = 4 ∨ k = 5 ∨ k = 6 := by omega
  rcases hkk with rfl | rfl | rfl | rfl | rfl | rfl | rfl
  · exact ⟨fun _ => ⟨3, by omega, ps _ _ vo vk2 (q1 (by omega))⟩, fun z => absurd z (by decide), fun z => absurd z (by decide), fun z => absurd z (by decide), fun z => absurd z (by decide), fun z => absurd (by decide) z⟩
  · exact ⟨fun z => absurd z (by decide), fun _ => ⟨3, by omega, ps _ _ vo vk2 (q1 (by omega))⟩, fun z => absurd z (by decide), fun z => absurd z (by decide), fun z => absurd z (by decide), fun z => absurd (by decide) z⟩
  · exact ⟨fun z => absurd z (by decide), fun z => absurd z (by decide), fun _ => ⟨3, by omega, ps _ _ vo vk2 (q1 (by omega))⟩, fun z => absurd z (by decide), fun z => absurd z (by decide), fun z => absurd (by decide) z⟩
  · refine ⟨fun z => absurd z (by decide), fun z => absurd z (by decide), fun z => absurd z (by decide), fun z => absurd z (by decide), fun z => absurd z (by decide), fun _ => ⟨fun z => ⟨_, rfl, q0 ⟨by omega, z⟩ _ vo vk2⟩, fun z => ⟨fun _ => ⟨z, k_10_combine_133 _ _ _ _ _ _ ⟨vk2.v, vk2.v, 3, by omega, ps _ _ vo vk2 (q1 (fun w => z w.2))⟩⟩, fun w => absurd (by decide) w⟩⟩⟩
  · refine ⟨fun z => absurd z (by decide), fun z => absurd z (by decide), fun z => absurd z (by decide), fun z => absurd z (by decide), fun z => absurd z (by decide), fun _ => ⟨fun z => ⟨_, rfl, q0 ⟨by omega, z⟩ _ vo vk2⟩, fun z => ⟨fun w => absurd w (by decide), fun _ => ⟨z, k_10_combine_133 _ _ _ _ _ _ ⟨vk2.v, vk2.v, 3, by omega, ps _ _ vo vk2 (q1 (fun w => z w.2))⟩⟩⟩⟩⟩
  · refine ⟨fun z => absurd z (by decide), fun z => absurd z (by decide), fun z => absurd z (by decide), fun _ => ⟨fun z => ?_, fun z => ?_⟩, fun z => absurd z (by decide), fun z => absurd (by decide) z⟩
    · refine k_10_combine_90 _ _ _ _ _ _ ⟨vk2.v, vk2.v, 3, by omega, ps _ _ vo vk2 ?_⟩
      have e : rk 5 x y = 0 := if_pos z
      have q := q1 (by omega)
      rw [e] at q
      exact q
    · refine k_10_combine_90 _ _ _ _ _ _ ⟨vk2.v, vk2.v, 3, by omega, ps _ _ vo vk2 ?_⟩
      have e : rk 5 x y = 1 := if_neg z
      have q := q1 (by omega)
      rw [e] at q
      exact q
  · refine ⟨fun z => absurd z (by decide), fun z => absurd z (by decide), fun z => absurd z (by decide), fun z => absurd z (by decide), fun _ => ⟨fun z => ?_, fun z => ?_⟩, fun z => absurd (by decide) z⟩
    · refine k_10_combine_106 _ _ _ _ _ _ ⟨vk2.v, vk2.v, 3, by omega, ps _ _ vo vk2 ?_⟩
      have e : rk 6 x y = 1 := if_pos z
      have q := q1 (by omega)
      rw [e] at q
      exact q
    · refine k_10_combine_106 _ _ _ _ _ _ ⟨vk2.v, vk2.v, 3, by omega, ps _ _ vo vk2 ?_⟩
      have e : rk 6 x y = 0 := if_neg z
      have q := q1 (by omega)
      rw [e] at q
      exact q
theorem wk_duo {F : Int32 → Km → Prop} {z : Int32} (hk7 : k < 7) (hk : VK κ n ((b, i, j, pl, nv, vs, L, O ++ [x] ++ [y], s, md) :: r)) (hz : tsz 0 r + (4 + nv + psz L + O.length) ≤ 16000) (q1 : ¬ ((k = 3 ∨ k = 4) ∧ y = 0) → ∀ κ', Vo n κ κ' → VK κ' n ((b, i, j', pl, nv, vs, L, O ++ [rk k x y], s', md') :: r) → F 1 κ') (q0 : (k = 3 ∨ k = 4) ∧ y = 0 → ∀ κ', Vo n κ κ' → VK κ' n ((b, i, j', pl, nv, vs, L, O, s', md') :: r) → F 0 κ') : KC' X 5 MX10_work [vR (1002 + 8 * n), vI (nI (8 + k)), vI z] κ (kRI F) := by
  have h : ∀ a, a < 8 ∨ 14 < a → nI (8 + k) ≠ nI a ∨ 2147483648 ≤ a := fun a ha => by
    by_cases c : 2147483648 ≤ a
    · exact Or.inr c
    · exact Or.inl (nI_ne (by omega) (by omega) (by omega))
  have h1 : ∀ a, a < 8 ∨ (14 < a ∧ a < 100) → nI (8 + k) ≠ nI a := fun a ha => nI_ne (by omega) (by omega) (by omega)
  refine KC_of_K rfl (Nat.le_of_ble_eq_true rfl) rfl (k_10_work_0 _ _ _ ⟨fun z => absurd z (h1 1 (by decide)), fun z => absurd z (h1 2 (by decide)), fun z => absurd z (h1 3 (by decide)), fun z => absurd z (h1 4 (by decide)), fun z => absurd z (h1 5 (by decide)), fun z => absurd z (h1 6 (by decide)), fun z => absurd z (h1 7 (by decide)), fun z => absurd z (h1 15 (by decide)), fun z => absurd z (h1 16 (by decide)), fun _ => ⟨hk.v, 4, by omega, ?_⟩⟩)
  exact kc_combine hk7 hk hz (fun c κ' vo vk => ⟨Or.inr rfl, _, rfl, q1 c κ' vo vk⟩) (fun c κ' vo vk => ⟨Or.inl rfl, _, rfl, q0 c κ' vo vk⟩)
theorem VR.act (h : VR σ n p ((b, i, j, pl, nv, vs, L, O, s, md) :: r)) (hi : i' < 20000) (hj : j' < 12000) : VR (wI σ 62 (60 * p + r.length) (nI j')) n p ((b, i', j', pl, nv, vs, L, O, s', md') :: r) ∧ Ro p σ (wI σ 62 (60 * p + r.length) (nI j')) :=
  ⟨(h.vx.act hi hj).1.vr (by rw [aI_ne (by decide)]; exact h.2.2.1.2.2), (h.vx.act (s' := s') (md' := md') hi hj).2⟩
theorem ac_reckon {F : Int32 → Rm → Prop} (hk7 : k < 7) (h0 : ¬ ((k = 3 ∨ k = 4) ∧ y = 0)) (q : F (rk k x y) σ) : AC X 92 0 MX13_reckon [vR 92, vI (nI (4 + k)), vI x, vI y] σ (aRI F) := by
  refine AC_of_A rfl (Nat.le_of_ble_eq_true rfl) rfl (a_reckon_0 _ _ _ ?_)
  have hkk : k = 0 ∨ k = 1 ∨ k = 2 ∨ k = 3 ∨ k = 4 ∨ k = 5 ∨ k = 6 := by omega
  rcases hkk with rfl | rfl | rfl | rfl | rfl | rfl | rfl
  · exact ⟨fun _ => ⟨_, rfl, q⟩, fun z => absurd z (by decide), fun z => absurd z (by decide), fun z => absurd z (by decide), fun z => absurd z (by decide), fun z => absurd z (by decide), fun z => absurd (by decide) z⟩
  · exact ⟨fun z => absurd z (by decide), fun _ => ⟨_, rfl, q⟩, fun z => absurd z (by decide), fun z => absurd z (by decide), fun z => absurd z (by decide), fun z => absurd z (by decide), fun z => absurd (by decide) z⟩
  · exact ⟨fun z => absurd z (by decide), fun z => absurd z (by decide), fun _ => ⟨_, rfl, q⟩, fun z => absurd z (by decide), fun z => absurd z (by decide), fun z => absurd z (by decide), fun z => absurd (by decide) z⟩
  · exact ⟨fun z => absurd z (by decide), fun z => absurd z (by decide), fun z => absurd z (by decide), fun _ => ⟨fun z => h0 ⟨by omega, z⟩, _, rfl, q⟩, fun z => absurd z (by decide), fun z => absurd z (by decide), fun z => absurd (by decide) z⟩
  · exact ⟨fun z => absurd z (by decide), fun z => absurd z (by decide), fun z => absurd z (by decide), fun z => absurd z (by decide), fun _ => ⟨fun z => h0 ⟨by omega, z⟩, _, rfl, q⟩, fun z => absurd z (by decide), fun z => absurd (by decide) z⟩
  · refine ⟨fun z => absurd z (by decide), fun z => absurd z (by decide), fun z => absurd z (by decide), fun z => absurd z (by decide), fun z => absurd z (by decide), fun _ => ⟨fun z => a_reckon_70 _ _ _ _ ⟨_, rfl, ?_⟩, fun z => a_reckon_70 _ _ _ _ ⟨_, rfl, ?_⟩⟩, fun z => absurd (by decide) z⟩
    · have e : rk 5 x y = 0 := if_pos z
      rw [e] at q; exact q
    · have e : rk 5 x y = 1 := if_neg z
      rw [e] at q; exact q
  · refine ⟨fun z => absurd z (by decide), fun z => absurd z (by decide), fun z => absurd z (by decide), fun z => absurd z (by decide), fun z => absurd z (by decide), fun z => absurd z (by decide), fun _ => ⟨fun z => a_reckon_81 _ _ _ _ ⟨_, rfl, ?_⟩, fun z => a_reckon_81 _ _ _ _ ⟨_, rfl, ?_⟩⟩⟩
    · have e : rk 6 x y = 1 := if_pos z
      rw [e] at q; exact q
    · have e : rk 6 x y = 0 := if_neg z
      rw [e] at q; exact q
theorem on_duo {Q : Res → Rm → Prop} (hd : 1 ≤ d) (hk7 : k < 7) (h77 : sI σ 77 = nI v) (hk : VR σ v p ((b, i, j, pl, nv, vs, L, O ++ [x] ++ [y], s, md) :: r)) (hj : j + 1 < 12000) (h13 : aI σ 13 j = nI (4 + k)) (hi : i' < 20000)
    (q1 : ¬ ((k = 3 ∨ k = 4) ∧ y = 0) → ∀ σ', Ro p σ σ' → VR σ' v p ((b, i', j + 1, pl, nv, vs, L, O ++ [rk k x y], s', md') :: r) → Q (.inl none) σ') (q0 : (k = 3 ∨ k = 4) ∧ y = 0 → ∀ σ', Ro p σ σ' → VR σ' v p ((b, i', j + 1, pl, nv, vs, L, O, s', md') :: r) → ∃ e, e + 1 ≤ d ∧ AC X 92 e MX13_arises [vR 92, vI (nI v), vI 11] σ' (aRV fun s => Q (.inl none) s)) : A X 92 d MX13_goesOn 0 [(0, vR 92)] [] σ Q := by
  have hh := hk
  obtain ⟨⟨h1, h2, h3, h4⟩, h5, h6, h7, h8⟩ := hh
  have h4 : r.length + 1 ≤ 60 := h4
  have ho : (O ++ [x] ++ [y]).length ≤ 150 := h8.1.2.2.1
  rw [List.length_append, List.length_append] at ho
  have ho : O.length + 1 + 1 ≤ 150 := ho
  have e62 : aI σ 62 (60 * p + r.length) = nI j := h8.2.1.2.1
  refine a_goesOn_0 ⟨0, hd, ?_⟩
  rw [h77]
  refine ac_call hk.vx ?_
  rw [vpn (by omega), cl_nI (by omega), e62, vpn (by omega), cl_nI (by omega), nI_1]
  refine ⟨by omega, by omega, by omega, by omega, by omega, ?_⟩
  rintro s11 rfl
  obtain ⟨va, ra⟩ := hk.act (i' := i') (j' := j + 1) (s' := s) (md' := md) hi hj
  rw [aI_ne (by decide), h13, litI 4, litI 10, lt_nI (by omega) (by omega), lt_nI (by omega) (by omega)]
  refine ⟨by omega, fun z => absurd z (by omega), fun _ => ⟨fun z => absurd z (by omega), fun _ => ⟨0, hd, ?_⟩⟩⟩
  refine ac_pop (i' := i') (s' := s) (md' := md) va hi (fun σ1 r1 v1 => ⟨0, hd, ?_⟩)
  refine ac_pop (i' := i') (s' := s') (md' := md') v1 hi (fun σ2 r2 v2 => ?_)
  have rr := (ra.trans r1).trans r2
  have step : ¬ ((k = 3 ∨ k = 4) ∧ y = 0) → A X 92 d MX13_goesOn 108 [(0, vR 92), (1, vI (nI v)), (2, vI (nI (60 * p + r.length))), (3, vI (nI j)), (4, vI (aI σ 14 j)), (5, vI (aI σ 15 j)), (6, vI (nI (4 + k))), (7, vI y), (8, vI x)] [] σ2 Q := fun c => by
    refine a_goesOn_108 _ _ _ _ _ _ _ _ ⟨0, hd, ac_reckon hk7 c ⟨0, hd, ?_⟩⟩
    refine ac_push (s' := s') (md' := md') v2 (by omega) hi (fun σ3 r3 v3 => ?_)
    exact a_goesOn_123 _ _ _ _ _ _ _ _ (q1 c σ3 (rr.trans r3) v3)
  have fail : (k = 3 ∨ k = 4) → A X 92 d MX13_goesOn 93 [(0, vR 92), (1, vI (nI v)), (2, vI (nI (60 * p + r.length))), (3, vI (nI j)), (4, vI (aI σ 14 j)), (5, vI (aI σ 15 j)), (6, vI (nI (4 + k))), (7, vI y), (8, vI x)] [] σ2 Q := fun c => by
    refine a_goesOn_93 _ _ _ _ _ _ _ _ ⟨fun z => ?_, fun z => step (fun w => z w.2)⟩
    obtain ⟨e, he, ha⟩ := q0 ⟨c, z⟩ σ2 rr v2
    refine ⟨e, he, ha.mono ?_⟩
    rintro r0 s0 ⟨rfl, h⟩
    exact ⟨rfl, a_goesOn_123 _ _ _ _ _ _ _ _ h⟩
  rw [litI 7, litI 8, eq_nI (by omega) (by omega), eq_nI (by omega) (by omega)]
  exact ⟨fun z => fail (by omega), fun z => ⟨fun w => fail (by omega), fun w => step (by omega)⟩⟩
end DUO
