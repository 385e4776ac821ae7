/-! the class: acts that work on operands and variables alone -/
section WORK
variable {X : Cx} {κ κ' : Km} {n b i j nv s md j' s' md' v : Nat} {x y : Int32} {pl : Int32} {vs : Nat → Int32} {L : List Ite} {O : List Int32} {r : List Frm} {F : Int32 → Km → Prop}
/-- an operand is taken, the base stays -/
theorem vk_popb {B : Int32} (hB : kI κ (1002 + 8 * n) 14 = B) (h : VK κ n ((b, i, j, pl, nv, vs, L, O ++ [x], s, md) :: r)) (q : ∀ κ', kI κ' (1002 + 8 * n) 14 = B → Vo n κ κ' → VK κ' n ((b, i, j', pl, nv, vs, L, O, s', md') :: r) → F x κ') : KC' X 0 MX10_pop [vR (1002 + 8 * n)] κ (kRI F) := by
  obtain ⟨c, o, h1, ⟨h2, g1, g2, g3, g4⟩, h3⟩ := h
  have ez : tsz o ((b, i, j, pl, nv, vs, L, O ++ [x], s, md) :: r) = tsz o ((b, i, j', pl, nv, vs, L, O, s', md') :: r) + 1 := by
    show tsz o r + (4 + nv + psz L + (O ++ [x]).length) = tsz o r + (4 + nv + psz L + O.length) + 1
    rw [List.length_append]
    simp
    omega
  rw [ez] at h3
  refine kc_vpop h3 (fun κ' vo v => ?_)
  have ex : c (tsz o ((b, i, j', pl, nv, vs, L, O, s', md') :: r)) = x := by
    have e := g4 O.length (by show O.length < (O ++ [x]).length; rw [List.length_append]; simp)
    have e : c (tsz o r + 4 + nv + psz L + O.length) = (O ++ [x]).getD O.length 0 := e
    rw [getD_app2] at e
    rw [show tsz o ((b, i, j', pl, nv, vs, L, O, s', md') :: r) = tsz o r + 4 + nv + psz L + O.length by
      show tsz o r + (4 + nv + psz L + O.length) = _
      omega]
    exact e
  rw [ex]
  refine q κ' (v.2.1.2.1.trans (h3.2.1.2.1.symm.trans hB)) vo ⟨c, o, h1, ⟨h2, g1, g2, g3, fun k hk => ?_⟩, v⟩
  have hk : k < O.length := hk
  have e := g4 k (by show k < (O ++ [x]).length; rw [List.length_append]; simp; omega)
  have e : c (tsz o r + 4 + nv + psz L + k) = (O ++ [x]).getD k 0 := e
  rw [getD_app1 hk] at e
  exact e
theorem wk_const (hk : VK κ n ((b, i, j, pl, nv, vs, L, O, s, md) :: r)) (hz : tsz 0 r + (4 + nv + psz L + O.length) ≤ 16000) (q : ∀ κ', Vo n κ κ' → VK κ' n ((b, i, j', pl, nv, vs, L, O ++ [x], s', md') :: r) → F 1 κ') : KC' X 4 MX10_work [vR (1002 + 8 * n), vI 1, vI x] κ (kRI F) := by
  refine KC_of_K rfl (Nat.le_of_ble_eq_true rfl) rfl (k_10_work_0 _ _ _ ⟨fun _ => ⟨hk.v, 3, by omega, ?_⟩, fun z => absurd z (by decide), fun z => absurd z (by decide), fun z => absurd z (by decide), fun z => absurd z (by decide), fun z => absurd z (by decide), fun z => absurd z (by decide), fun z => absurd z (by decide), fun z => absurd z (by decide), fun z => absurd (Or.inl rfl) z⟩)
  exact vk_push hk (by show tsz 0 r + (4 + nv + psz L + O.length) ≤ 17000; omega) (fun κ' vo vk => ⟨_, rfl, q κ' vo vk⟩)
theorem wk_load (hk : VK κ n ((b, i, j, pl, nv, vs, L, O, s, md) :: r)) (hz : tsz 0 r + (4 + nv + psz L + O.length) ≤ 16000) (hv : v < nv) (q : ∀ κ', Vo n κ κ' → VK κ' n ((b, i, j', pl, nv, vs, L, O ++ [vs v], s', md') :: r) → F 1 κ') : KC' X 4 MX10_work [vR (1002 + 8 * n), vI 2, vI (nI v)] κ (kRI F) := by
  obtain ⟨o, ho, hb⟩ := hk.base
  refine KC_of_K rfl (Nat.le_of_ble_eq_true rfl) rfl (k_10_work_0 _ _ _ ⟨fun z => absurd z (by decide), fun _ => ⟨hk.v, 1, by omega, ?_⟩, fun z => absurd z (by decide), fun z => absurd z (by decide), fun z => absurd z (by decide), fun z => absurd z (by decide), fun z => absurd z (by decide), fun z => absurd z (by decide), fun z => absurd z (by decide), fun z => absurd (Or.inr (Or.inl rfl)) z⟩)
  rw [hb]
  refine vk_var hk hb ho (by show tsz 0 r + (4 + nv + psz L + O.length) ≤ 17000; omega) hv ⟨3, by omega, ?_⟩
  exact vk_push hk (by show tsz 0 r + (4 + nv + psz L + O.length) ≤ 17000; omega) (fun κ' vo vk => ⟨_, rfl, q κ' vo vk⟩)
theorem wk_store (hk : VK κ n ((b, i, j, pl, nv, vs, L, O ++ [x], s, md) :: r)) (hz : tsz 0 r + (4 + nv + psz L + O.length) ≤ 16000) (hv : v < nv) (q : ∀ κ', Vo n κ κ' → VK κ' n ((b, i, j', pl, nv, ud vs v x, L, O, s', md') :: r) → F 1 κ') : KC' X 4 MX10_work [vR (1002 + 8 * n), vI 3, vI (nI v)] κ (kRI F) := by
  obtain ⟨o, ho, hb⟩ := hk.base
  refine KC_of_K rfl (Nat.le_of_ble_eq_true rfl) rfl (k_10_work_0 _ _ _ ⟨fun z => absurd z (by decide), fun z => absurd z (by decide), fun _ => ⟨hk.v, 0, by omega, ?_⟩, fun z => absurd z (by decide), fun z => absurd z (by decide), fun z => absurd z (by decide), fun z => absurd z (by decide), fun z => absurd z (by decide), fun z => absurd z (by decide), fun z => absurd (Or.inr (Or.inr (Or.inl rfl))) z⟩)
  rw [hb]
  refine vk_popb hb (j' := j) (s' := s) (md' := md) hk (fun κ1 e1 vo1 vk1 => ⟨0, by omega, ?_⟩)
  rw [litI 4, nI_add, nI_add]
  exact vk_putv vk1 e1 ho (by show tsz 0 r + (4 + nv + psz L + O.length) ≤ 17000; omega) hv (fun κ' vo vk => ⟨_, rfl, q κ' (vo1.trans vo) vk⟩)
theorem wk_pop (hk : VK κ n ((b, i, j, pl, nv, vs, L, O ++ [x], s, md) :: r)) (q : ∀ κ', Vo n κ κ' → VK κ' n ((b, i, j', pl, nv, vs, L, O, s', md') :: r) → F 1 κ') : KC' X 4 MX10_work [vR (1002 + 8 * n), vI 4, vI y] κ (kRI F) := by
  refine KC_of_K rfl (Nat.le_of_ble_eq_true rfl) rfl (k_10_work_0 _ _ _ ⟨fun z => absurd z (by decide), fun z => absurd z (by decide), fun z => absurd z (by decide), fun _ => ⟨hk.v, 0, by omega, ?_⟩, fun z => absurd z (by decide), fun z => absurd z (by decide), fun z => absurd z (by decide), fun z => absurd z (by decide), fun z => absurd z (by decide), fun z => absurd (by decide) z⟩)
  exact vk_pop hk (fun κ' vo vk => ⟨_, rfl, q κ' vo vk⟩)
theorem wk_me (hk : VK κ n ((b, i, j, pl, nv, vs, L, O, s, md) :: r)) (h0 : kI κ (1002 + 8 * n) 0 = nI n) (hz : tsz 0 r + (4 + nv + psz L + O.length) ≤ 16000) (q : ∀ κ', Vo n κ κ' → VK κ' n ((b, i, j', pl, nv, vs, L, O ++ [nI n], s', md') :: r) → F 1 κ') : KC' X 4 MX10_work [vR (1002 + 8 * n), vI 5, vI y] κ (kRI F) := by
  refine KC_of_K rfl (Nat.le_of_ble_eq_true rfl) rfl (k_10_work_0 _ _ _ ⟨fun z => absurd z (by decide), fun z => absurd z (by decide), fun z => absurd z (by decide), fun z => absurd z (by decide), fun _ => ⟨hk.v, 3, by omega, ?_⟩, fun z => absurd z (by decide), fun z => absurd z (by decide), fun z => absurd z (by decide), fun z => absurd z (by decide), fun z => absurd (by decide) z⟩)
  rw [h0]
  exact vk_push hk (by show tsz 0 r + (4 + nv + psz L + O.length) ≤ 17000; omega) (fun κ' vo vk => ⟨_, rfl, q κ' vo vk⟩)
theorem wk_neg (hk : VK κ n ((b, i, j, pl, nv, vs, L, O ++ [x], s, md) :: r)) (hz : tsz 0 r + (4 + nv + psz L + O.length) ≤ 16000) (q : ∀ κ', Vo n κ κ' → VK κ' n ((b, i, j', pl, nv, vs, L, O ++ [-x], s', md') :: r) → F 1 κ') : KC' X 4 MX10_work [vR (1002 + 8 * n), vI 6, vI y] κ (kRI F) := by
  refine KC_of_K rfl (Nat.le_of_ble_eq_true rfl) rfl (k_10_work_0 _ _ _ ⟨fun z => absurd z (by decide), fun z => absurd z (by decide), fun z => absurd z (by decide), fun z => absurd z (by decide), fun z => absurd z (by decide), fun _ => ⟨hk.v, 0, by omega, ?_⟩, fun z => absurd z (by decide), fun z => absurd z (by decide), fun z => absurd z (by decide), fun z => absurd (by decide) z⟩)
  refine vk_pop (b' := b) (j' := j) (s' := s) (md' := md) hk (fun κ1 vo1 vk1 => ⟨3, by omega, ?_⟩)
  exact vk_push vk1 (by show tsz 0 r + (4 + nv + psz L + O.length) ≤ 17000; omega) (fun κ' vo vk => ⟨_, rfl, q κ' (vo1.trans vo) vk⟩)
theorem wk_not (hk : VK κ n ((b, i, j, pl, nv, vs, L, O ++ [x], s, md) :: r)) (hz : tsz 0 r + (4 + nv + psz L + O.length) ≤ 16000) (q : ∀ κ', Vo n κ κ' → VK κ' n ((b, i, j', pl, nv, vs, L, O ++ [if x = 0 then 1 else 0], s', md') :: r) → F 1 κ') : KC' X 4 MX10_work [vR (1002 + 8 * n), vI 7, vI y] κ (kRI F) := by
  refine KC_of_K rfl (Nat.le_of_ble_eq_true rfl) rfl (k_10_work_0 _ _ _ ⟨fun z => absurd z (by decide), fun z => absurd z (by decide), fun z => absurd z (by decide), fun z => absurd z (by decide), fun z => absurd z (by decide), fun z => absurd z (by decide), fun _ => ⟨hk.v, 0, by omega, ?_⟩, fun z => absurd z (by decide), fun z => absurd z (by decide), fun z => absurd (by decide) z⟩)
  refine vk_pop (b' := b) (j' := j) (s' := s) (md' := md) hk (fun κ1 vo1 vk1 => ⟨fun z => ?_, fun z => ?_⟩)
  · refine k_10_work_161 _ _ _ _ _ ⟨vk1.v, vk1.v, 3, by omega, ?_⟩
    exact vk_push vk1 (by show tsz 0 r + (4 + nv + psz L + O.length) ≤ 17000; omega) (fun κ' vo vk => ⟨_, rfl, q κ' (vo1.trans vo) (by rw [if_pos z]; exact vk)⟩)
  · refine k_10_work_161 _ _ _ _ _ ⟨vk1.v, vk1.v, 3, by omega, ?_⟩
    exact vk_push vk1 (by show tsz 0 r + (4 + nv + psz L + O.length) ≤ 17000; omega) (fun κ' vo vk => ⟨_, rfl, q κ' (vo1.trans vo) (by rw [if_neg z]; exact vk)⟩)
theorem wk_jump {i2 : Nat} (hk : VK κ n ((b, i, j, pl, nv, vs, L, O, s, md) :: r)) (q : ∀ κ', Vo n κ κ' → VK κ' n ((b, i2, j', pl, nv, vs, L, O, s', md') :: r) → F 1 κ') : KC' X 4 MX10_work [vR (1002 + 8 * n), vI 15, vI (nI i2)] κ (kRI F) := by
  refine KC_of_K rfl (Nat.le_of_ble_eq_true rfl) rfl (k_10_work_0 _ _ _ ⟨fun z => absurd z (by decide), fun z => absurd z (by decide), fun z => absurd z (by decide), fun z => absurd z (by decide), fun z => absurd z (by decide), fun z => absurd z (by decide), fun z => absurd z (by decide), fun _ => ⟨hk.v, ?_⟩, fun z => absurd z (by decide), fun z => absurd (by decide) z⟩)
  rintro κ83 rfl
  exact ⟨_, rfl, q _ (Vo.reg (by decide)) hk.pc⟩
theorem wk_unless {i2 : Nat} (hk : VK κ n ((b, i, j, pl, nv, vs, L, O ++ [x], s, md) :: r)) (q : ∀ κ', Vo n κ κ' → VK κ' n ((b, if x = 0 then i2 else i, j', pl, nv, vs, L, O, s', md') :: r) → F 1 κ') : KC' X 4 MX10_work [vR (1002 + 8 * n), vI 16, vI (nI i2)] κ (kRI F) := by
  refine KC_of_K rfl (Nat.le_of_ble_eq_true rfl) rfl (k_10_work_0 _ _ _ ⟨fun z => absurd z (by decide), fun z => absurd z (by decide), fun z => absurd z (by decide), fun z => absurd z (by decide), fun z => absurd z (by decide), fun z => absurd z (by decide), fun z => absurd z (by decide), fun z => absurd z (by decide), fun _ => ⟨hk.v, 0, by omega, ?_⟩, fun z => absurd (by decide) z⟩)
  refine vk_pop (b' := b) (j' := j) (s' := s) (md' := md) hk (fun κ1 vo1 vk1 => ⟨fun z => ?_, fun z => ?_⟩)
  · refine k_10_work_189 _ _ _ _ _ ⟨vk1.v, ?_⟩
    rintro κ2 rfl
    exact ⟨_, rfl, q _ (vo1.trans (Vo.reg (by decide))) (by rw [if_pos z]; exact vk1.pc)⟩
  · refine k_10_work_189 _ _ _ _ _ ⟨vk1.v, ?_⟩
    rw [vk1.pc9]
    rintro κ2 rfl
    exact ⟨_, rfl, q _ (vo1.trans (Vo.reg (by decide))) (by rw [if_neg z]; exact vk1.pc)⟩
end WORK
