/-! a call is entered -/
section VENTER
variable {X : Cx} {κ κ1 κ2 κ' : Km} {n t bs m bd a nv st : Nat} {c : Nat → Int32} {g pc : Int32}
theorem mx0 {k : Nat} (h : k < 2147483648) : (if 0 < nI k then nI k else 0) = nI k := by
  by_cases z : k = 0
  · subst z; rfl
  · rw [if_pos (by rw [litI 0, lt_nI (by omega) h]; omega)]
theorem add_m1 {u : Nat} : nI u + -1 = nI u - 1 := by rw [Int32.sub_eq_add_neg]
/-- the variables of a call that is entered -/
theorem enter_loop {F : Km → Prop} {fr : Nat} {κs : Km} {av : Nat → Int32} (hs : Vc κs n c t bs g pc m) (hbB : bd < kB κs) (h4 : kI κs (1000 + 8 * bd) 4 = nI a) (ha : a ≤ 4) (hnv : nv ≤ 12) (hfr : fr ≤ 20000) (hw : fr + 4 + nv ≤ kW κs (1002 + 8 * n + 1)) (hav : ∀ k, k < nv → av k = if k < a then kI κs (1002 + 8 * n + 1) (fr + k) else 0)
    (q : ∀ κ', Vo n κs κ' → kI κ' (1002 + 8 * n) = kI κs (1002 + 8 * n) → kW κ' = kW κs → (∀ k, k < fr + 4 → kI κ' (1002 + 8 * n + 1) k = kI κs (1002 + 8 * n + 1) k) → (∀ k, k < nv → kI κ' (1002 + 8 * n + 1) (fr + 4 + k) = av k) → K X 4 MX10_enter 54 [(0, vR (1002 + 8 * n)), (1, vR (1000 + 8 * bd)), (2, vI (nI fr)), (3, vI (nI (fr + 4 + nv))), (4, vI (-1))] [] κ' (kRV F)) : ∀ (u : Nat) (κ : Km), u ≤ nv → Vo n κs κ → kI κ (1002 + 8 * n) = kI κs (1002 + 8 * n) → kW κ = kW κs → (∀ k, k < fr + 4 + u → kI κ (1002 + 8 * n + 1) k = kI κs (1002 + 8 * n + 1) k) → (∀ k, u ≤ k → k < nv → kI κ (1002 + 8 * n + 1) (fr + 4 + k) = av k) → K X 4 MX10_enter 54 [(0, vR (1002 + 8 * n)), (1, vR (1000 + 8 * bd)), (2, vI (nI fr)), (3, vI (nI (fr + 4 + nv))), (4, vI (nI u - 1))] [] κ (kRV F) := by
  intro u
  induction u with
  | zero =>
    intro κ hu vo e1 e2 e3 e4
    exact q κ vo e1 e2 (fun k hk => e3 k hk) (fun k hk => e4 k (Nat.zero_le _) hk)
  | succ u ih =>
    intro κ hu vo e1 e2 e3 e4
    rw [litI 1, nI_sb (by omega), show u + 1 - 1 = u by omega]
    have hV : kV κ = kV κs := vo.1.2.2.2
    have hB : kB κ = kB κs := vo.1.2.2.1
    have hv : isH κ (1002 + 8 * n) 10 := isH_voice hs.1.1 (by rw [hV]; exact hs.1.2.1)
    have hq : isH κ (1002 + 8 * n + 1) 21 := isH_cells1 hs.1.1 (by rw [hV]; exact hs.1.2.1) (by rw [e2]; have := hs.2.2.1.2.1; omega)
    have hbd : isH κ (1000 + 8 * bd) 0 := isH_body (by rw [hB]; exact hbB)
    have ebd : kI κ (1000 + 8 * bd) = kI κs (1000 + 8 * bd) := (vo.1.1 _ (by omega)).1
    have hws := hs.2.2.1
    have step : ∀ x, x = av u → K X 4 MX10_enter 87 [(0, vR (1002 + 8 * n)), (1, vR (1000 + 8 * bd)), (2, vI (nI fr)), (3, vI (nI (fr + 4 + nv))), (4, vI (nI u))] [vI x, vI (nI fr + 4 + nI u), vR (1002 + 8 * n)] κ (kRV F) := fun x hx => by
      refine k_10_enter_87 _ _ _ _ _ _ _ _ ⟨hv, hv, hbd, 0, by omega, KC_of_K rfl (Nat.le_of_ble_eq_true rfl) rfl (k_10_put_0 _ _ _ ?_)⟩
      rw [litI 4, nI_add, nI_add, n0_lt (by omega), e2, le_nI (by omega) (by omega), vpn (by omega), cl_nI (by omega)]
      refine ⟨fun z => z.elim, fun _ => ⟨hv, fun z => absurd z (by omega), fun _ => ⟨hq, by omega, ?_⟩⟩⟩
      rintro κ6 rfl
      refine k_10_put_20 _ _ _ ⟨rfl, ?_⟩
      rw [add_m1]
      refine ih _ (by omega) (vo.trans Vo.cel) (by rw [kI_ne (by omega)]; exact e1) e2 (fun k hk => ?_) (fun k h1 h2 => ?_)
      · rw [kI_nk (by omega)]; exact e3 k (by omega)
      · by_cases ck : k = u
        · rw [ck, kI_eq, hx]
        · rw [kI_nk (by omega)]; exact e4 k (by omega) h2
    refine k_10_enter_54 _ _ _ _ _ ⟨fun z => absurd z (by rw [n0_lt (by omega)]; exact id), fun _ => ⟨hbd, ?_⟩⟩
    rw [ebd, h4, le_nI (by omega) (by omega)]
    refine ⟨fun z => step 0 (by rw [hav u (by omega), if_neg (by omega)]), fun z => ⟨hv, 0, by omega, KC_of_K rfl (Nat.le_of_ble_eq_true rfl) rfl (k_10_cell_0 _ _ ?_)⟩⟩
    rw [nI_add, n0_lt (by omega), e2, lt_nI (by omega) (by omega), vpn (by omega), cl_nI (by omega), e3 (fr + u) (by omega)]
    refine ⟨fun z => z.elim, fun _ => ⟨hv, fun _ => ⟨hq, by omega, k_10_cell_23 _ _ _ ⟨_, rfl, step _ ?_⟩⟩, fun z => absurd (by omega) z⟩⟩
    rw [hav u (by omega), if_pos (by omega)]
/-- a call is entered, where its arguments lie on top -/
theorem kc_enter {F : Km → Prop} (hs : Vc κ n c t bs g pc m) (hbB : bd < kB κ) (h4 : kI κ (1000 + 8 * bd) 4 = nI a) (h5 : kI κ (1000 + 8 * bd) 5 = nI nv) (h6 : kI κ (1000 + 8 * bd) 6 = nI st) (ha : a ≤ 4) (hat : a ≤ t) (hnv : nv ≤ 12) (ht : t ≤ 17500) (hm : m < 1000)
    (q : ∀ κ' c', Vo n κ κ' → Vc κ' n c' (t - a + 4 + nv) (t - a) g (nI st) (m + 1) → (∀ k, k < t - a → c' k = c k) → c' (t - a) = nI nv → c' (t - a + 1) = pc → c' (t - a + 2) = nI bs → c' (t - a + 3) = -9 → (∀ k, k < nv → c' (t - a + 4 + k) = if k < a then c (t - a + k) else 0) → F κ') : KC' X 4 MX10_enter [vR (1002 + 8 * n), vR (1000 + 8 * bd)] κ (kRV F) := by
  have hws := hs.2.2.1
  have hbd : isH κ (1000 + 8 * bd) 0 := isH_body hbB
  have go : ∀ κs, Vo n κ κs → Vc κs n c t bs g pc m → t - a + 4 + nv ≤ kW κs (1002 + 8 * n + 1) → K X 4 MX10_enter 46 [(0, vR (1002 + 8 * n)), (1, vR (1000 + 8 * bd)), (2, vI (nI (t - a))), (3, vI (nI (t - a + 4 + nv)))] [] κs (kRV F) := fun κs vo vs hw => by
    have hB : kB κs = kB κ := vo.1.2.2.1
    have ebd : kI κs (1000 + 8 * bd) = kI κ (1000 + 8 * bd) := (vo.1.1 _ (by omega)).1
    refine k_10_enter_46 _ _ _ _ ⟨isH_body (by rw [hB]; exact hbB), ?_⟩
    rw [ebd, h5]
    refine enter_loop (X := X) (fr := t - a) (av := fun k => if k < a then c (t - a + k) else 0) vs (by rw [hB]; exact hbB) (by rw [ebd]; exact h4) ha hnv (by omega) hw (fun k hk => ?_) (fun κ2 v2 e1 e2 e3 e4 => ?_) nv κs (Nat.le_refl _) Vo.refl rfl rfl (fun _ _ => rfl) (fun k h1 h2 => absurd h2 (by omega))
    · show (if k < a then c (t - a + k) else 0) = _
      by_cases z : k < a
      · rw [if_pos z, if_pos z, vs.2.2.2 (t - a + k) (by omega)]
      · rw [if_neg z, if_neg z]
    · have hV2 : kV κ2 = kV κs := v2.1.2.2.2
      have hB2 : kB κ2 = kB κs := v2.1.2.2.1
      have ebd2 : kI κ2 (1000 + 8 * bd) = kI κ (1000 + 8 * bd) := (v2.1.1 _ (by omega)).1.trans ebd
      have w2 := vs.2.2.1
      -- the state, seen up to the end of the new call
      have V : Vc κ2 n (kI κ2 (1002 + 8 * n + 1)) t bs g pc m := by
        obtain ⟨⟨x1, x2, x3⟩, x4, x5, x6⟩ := vs
        unfold Vc
        rw [e1, e2, hV2]
        exact ⟨⟨x1, x2, x3⟩, x4, x5, fun k hk => rfl⟩
      refine k_10_enter_54 _ _ _ _ _ ⟨fun _ => ⟨isH_body (by rw [hB2, hB]; exact hbB), V.v, 0, by omega, kc_vput V (by rw [e2]; omega) ?_⟩, fun z => absurd (by decide) z⟩
      rw [ebd2, h5]
      have V1 := V.cel (i := t - a) (x := nI nv)
      refine ⟨0, by omega, ?_⟩
      rw [nI_1, V1.2.1.2.2.2.1]
      refine kc_vput V1 (by show _ < kW κ2 (1002 + 8 * n + 1); rw [e2]; omega) ?_
      have V2 := V1.cel (i := t - a + 1) (x := pc)
      refine ⟨0, by omega, ?_⟩
      rw [litI 2, nI_add, V2.2.1.2.1]
      refine kc_vput V2 (by show _ < kW κ2 (1002 + 8 * n + 1); rw [e2]; omega) ?_
      have V3 := V2.cel (i := t - a + 2) (x := nI bs)
      refine ⟨0, by omega, ?_⟩
      rw [litI 3, nI_add]
      refine kc_vput V3 (by show _ < kW κ2 (1002 + 8 * n + 1); rw [e2]; omega) ?_
      have V4 := V3.cel (i := t - a + 3) (x := -9)
      rintro κ24 rfl κ25 rfl κ26 rfl κ27 rfl
      have V5 := V4.base (b' := t - a)
      -- the top goes up
      generalize hκ5 : cI (cI (cI (cI (cI κ2 (1002 + 8 * n + 1) (t - a) (nI nv)) (1002 + 8 * n + 1) (t - a + 1) pc) (1002 + 8 * n + 1) (t - a + 2) (nI bs)) (1002 + 8 * n + 1) (t - a + 3) (-9)) (1002 + 8 * n) 14 (nI (t - a)) = κ5 at *
      have vo5 : Vo n κ κ5 := by
        rw [← hκ5]
        exact (vo.trans v2).trans ((((Vo.cel.trans Vo.cel).trans Vo.cel).trans Vo.cel).trans (Vo.reg (by omega)))
      have w5 : kW κ5 = kW κs := by rw [← hκ5]; exact e2
      have cell5 : ∀ k, kI κ5 (1002 + 8 * n + 1) k = if k = t - a + 3 then -9 else if k = t - a + 2 then nI bs else if k = t - a + 1 then pc else if k = t - a then nI nv else kI κ2 (1002 + 8 * n + 1) k := fun k => by
        rw [← hκ5, kI_ne (by omega)]
        by_cases z3 : k = t - a + 3
        · rw [if_pos z3, z3, kI_eq]
        · rw [if_neg z3, kI_nk z3]
          by_cases z2 : k = t - a + 2
          · rw [if_pos z2, z2, kI_eq]
          · rw [if_neg z2, kI_nk z2]
            by_cases z1 : k = t - a + 1
            · rw [if_pos z1, z1, kI_eq]
            · rw [if_neg z1, kI_nk z1]
              by_cases z0 : k = t - a
              · rw [if_pos z0, z0, kI_eq]
              · rw [if_neg z0, kI_nk z0]
      obtain ⟨y1, ⟨y2, y3, y4, y5, y6⟩, y7, y8⟩ := V5
      have ebd5 : kI (cI κ5 (1002 + 8 * n) 13 (nI (t - a + 4 + nv))) (1000 + 8 * bd) 6 = nI st := by
        rw [kI_ne (by omega), (vo5.1.1 _ (by omega)).1]
        exact h6
      rw [ebd5]
      have e8 : kI (cI (cI κ5 (1002 + 8 * n) 13 (nI (t - a + 4 + nv))) (1002 + 8 * n) 9 (nI st)) (1002 + 8 * n) 8 = nI m := by
        rw [kI_nk (by decide), kI_nk (by decide)]
        exact y6
      rw [e8, nI_1]
      refine ⟨rfl, q _ (kI κ5 (1002 + 8 * n + 1)) (vo5.trans (((Vo.reg (by omega)).trans (Vo.reg (by omega))).trans (Vo.reg (by omega)))) ⟨y1, ⟨?_, ?_, ?_, ?_, kI_eq⟩, ⟨?_, ?_, ?_⟩, fun k hk => ?_⟩ (fun k hk => ?_) ?_ ?_ ?_ ?_ (fun k hk => ?_)⟩
      · rw [kI_nk (by decide), kI_nk (by decide), kI_eq]
      · rw [kI_nk (by decide), kI_nk (by decide), kI_nk (by decide)]; exact y3
      · rw [kI_nk (by decide), kI_nk (by decide), kI_nk (by decide)]; exact y4
      · rw [kI_nk (by decide), kI_eq]
      · show _ ≤ kW κ5 _
        rw [w5]; exact hw
      · show 40 ≤ kW κ5 _
        rw [w5]; exact w2.2.1
      · show kW κ5 _ ≤ 40000
        rw [w5]; exact w2.2.2
      · rw [kI_ne (by omega), kI_ne (by omega), kI_ne (by omega)]
      · rw [cell5, if_neg (by omega), if_neg (by omega), if_neg (by omega), if_neg (by omega), e3 k (by omega), vs.2.2.2 k (by omega)]
      · rw [cell5, if_neg (by omega), if_neg (by omega), if_neg (by omega), if_pos rfl]
      · rw [cell5, if_neg (by omega), if_neg (by omega), if_pos rfl]
      · rw [cell5, if_neg (by omega), if_pos rfl]
      · rw [cell5, if_pos rfl]
      · rw [cell5, if_neg (by omega), if_neg (by omega), if_neg (by omega), if_neg (by omega)]
        exact e4 k hk
  refine KC_of_K rfl (Nat.le_of_ble_eq_true rfl) rfl (k_10_enter_0 _ _ ⟨hs.v, hbd, by omega, ?_⟩)
  rw [hs.2.1.1, h4, h5, nI_sb hat, mx0 (by omega), litI 4, nI_add, nI_add, le_nI (by omega) (by omega)]
  refine ⟨fun z => go κ Vo.refl hs z, fun z => ⟨hs.q, by omega, 2 * (t - a + 4 + nv), by rw [litI 2, pk_mul], by omega, by omega, ?_⟩⟩
  rintro κ12 rfl
  obtain ⟨v1, o1⟩ := hs.row (w := 2 * (t - a + 4 + nv)) (by omega) (by omega)
  exact go _ o1 v1 (by rw [kW_row, if_pos rfl]; omega)
section ENT
variable {b i j s md b' j' s' md' j2 s2 m2 : Nat} {pl arg : Int32} {vs : Nat → Int32} {L : List Ite} {O A : List Int32} {r : List Frm}
theorem vk_enter {F : Km → Prop} {nv0 : Nat} (hk : VK κ n ((b, i, j, pl, nv0, vs, L, O ++ A, s, md) :: r)) (hz : tsz 0 ((b, i, j, pl, nv0, vs, L, O ++ A, s, md) :: r) ≤ 17000) (hbB : bd < kB κ) (h4 : kI κ (1000 + 8 * bd) 4 = nI A.length) (h5 : kI κ (1000 + 8 * bd) 5 = nI nv) (h6 : kI κ (1000 + 8 * bd) 6 = nI st) (ha : A.length ≤ 4) (hnv : nv ≤ 12) (hm : r.length < 900)
    (q : ∀ κ', Vo n κ κ' → VK κ' n ((bd, st, j2, -9, nv, fun k => if k < A.length then A.getD k 0 else 0, [], [], s2, m2) :: (b', i, j', pl, nv0, vs, L, O, s', md') :: r) → F κ') : KC' X 4 MX10_enter [vR (1002 + 8 * n), vR (1000 + 8 * bd)] κ (kRV F) := by
  obtain ⟨c, o, h1, ⟨h2, y1, y5, y6, y7⟩, h3⟩ := hk
  have ez : tsz o ((b, i, j, pl, nv0, vs, L, O ++ A, s, md) :: r) = tsz o r + (4 + nv0 + psz L + (O.length + A.length)) := by
    show tsz o r + (4 + nv0 + psz L + (O ++ A).length) = _
    rw [List.length_append]
  have t1 := tsz_o (o := o) ((b, i, j, pl, nv0, vs, L, O ++ A, s, md) :: r)
  have ez2 : tsz o ((b', i, j', pl, nv0, vs, L, O, s', md') :: r) = tsz o r + (4 + nv0 + psz L + O.length) := rfl
  have el : ((b, i, j, pl, nv0, vs, L, O ++ A, s, md) :: r).length = r.length + 1 := rfl
  rw [el] at h3
  refine kc_enter h3 hbB h4 h5 h6 ha (by omega) hnv (by omega) (by omega) (fun κ' c' vo v q1 q2 q3 q4 q5 q6 => q κ' vo ⟨c', o, h1, ⟨⟨h2.cg _ (fun k hk => q1 k (by omega)), ?_⟩, ?_⟩, ?_⟩)
  · have hb : FrC c (tsz o r) (tgd o r) (nI (bse o r)) (pcs r) (b', i, j', pl, nv0, vs, L, O, s', md') := by
      refine ⟨y1, y5, y6, fun k hk => ?_⟩
      have hk : k < O.length := hk
      have e := y7 k (by show k < (O ++ A).length; rw [List.length_append]; omega)
      have e : c (tsz o r + 4 + nv0 + psz L + k) = (O ++ A).getD k 0 := e
      rw [List.getD_eq_getElem?_getD, List.getElem?_append_left hk] at e
      rw [List.getD_eq_getElem?_getD]
      exact e
    exact hb.cg (fun k k1 k2 => q1 k (by
      have : k < tsz o r + (4 + nv0 + psz L + O.length) := k2
      omega))
  · have eb : tsz o ((b, i, j, pl, nv0, vs, L, O ++ A, s, md) :: r) - A.length = tsz o ((b', i, j', pl, nv0, vs, L, O, s', md') :: r) := by omega
    rw [eb] at q1 q2 q3 q4 q5 q6
    refine ⟨⟨q2, q3, q4, q5⟩, fun k hk => ?_, trivial, fun k hk => absurd hk (Nat.not_lt_zero _)⟩
    have hk : k < nv := hk
    show c' (tsz o ((b', i, j', pl, nv0, vs, L, O, s', md') :: r) + 4 + k) = if k < A.length then A.getD k 0 else 0
    rw [q6 k hk]
    by_cases z : k < A.length
    · rw [if_pos z, if_pos z]
      have e := y7 (O.length + k) (by show O.length + k < (O ++ A).length; rw [List.length_append]; omega)
      have e : c (tsz o r + 4 + nv0 + psz L + (O.length + k)) = (O ++ A).getD (O.length + k) 0 := e
      rw [List.getD_eq_getElem?_getD, List.getElem?_append_right (by omega), show O.length + k - O.length = k by omega] at e
      rw [List.getD_eq_getElem?_getD, ← e]
      congr 1
      omega
    · rw [if_neg z, if_neg z]
  · have e1 : tsz o ((bd, st, j2, -9, nv, fun k => if k < A.length then A.getD k 0 else 0, [], [], s2, m2) :: (b', i, j', pl, nv0, vs, L, O, s', md') :: r) = tsz o ((b, i, j, pl, nv0, vs, L, O ++ A, s, md) :: r) - A.length + 4 + nv := by
      show tsz o ((b', i, j', pl, nv0, vs, L, O, s', md') :: r) + (4 + nv + 0 + 0) = _
      omega
    have e2 : bse o ((bd, st, j2, -9, nv, fun k => if k < A.length then A.getD k 0 else 0, [], [], s2, m2) :: (b', i, j', pl, nv0, vs, L, O, s', md') :: r) = tsz o ((b, i, j, pl, nv0, vs, L, O ++ A, s, md) :: r) - A.length := by
      show tsz o ((b', i, j', pl, nv0, vs, L, O, s', md') :: r) = _
      omega
    rw [e1, e2]
    exact v
/-- the first call of a voice -/
theorem vk_enter0 {F : Km → Prop} (hs : Vc κ n c 1 0 (-9) (-9) 0) (hc : c 0 = arg) (hbB : bd < kB κ) (h4 : kI κ (1000 + 8 * bd) 4 = nI a) (h5 : kI κ (1000 + 8 * bd) 5 = nI nv) (h6 : kI κ (1000 + 8 * bd) 6 = nI st) (ha : a ≤ 1) (hnv : nv ≤ 12)
    (q : ∀ κ', Vo n κ κ' → VK κ' n [(bd, st, j2, -9, nv, fun k => if k < a then arg else 0, [], [], s2, m2)] → F κ') : KC' X 4 MX10_enter [vR (1002 + 8 * n), vR (1000 + 8 * bd)] κ (kRV F) := by
  refine kc_enter hs hbB h4 h5 h6 (by omega) ha hnv (by omega) (by omega) (fun κ' c' vo v q1 q2 q3 q4 q5 q6 => q κ' vo ⟨c', 1 - a, by omega, ⟨trivial, ⟨q2, q3, q4, q5⟩, fun k hk => ?_, trivial, fun k hk => absurd hk (Nat.not_lt_zero _)⟩, ?_⟩)
  · have hk : k < nv := hk
    show c' (1 - a + 4 + k) = if k < a then arg else 0
    rw [q6 k hk]
    by_cases z : k < a
    · rw [if_pos z, if_pos z, show 1 - a + k = 0 by omega]; exact hc
    · rw [if_neg z, if_neg z]
  · have e1 : tsz (1 - a) [(bd, st, j2, -9, nv, fun k => if k < a then arg else 0, [], [], s2, m2)] = 1 - a + 4 + nv := by
      show 1 - a + (4 + nv + 0 + 0) = _
      omega
    rw [e1]
    exact v
end ENT
end VENTER
