/-! the class's voices, by their calls -/
section VFRAMES
variable {X : Cx} {κ κ1 κ2 κ' : Km} {n b i j nv s md b' i' j' s' md' t h ph : Nat} {pl x : Int32} {vs : Nat → Int32} {L L0 Es : List Ite} {O : List Int32} {r : List Frm}
theorem VK.v {fs : List Frm} (h : VK κ n fs) : isH κ (1002 + 8 * n) 10 := by
  obtain ⟨c, o, h1, h2, h3⟩ := h
  exact h3.v
theorem VK.fr {fs : List Frm} (h : VK κ n fs) (e : kI κ' (1002 + 8 * n) = kI κ (1002 + 8 * n)) (e2 : kI κ' (1002 + 8 * n + 1) = kI κ (1002 + 8 * n + 1)) (e3 : kW κ' (1002 + 8 * n + 1) = kW κ (1002 + 8 * n + 1)) (e4 : kV κ ≤ kV κ') : VK κ' n fs := by
  obtain ⟨c, o, h1, h2, h3⟩ := h
  exact ⟨c, o, h1, h2, h3.fr e e2 e3 e4⟩
/-- the class looks at other fields of a voice alone -/
theorem VK.reg {fs : List Frm} (h : VK κ n fs) {k : Nat} (hk : k ≠ 8 ∧ k ≠ 9 ∧ k ≠ 13 ∧ k ≠ 14 ∧ k ≠ 15) : VK (cI κ (1002 + 8 * n) k x) n fs := by
  obtain ⟨c, o, h1, h2, g1, ⟨g2, g3, g4, g5, g6⟩, g7, g8⟩ := h
  refine ⟨c, o, h1, h2, g1, ⟨?_, ?_, ?_, ?_, ?_⟩, g7, fun j hj => ?_⟩
  · rw [kI_nk (by omega)]; exact g2
  · rw [kI_nk (by omega)]; exact g3
  · rw [kI_nk (by omega)]; exact g4
  · rw [kI_nk (by omega)]; exact g5
  · rw [kI_nk (by omega)]; exact g6
  · rw [kI_ne (by omega)]; exact g8 j hj
theorem VK.oth {fs : List Frm} (h : VK κ n fs) {g k : Nat} (hg : g ≠ 1002 + 8 * n) (hg2 : g ≠ 1002 + 8 * n + 1) : VK (cI κ g k x) n fs :=
  h.fr (kI_ne (fun e => hg e.symm)) (kI_ne (fun e => hg2 e.symm)) rfl (Nat.le_refl _)
/-- the act is set -/
theorem VK.pc (h : VK κ n ((b, i, j, pl, nv, vs, L, O, s, md) :: r)) : VK (cI κ (1002 + 8 * n) 9 (nI i')) n ((b', i', j', pl, nv, vs, L, O, s', md') :: r) := by
  obtain ⟨c, o, h1, h2, h3⟩ := h
  exact ⟨c, o, h1, h2, h3.act⟩
theorem VK.pc9 (h : VK κ n ((b, i, j, pl, nv, vs, L, O, s, md) :: r)) : kI κ (1002 + 8 * n) 9 = nI i := by
  obtain ⟨c, o, h1, h2, h3⟩ := h
  exact h3.2.1.2.2.2.1
theorem VK.base {f : Frm} (h : VK κ n (f :: r)) : ∃ o, o ≤ 1 ∧ kI κ (1002 + 8 * n) 14 = nI (tsz o r) := by
  obtain ⟨c, o, h1, h2, h3⟩ := h
  exact ⟨o, h1, h3.2.1.2.1⟩
theorem VK.calls {fs : List Frm} (h : VK κ n fs) : kI κ (1002 + 8 * n) 8 = nI fs.length := by
  obtain ⟨c, o, h1, h2, h3⟩ := h
  exact h3.2.1.2.2.2.2
theorem vk_push {F : Km → Prop} (h : VK κ n ((b, i, j, pl, nv, vs, L, O, s, md) :: r)) (hz : tsz 0 ((b, i, j, pl, nv, vs, L, O, s, md) :: r) ≤ 17000)
    (q : ∀ κ', Vo n κ κ' → VK κ' n ((b', i, j', pl, nv, vs, L, O ++ [x], s', md') :: r) → F κ') : KC' X 3 MX10_push [vR (1002 + 8 * n), vI x] κ (kRV F) := by
  obtain ⟨c, o, h1, ⟨h2, h4⟩, h3⟩ := h
  have ez : tsz o ((b, i, j, pl, nv, vs, L, O, s, md) :: r) = tsz o r + (4 + nv + psz L + O.length) := rfl
  have eo := tsz_o (o := o) ((b, i, j, pl, nv, vs, L, O, s, md) :: r)
  have ez' : tsz o ((b', i, j', pl, nv, vs, L, O ++ [x], s', md') :: r) = tsz o r + (4 + nv + psz L + (O ++ [x]).length) := rfl
  rw [List.length_append] at ez'
  have ez'' : tsz o ((b', i, j', pl, nv, vs, L, O ++ [x], s', md') :: r) = tsz o ((b, i, j, pl, nv, vs, L, O, s, md) :: r) + 1 := by rw [ez', ez]; simp; omega
  refine kc_vpush h3 (by omega) (fun κ' vo v => q κ' vo ⟨ud c (tsz o ((b, i, j, pl, nv, vs, L, O, s, md) :: r)) x, o, h1, ⟨FsC.cg (c' := ud c (tsz o ((b, i, j, pl, nv, vs, L, O, s, md) :: r)) x) r h2 (fun k hk => ud_ne (by omega)), ?_⟩, ?_⟩)
  · obtain ⟨g1, g2, g3, g4⟩ := h4.cg (c' := ud c (tsz o ((b, i, j, pl, nv, vs, L, O, s, md) :: r)) x) (fun k k1 k2 => ud_ne (by
      have : k < tsz o r + (4 + nv + psz L + O.length) := k2
      omega))
    refine ⟨g1, g2, g3, fun k hk => ?_⟩
    have hk : k < (O ++ [x]).length := hk
    rw [List.length_append] at hk
    show _ = (O ++ [x]).getD k 0
    by_cases ck : k < O.length
    · rw [getD_app1 ck]; exact g4 k ck
    · have ek : k = O.length := by simp at hk; omega
      subst ek
      rw [getD_app2]
      show ud c _ x (tsz o r + 4 + nv + psz L + O.length) = x
      rw [show tsz o r + 4 + nv + psz L + O.length = tsz o ((b, i, j, pl, nv, vs, L, O, s, md) :: r) by omega, ud_eq]
  · rw [ez'']
    exact v
theorem vk_pop {F : Int32 → Km → Prop} (h : VK κ n ((b, i, j, pl, nv, vs, L, O ++ [x], s, md) :: r)) (q : ∀ κ', Vo n κ κ' → VK κ' n ((b', i, j', pl, nv, vs, L, O, s', md') :: r) → F x κ') : KC' X 0 MX10_pop [vR (1002 + 8 * n)] κ (kRI F) := by
  obtain ⟨c, o, h1, ⟨h2, g1, g2, g3, g4⟩, h3⟩ := h
  have ez : tsz o ((b, i, j, pl, nv, vs, L, O ++ [x], s, md) :: r) = tsz o ((b', i, j', pl, nv, vs, L, O, s', md') :: r) + 1 := by
    show tsz o r + (4 + nv + psz L + (O ++ [x]).length) = tsz o r + (4 + nv + psz L + O.length) + 1
    rw [List.length_append]
    simp
    omega
  rw [ez] at h3
  refine kc_vpop h3 (fun κ' vo v => ?_)
  have ex : c (tsz o ((b', i, j', pl, nv, vs, L, O, s', md') :: r)) = x := by
    have e := g4 O.length (by show O.length < (O ++ [x]).length; rw [List.length_append]; simp)
    have e : c (tsz o r + 4 + nv + psz L + O.length) = (O ++ [x]).getD O.length 0 := e
    rw [getD_app2] at e
    rw [show tsz o ((b', i, j', pl, nv, vs, L, O, s', md') :: r) = tsz o r + 4 + nv + psz L + O.length by
      show tsz o r + (4 + nv + psz L + O.length) = _
      omega]
    exact e
  rw [ex]
  refine q κ' vo ⟨c, o, h1, ⟨h2, g1, g2, g3, fun k hk => ?_⟩, v⟩
  have hk : k < O.length := hk
  have e := g4 k (by show k < (O ++ [x]).length; rw [List.length_append]; simp; omega)
  have e : c (tsz o r + 4 + nv + psz L + k) = (O ++ [x]).getD k 0 := e
  rw [getD_app1 hk] at e
  exact e
theorem vk_peekE {F : Int32 → Km → Prop} {L1 : List Ite} {a1 a2 a3 : Nat} (h : VK κ n ((b, i, j, pl, nv, vs, L1 ++ [(0, a1, a2, a3, x)], [], s, md) :: r)) (q : F x κ) : KC' X 1 MX10_peek [vR (1002 + 8 * n)] κ (kRI F) := by
  obtain ⟨c, o, h1, ⟨h2, g1, g2, g3, g4⟩, h3⟩ := h
  have g3 : ItsC c (tsz o r + 4 + nv) (tgd o r) (L1 ++ [(0, a1, a2, a3, x)]) := g3
  have e := ((ItsC_app _ _ _ _).mp g3).2.1.1 rfl
  have ez : tsz o ((b, i, j, pl, nv, vs, L1 ++ [(0, a1, a2, a3, x)], [], s, md) :: r) = tsz o r + 4 + nv + psz L1 + 1 := by
    show tsz o r + (4 + nv + psz (L1 ++ [(0, a1, a2, a3, x)]) + 0) = _
    rw [psz_app]
    have : psz [((0, a1, a2, a3, x) : Ite)] = 1 := rfl
    omega
  rw [ez] at h3
  refine kc_vpeek h3 ?_
  rw [e]
  exact q
theorem vk_var {F : Int32 → Km → Prop} {f : Frm} {v o : Nat} (h : VK κ n (f :: r)) (hb : kI κ (1002 + 8 * n) 14 = nI (tsz o r)) (ho : o ≤ 1) (hz : tsz 0 (f :: r) ≤ 17000) (hv : v < frN f) (q : F (frV f v) κ) : KC' X 1 MX10_variable [vR (1002 + 8 * n), vI (nI (tsz o r)), vI (nI v)] κ (kRI F) := by
  obtain ⟨c, o', h1, ⟨h2, g1, g2, g3, g4⟩, h3⟩ := h
  have ez : tsz o' (f :: r) = tsz o' r + fsz f := rfl
  unfold fsz at ez
  have t1 := tsz_o (o := o') (f :: r)
  have t2 := tsz_o (o := o) r
  have t3 := tsz_o (o := o') r
  have eo : tsz o r = tsz o' r := (nI_eq (by omega) (by omega)).mp (hb.symm.trans h3.2.1.2.1)
  refine KC_of_K rfl (Nat.le_of_ble_eq_true rfl) rfl (k_10_variable_0 _ _ _ ⟨h3.v, 0, by omega, ?_⟩)
  rw [litI 4, nI_add, nI_add, eo]
  exact kc_vcell h3 (by omega) ⟨_, rfl, by rw [g2 v hv]; exact q⟩
theorem vk_putv {F : Km → Prop} {v o : Nat} (h : VK κ n ((b, i, j, pl, nv, vs, L, O, s, md) :: r)) (hb : kI κ (1002 + 8 * n) 14 = nI (tsz o r)) (ho : o ≤ 1) (hz : tsz 0 ((b, i, j, pl, nv, vs, L, O, s, md) :: r) ≤ 17000) (hv : v < nv)
    (q : ∀ κ', Vo n κ κ' → VK κ' n ((b', i, j', pl, nv, ud vs v x, L, O, s', md') :: r) → F κ') : KC' X 0 MX10_put [vR (1002 + 8 * n), vI (nI (tsz o r + 4 + v)), vI x] κ (kRV F) := by
  obtain ⟨c, o', h1, ⟨h2, h4⟩, h3⟩ := h
  have ez : tsz o' ((b, i, j, pl, nv, vs, L, O, s, md) :: r) = tsz o' r + (4 + nv + psz L + O.length) := rfl
  have t1 := tsz_o (o := o') ((b, i, j, pl, nv, vs, L, O, s, md) :: r)
  have t2 := tsz_o (o := o) r
  have t3 := tsz_o (o := o') r
  have eo : tsz o r = tsz o' r := (nI_eq (by omega) (by omega)).mp (hb.symm.trans h3.2.1.2.1)
  have hw := h3.2.2.1
  rw [eo]
  refine kc_vput h3 (by omega) (q _ Vo.cel ⟨ud c (tsz o' r + 4 + v) x, o', h1, ⟨FsC.cg (c' := ud c (tsz o' r + 4 + v) x) r h2 (fun k hk => ud_ne (by omega)), ?_⟩, h3.cel⟩)
  obtain ⟨g1, g2, g3, g4⟩ := h4
  refine ⟨?_, fun k hk => ?_, ItsC.cg _ _ _ g3 (fun k k1 k2 => ud_ne (by
    have : tsz o' r + 4 + nv ≤ k := k1
    omega)), fun k hk => ?_⟩
  · rw [ud_ne (by omega), ud_ne (by omega), ud_ne (by omega), ud_ne (by omega)]
    exact g1
  · have hk : k < nv := hk
    show _ = ud vs v x k
    by_cases ck : k = v
    · rw [ck, ud_eq, ud_eq]
    · rw [ud_ne (by omega), ud_ne ck]
      exact g2 k hk
  · rw [ud_ne (by
      show tsz o' r + 4 + nv + psz L + k ≠ _
      omega)]
    exact g4 k hk
theorem vk_place {F : Int32 → Km → Prop} {f : Frm} (h : VK κ n (f :: r)) (q : F (frP f) κ) : KC' X 0 MX10_place [vR (1002 + 8 * n)] κ (kRI F) := by
  obtain ⟨c, o, h1, ⟨h2, g1, g2, g3, g4⟩, h3⟩ := h
  have ez : tsz o (f :: r) = tsz o r + fsz f := rfl
  unfold fsz at ez
  refine kc_vplace h3 (by show tsz o r + 3 < _; omega) ?_
  show F (c (tsz o r + 3)) κ
  rw [g1.2.2.2]
  exact q
theorem vk_setPlace {F : Km → Prop} (h : VK κ n ((b, i, j, pl, nv, vs, L, O, s, md) :: r)) (q : ∀ κ', Vo n κ κ' → VK κ' n ((b', i, j', x, nv, vs, L, O, s', md') :: r) → F κ') : KC' X 1 MX10_setPlace [vR (1002 + 8 * n), vI x] κ (kRV F) := by
  obtain ⟨c, o, h1, ⟨h2, h4⟩, h3⟩ := h
  have ez : tsz o ((b, i, j, pl, nv, vs, L, O, s, md) :: r) = tsz o r + (4 + nv + psz L + O.length) := rfl
  refine kc_vsetPlace h3 (by show tsz o r + 3 < _; omega) (q _ Vo.cel ⟨ud c (tsz o r + 3) x, o, h1, ⟨FsC.cg (c' := ud c (tsz o r + 3) x) r h2 (fun k hk => ud_ne (by omega)), ?_⟩, h3.cel⟩)
  obtain ⟨⟨y1, y2, y3, y4⟩, g2, g3, g4⟩ := h4
  refine ⟨⟨?_, ?_, ?_, ?_⟩, fun k hk => ?_, ItsC.cg _ _ _ g3 (fun k k1 k2 => ud_ne (by
    have : tsz o r + 4 + nv ≤ k := k1
    omega)), fun k hk => ?_⟩
  · rw [ud_ne (by omega)]; exact y1
  · rw [ud_ne (by omega)]; exact y2
  · rw [ud_ne (by omega)]; exact y3
  · exact ud_eq
  · rw [ud_ne (by omega)]; exact g2 k hk
  · rw [ud_ne (by
      show tsz o r + 4 + nv + psz L + k ≠ _
      omega)]
    exact g4 k hk
end VFRAMES
