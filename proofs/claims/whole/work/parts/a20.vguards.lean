/-! guards of the class's voices; calls begin and end -/
section VGUARDS
variable {X : Cx} {κ κ1 κ2 κ' : Km} {n b i j nv s md b' i' j' s' md' t t' h ph ph' : Nat} {pl x x' : Int32} {vs : Nat → Int32} {L L0 Es : List Ite} {O : List Int32} {r : List Frm} {c : Nat → Int32} {p : Nat} {g : Int32}
theorem lastG_c (hh : ItsC c p g (L0 ++ (1, t, h, ph, x) :: Es)) : ItsC c p g L0 ∧ c (p + psz L0) = gdo p g L0 ∧ c (p + psz L0 + 1) = nI h ∧ c (p + psz L0 + 2) = nI ph ∧ c (p + psz L0 + 3) = x := by
  have h1 := (ItsC_app _ _ _ _).mp hh
  have h2 := h1.2.1.2 (show (1 : Nat) ≠ 0 by decide)
  exact ⟨h1.1, h2.1, h2.2.1, h2.2.2.1, h2.2.2.2⟩
theorem psz_last : psz (L0 ++ (1, t, h, ph, x) :: Es) = psz L0 + (4 + psz Es) := by
  rw [psz_app]
  rfl
theorem g9_le {o : Nat} (h : tsz o r < 1000000) : tgd o r ≤ nI (tsz o r) := by
  rcases tgd_lt r h with e | ⟨q, h1, h2⟩
  · rw [e]
    exact Int32.le_trans (show (-9 : Int32) ≤ 0 by decide) (nI_pos' (by omega))
  · rw [h2, le_nI (by omega) (by omega)]
    omega
theorem vk_isGuarded {F : Int32 → Km → Prop} (hk : VK κ n ((b, i, j, pl, nv, vs, L, O, s, md) :: r)) (hz : tsz 0 ((b, i, j, pl, nv, vs, L, O, s, md) :: r) ≤ 17000) (q0 : noG L → F 0 κ) (q1 : ¬ noG L → F 1 κ) : KC' X 0 MX10_isGuarded [vR (1002 + 8 * n)] κ (kRI F) := by
  obtain ⟨c, o, h1, ⟨h2, g1, g2, g3, g4⟩, h3⟩ := hk
  have ez : tsz o ((b, i, j, pl, nv, vs, L, O, s, md) :: r) = tsz o r + (4 + nv + psz L + O.length) := rfl
  have t1 := tsz_o (o := o) ((b, i, j, pl, nv, vs, L, O, s, md) :: r)
  refine KC_of_K rfl (Nat.le_of_ble_eq_true rfl) rfl (k_10_isGuarded_0 _ ⟨h3.v, ?_⟩)
  rw [h3.2.1.2.2.1, h3.2.1.2.1]
  have eg : tgd o ((b, i, j, pl, nv, vs, L, O, s, md) :: r) = gdo (tsz o r + 4 + nv) (tgd o r) L := rfl
  have eb : bse o ((b, i, j, pl, nv, vs, L, O, s, md) :: r) = tsz o r := rfl
  rw [eg, eb]
  rcases split_G L with hn | ⟨L1, y, E1, e1, hy, he⟩
  · rw [gdo_noG _ _ _ hn]
    exact ⟨fun _ => k_10_isGuarded_16 _ _ ⟨Or.inl rfl, _, rfl, q0 hn⟩, fun z => absurd (g9_le (by omega)) z⟩
  · have hp : psz L = psz L1 + (isz y + psz E1) := by rw [e1, psz_app]; rfl
    rw [e1, gdo_last hy he, le_nI (by omega) (by omega)]
    exact ⟨fun z => absurd z (by omega), fun _ => k_10_isGuarded_16 _ _ ⟨Or.inr rfl, _, rfl, q1 (fun z => hy (z y (by rw [e1]; exact List.mem_append_right _ (List.mem_cons_self ..))))⟩⟩
/-- the innermost guard -/
theorem VK.gd (hk : VK κ n ((b, i, j, pl, nv, vs, L0 ++ (1, t, h, ph, x) :: Es, O, s, md) :: r)) (he : noG Es) : ∃ c o, o ≤ 1 ∧ FsC c o r ∧ FrC c (tsz o r) (tgd o r) (nI (bse o r)) (pcs r) (b, i, j, pl, nv, vs, L0 ++ (1, t, h, ph, x) :: Es, O, s, md) ∧ Vc κ n c (tsz o r + (4 + nv + (psz L0 + (4 + psz Es)) + O.length)) (tsz o r) (nI (tsz o r + 4 + nv + psz L0)) (nI i) (r.length + 1) ∧ (ItsC c (tsz o r + 4 + nv) (tgd o r) L0 ∧ c (tsz o r + 4 + nv + psz L0) = gdo (tsz o r + 4 + nv) (tgd o r) L0 ∧ c (tsz o r + 4 + nv + psz L0 + 1) = nI h ∧ c (tsz o r + 4 + nv + psz L0 + 2) = nI ph ∧ c (tsz o r + 4 + nv + psz L0 + 3) = x) := by
  obtain ⟨c, o, h1, ⟨h2, h4⟩, h3⟩ := hk
  refine ⟨c, o, h1, h2, h4, ?_, lastG_c h4.2.2.1⟩
  have ez : tsz o ((b, i, j, pl, nv, vs, L0 ++ (1, t, h, ph, x) :: Es, O, s, md) :: r) = tsz o r + (4 + nv + (psz L0 + (4 + psz Es)) + O.length) := by
    show tsz o r + (4 + nv + psz (L0 ++ (1, t, h, ph, x) :: Es) + O.length) = _
    rw [psz_last]
  have eg : tgd o ((b, i, j, pl, nv, vs, L0 ++ (1, t, h, ph, x) :: Es, O, s, md) :: r) = nI (tsz o r + 4 + nv + psz L0) := gdo_last (show (1 : Nat) ≠ 0 by decide) he
  rw [ez, eg] at h3
  exact h3
theorem vk_gcell {F : Int32 → Km → Prop} (hk : VK κ n ((b, i, j, pl, nv, vs, L0 ++ (1, t, h, ph, x) :: Es, O, s, md) :: r)) (he : noG Es) (q : ∀ gp, kI κ (1002 + 8 * n) 15 = nI gp → (∀ G : Int32 → Km → Prop, G (nI h) κ → KC' X 0 MX10_cell [vR (1002 + 8 * n), vI (nI gp + 1)] κ (kRI G)) → (∀ G : Int32 → Km → Prop, G (nI ph) κ → KC' X 0 MX10_cell [vR (1002 + 8 * n), vI (nI gp + 2)] κ (kRI G)) → (∀ G : Int32 → Km → Prop, G x κ → KC' X 0 MX10_cell [vR (1002 + 8 * n), vI (nI gp + 3)] κ (kRI G)) → F 0 κ) : F 0 κ := by
  obtain ⟨c, o, h1, h2, h4, h3, g1, g2, g3, g4, g5⟩ := hk.gd he
  refine q _ h3.2.1.2.2.1 (fun G hG => ?_) (fun G hG => ?_) (fun G hG => ?_)
  · rw [nI_1]
    exact kc_vcell h3 (by omega) (by rw [g3]; exact hG)
  · rw [litI 2, nI_add]
    exact kc_vcell h3 (by omega) (by rw [g4]; exact hG)
  · rw [litI 3, nI_add]
    exact kc_vcell h3 (by omega) (by rw [g5]; exact hG)
theorem vk_isInGuarded {F : Int32 → Km → Prop} (hk : VK κ n ((b, i, j, pl, nv, vs, L0 ++ (1, t, h, ph, x) :: Es, O, s, md) :: r)) (he : noG Es) (hp : ph < 5) (q1 : ph < 2 → F 1 κ) (q0 : 2 ≤ ph → F 0 κ) : KC' X 1 MX10_isInGuarded [vR (1002 + 8 * n)] κ (kRI F) := by
  refine vk_gcell (X := X) (F := fun _ κ => KC' X 1 MX10_isInGuarded [vR (1002 + 8 * n)] κ (kRI F)) hk he (fun gp e1 c1 c2 c3 => KC_of_K rfl (Nat.le_of_ble_eq_true rfl) rfl (k_10_isInGuarded_0 _ ⟨hk.v, 0, by omega, ?_⟩))
  rw [e1]
  refine c2 _ ?_
  rw [litI 0, litI 1, eq_nI (by omega) (by omega), eq_nI (by omega) (by omega)]
  exact ⟨fun z => k_10_isInGuarded_20 _ _ (k_10_isInGuarded_25 _ _ _ ⟨Or.inr rfl, _, rfl, q1 (by omega)⟩), fun z => ⟨fun z2 => k_10_isInGuarded_20 _ _ (k_10_isInGuarded_25 _ _ _ ⟨Or.inr rfl, _, rfl, q1 (by omega)⟩), fun z2 => k_10_isInGuarded_25 _ _ _ ⟨Or.inl rfl, _, rfl, q0 (by omega)⟩⟩⟩
theorem vk_handlers {F : Int32 → Km → Prop} (hk : VK κ n ((b, i, j, pl, nv, vs, L0 ++ (1, t, h, ph, x) :: Es, O, s, md) :: r)) (he : noG Es) (q : F (nI h) κ) : KC' X 1 MX10_handlers [vR (1002 + 8 * n)] κ (kRI F) :=
  vk_gcell (X := X) (F := fun _ κ => KC' X 1 MX10_handlers [vR (1002 + 8 * n)] κ (kRI F)) hk he (fun gp e1 c1 c2 c3 => KC_of_K rfl (Nat.le_of_ble_eq_true rfl) rfl (k_10_handlers_0 _ ⟨hk.v, 0, by omega, by rw [e1]; exact c1 _ ⟨_, rfl, q⟩⟩))
theorem vk_phase {F : Int32 → Km → Prop} (hk : VK κ n ((b, i, j, pl, nv, vs, L0 ++ (1, t, h, ph, x) :: Es, O, s, md) :: r)) (he : noG Es) (q : F (nI ph) κ) : KC' X 1 MX10_phase [vR (1002 + 8 * n)] κ (kRI F) :=
  vk_gcell (X := X) (F := fun _ κ => KC' X 1 MX10_phase [vR (1002 + 8 * n)] κ (kRI F)) hk he (fun gp e1 c1 c2 c3 => KC_of_K rfl (Nat.le_of_ble_eq_true rfl) rfl (k_10_phase_0 _ ⟨hk.v, 0, by omega, by rw [e1]; exact c2 _ ⟨_, rfl, q⟩⟩))
theorem vk_kept {F : Int32 → Km → Prop} (hk : VK κ n ((b, i, j, pl, nv, vs, L0 ++ (1, t, h, ph, x) :: Es, O, s, md) :: r)) (he : noG Es) (q : F x κ) : KC' X 1 MX10_keptByGuard [vR (1002 + 8 * n)] κ (kRI F) :=
  vk_gcell (X := X) (F := fun _ κ => KC' X 1 MX10_keptByGuard [vR (1002 + 8 * n)] κ (kRI F)) hk he (fun gp e1 c1 c2 c3 => KC_of_K rfl (Nat.le_of_ble_eq_true rfl) rfl (k_10_keptByGuard_0 _ ⟨hk.v, 0, by omega, by rw [e1]; exact c3 _ ⟨_, rfl, q⟩⟩))
theorem vk_turn {F : Km → Prop} (hk : VK κ n ((b, i, j, pl, nv, vs, L0 ++ (1, t, h, ph, x) :: Es, O, s, md) :: r)) (he : noG Es) (q : ∀ κ', Vo n κ κ' → VK κ' n ((b', i', j', pl, nv, vs, L0 ++ [(1, t', h, ph', x')], [], s', md') :: r) → F κ') : KC' X 1 MX10_turnGuard [vR (1002 + 8 * n), vI (nI ph'), vI x', vI (nI i')] κ (kRV F) := by
  obtain ⟨c, o, h1, h2, h4, h3, g1, g2, g3, g4, g5⟩ := hk.gd he
  have hw := h3.2.2.1
  refine KC_of_K rfl (Nat.le_of_ble_eq_true rfl) rfl (k_10_turnGuard_0 _ _ _ _ ⟨hk.v, 0, by omega, ?_⟩)
  rw [h3.2.1.2.2.1, litI 2, nI_add]
  refine kc_vput h3 (by omega) ⟨0, by omega, ?_⟩
  have v1 := h3.cel (i := tsz o r + 4 + nv + psz L0 + 2) (x := nI ph')
  rw [v1.2.1.2.2.1, litI 3, nI_add]
  refine kc_vput v1 (by show tsz o r + 4 + nv + psz L0 + 3 < kW κ (1002 + 8 * n + 1); omega) ?_
  have v2 := v1.cel (i := tsz o r + 4 + nv + psz L0 + 3) (x := x')
  rintro κ12 rfl κ13 rfl
  rw [v2.2.1.2.2.1, litI 4, nI_add]
  have v3 := (v2.top (t' := tsz o r + 4 + nv + psz L0 + 4) (by omega)).act (x := nI i')
  refine ⟨rfl, q _ ((Vo.cel.trans Vo.cel).trans ((Vo.reg (by omega)).trans (Vo.reg (by omega)))) ⟨(ud (ud c (tsz o r + 4 + nv + psz L0 + 2) (nI ph')) (tsz o r + 4 + nv + psz L0 + 3) x'), o, h1, ⟨FsC.cg (c' := (ud (ud c (tsz o r + 4 + nv + psz L0 + 2) (nI ph')) (tsz o r + 4 + nv + psz L0 + 3) x')) r h2 (fun k hk => by rw [ud_ne (by omega), ud_ne (by omega)]), ?_⟩, ?_⟩⟩
  · obtain ⟨⟨y1, y2, y3, y4⟩, y5, -, -⟩ := h4
    refine ⟨⟨?_, ?_, ?_, ?_⟩, fun k hk => ?_, (ItsC_app _ _ _ _).mpr ⟨ItsC.cg _ _ _ g1 (fun k k1 k2 => by
      have k2 : k < tsz o r + 4 + nv + psz L0 := k2
      rw [ud_ne (by omega), ud_ne (by omega)]), ⟨fun z => absurd z (show (1 : Nat) ≠ 0 by decide), fun _ => ⟨?_, ?_, ?_, ?_⟩⟩, trivial⟩, fun k hk => absurd hk (Nat.not_lt_zero _)⟩
    · rw [ud_ne (by omega), ud_ne (by omega)]; exact y1
    · rw [ud_ne (by omega), ud_ne (by omega)]; exact y2
    · rw [ud_ne (by omega), ud_ne (by omega)]; exact y3
    · rw [ud_ne (by omega), ud_ne (by omega)]; exact y4
    · have hk : k < nv := hk
      rw [ud_ne (by omega), ud_ne (by omega)]; exact y5 k hk
    · show ud (ud c _ _) _ _ (tsz o r + 4 + nv + psz L0) = _
      rw [ud_ne (by omega), ud_ne (by omega)]; exact g2
    · show ud (ud c _ _) _ _ (tsz o r + 4 + nv + psz L0 + 1) = _
      rw [ud_ne (by omega), ud_ne (by omega)]; exact g3
    · show ud (ud c _ _) _ _ (tsz o r + 4 + nv + psz L0 + 2) = _
      rw [ud_ne (by omega), ud_eq]
    · show ud (ud c _ _) _ _ (tsz o r + 4 + nv + psz L0 + 3) = _
      rw [ud_eq]
  · have ez : tsz o ((b', i', j', pl, nv, vs, L0 ++ [(1, t', h, ph', x')], [], s', md') :: r) = tsz o r + 4 + nv + psz L0 + 4 := by
      show tsz o r + (4 + nv + psz (L0 ++ [(1, t', h, ph', x')]) + 0) = _
      rw [psz_app]
      have : psz [((1, t', h, ph', x') : Ite)] = 4 := rfl
      omega
    have eg : tgd o ((b', i', j', pl, nv, vs, L0 ++ [(1, t', h, ph', x')], [], s', md') :: r) = nI (tsz o r + 4 + nv + psz L0) := gdo_last (Es := []) (show (1 : Nat) ≠ 0 by decide) (fun y hy => absurd hy List.not_mem_nil)
    rw [ez, eg]
    exact v3
theorem vk_close {F : Km → Prop} (hk : VK κ n ((b, i, j, pl, nv, vs, L0 ++ (1, t, h, ph, x) :: Es, O, s, md) :: r)) (he : noG Es) (q : ∀ κ', Vo n κ κ' → VK κ' n ((b', i, j', pl, nv, vs, L0, [], s', md') :: r) → F κ') : KC' X 1 MX10_closeGuard [vR (1002 + 8 * n)] κ (kRV F) := by
  obtain ⟨c, o, h1, h2, h4, h3, g1, g2, g3, g4, g5⟩ := hk.gd he
  have hw := h3.2.2.1
  refine KC_of_K rfl (Nat.le_of_ble_eq_true rfl) rfl (k_10_closeGuard_0 _ ⟨hk.v, ?_⟩)
  rw [h3.2.1.2.2.1]
  rintro κ2 rfl
  have v2 := h3.top (t' := tsz o r + 4 + nv + psz L0) (by omega)
  refine ⟨0, by omega, ?_⟩
  rw [v2.2.1.2.2.1]
  refine kc_vcellw v2 (by show _ < kW κ _; omega) ?_
  rintro κ9 rfl
  rw [kI_ne (by omega), h3.2.2.2 (tsz o r + 4 + nv + psz L0) (by omega), g2]
  refine ⟨rfl, q _ ((Vo.reg (by omega)).trans (Vo.reg (by omega))) ⟨c, o, h1, ⟨h2, ?_⟩, ?_⟩⟩
  · obtain ⟨y1, y5, -, -⟩ := h4
    exact ⟨y1, y5, g1, fun k hk => absurd hk (Nat.not_lt_zero _)⟩
  · have ez : tsz o ((b', i, j', pl, nv, vs, L0, [], s', md') :: r) = tsz o r + 4 + nv + psz L0 := by
      show tsz o r + (4 + nv + psz L0 + 0) = _
      omega
    rw [ez]
    exact v2.grd
theorem vk_open {F : Km → Prop} (hk : VK κ n ((b, i, j, pl, nv, vs, L, [], s, md) :: r)) (hz : tsz 0 ((b, i, j, pl, nv, vs, L, [], s, md) :: r) ≤ 17000) (q : ∀ κ', Vo n κ κ' → VK κ' n ((b', i, j', pl, nv, vs, L ++ [(1, t', h, 0, 0)], [], s', md') :: r) → F κ') : KC' X 4 MX10_openGuard [vR (1002 + 8 * n), vI (nI h)] κ (kRV F) := by
  obtain ⟨c, o, h1, ⟨h2, y1, y5, y6, y7⟩, h3⟩ := hk
  have ez : tsz o ((b, i, j, pl, nv, vs, L, [], s, md) :: r) = tsz o r + 4 + nv + psz L := by
    show tsz o r + (4 + nv + psz L + 0) = _
    omega
  have eg : tgd o ((b, i, j, pl, nv, vs, L, [], s, md) :: r) = gdo (tsz o r + 4 + nv) (tgd o r) L := rfl
  have t1 := tsz_o (o := o) ((b, i, j, pl, nv, vs, L, [], s, md) :: r)
  rw [ez, eg] at h3
  refine KC_of_K rfl (Nat.le_of_ble_eq_true rfl) rfl (k_10_openGuard_0 _ _ ⟨h3.v, 3, by omega, ?_⟩)
  rw [h3.2.1.2.2.1, h3.2.1.1]
  refine kc_vpush h3 (by omega) (fun κ1 o1 v1 => ⟨3, by omega, kc_vpush v1 (by omega) (fun κ2 o2 v2 => ⟨3, by omega, kc_vpush v2 (by omega) (fun κ3 o3 v3 => ⟨3, by omega, kc_vpush v3 (by omega) (fun κ4 o4 v4 => ?_)⟩)⟩)⟩)
  rintro κ22 rfl
  have cc : ∀ k, k < tsz o r + 4 + nv + psz L → ud (ud (ud (ud c (tsz o r + 4 + nv + psz L) (gdo (tsz o r + 4 + nv) (tgd o r) L)) (tsz o r + 4 + nv + psz L + 1) (nI h)) (tsz o r + 4 + nv + psz L + 1 + 1) 0) (tsz o r + 4 + nv + psz L + 1 + 1 + 1) 0 k = c k := fun k hk => by
    rw [ud_ne (by omega), ud_ne (by omega), ud_ne (by omega), ud_ne (by omega)]
  refine ⟨rfl, q _ (((o1.trans o2).trans (o3.trans o4)).trans (Vo.reg (by omega))) ⟨(ud (ud (ud (ud c (tsz o r + 4 + nv + psz L) (gdo (tsz o r + 4 + nv) (tgd o r) L)) (tsz o r + 4 + nv + psz L + 1) (nI h)) (tsz o r + 4 + nv + psz L + 1 + 1) 0) (tsz o r + 4 + nv + psz L + 1 + 1 + 1) 0), o, h1, ⟨FsC.cg (c' := (ud (ud (ud (ud c (tsz o r + 4 + nv + psz L) (gdo (tsz o r + 4 + nv) (tgd o r) L)) (tsz o r + 4 + nv + psz L + 1) (nI h)) (tsz o r + 4 + nv + psz L + 1 + 1) 0) (tsz o r + 4 + nv + psz L + 1 + 1 + 1) 0)) r h2 (fun k hk => cc k (by omega)), ?_⟩, ?_⟩⟩
  · refine ⟨?_, fun k hk => ?_, (ItsC_app _ _ _ _).mpr ⟨ItsC.cg _ _ _ y6 (fun k k1 k2 => cc k k2), ⟨fun z => absurd z (show (1 : Nat) ≠ 0 by decide), fun _ => ⟨?_, ?_, ?_, ?_⟩⟩, trivial⟩, fun k hk => absurd hk (Nat.not_lt_zero _)⟩
    · rw [cc _ (by omega), cc _ (by omega), cc _ (by omega), cc _ (by omega)]; exact y1
    · have hk : k < nv := hk
      rw [cc _ (by omega)]; exact y5 k hk
    · show ud (ud (ud (ud c _ _) _ _) _ _) _ _ (tsz o r + 4 + nv + psz L) = _
      rw [ud_ne (by omega), ud_ne (by omega), ud_ne (by omega), ud_eq]
    · show ud (ud (ud (ud c _ _) _ _) _ _) _ _ (tsz o r + 4 + nv + psz L + 1) = _
      rw [ud_ne (by omega), ud_ne (by omega), ud_eq]
    · show ud (ud (ud (ud c _ _) _ _) _ _) _ _ (tsz o r + 4 + nv + psz L + 2) = _
      rw [ud_ne (by omega), ud_eq]
      rfl
    · show ud (ud (ud (ud c _ _) _ _) _ _) _ _ (tsz o r + 4 + nv + psz L + 3) = _
      rw [ud_eq]
  · have ez2 : tsz o ((b', i, j', pl, nv, vs, L ++ [(1, t', h, 0, 0)], [], s', md') :: r) = tsz o r + 4 + nv + psz L + 1 + 1 + 1 + 1 := by
      show tsz o r + (4 + nv + psz (L ++ [(1, t', h, 0, 0)]) + 0) = _
      rw [psz_app]
      have : psz [((1, t', h, 0, 0) : Ite)] = 4 := rfl
      omega
    have eg2 : tgd o ((b', i, j', pl, nv, vs, L ++ [(1, t', h, 0, 0)], [], s', md') :: r) = nI (tsz o r + 4 + nv + psz L) := gdo_last (Es := []) (show (1 : Nat) ≠ 0 by decide) (fun y hy => absurd hy List.not_mem_nil)
    rw [ez2, eg2]
    exact v4.grd
theorem vk_leave {F : Int32 → Km → Prop} {f f1 : Frm} (hk : VK κ n (f :: f1 :: r)) (hg : noG (frL f)) (hm : r.length < 900) (q : ∀ κ', Vo n κ κ' → VK κ' n (f1 :: r) → F 1 κ') : KC' X 1 MX10_leave [vR (1002 + 8 * n)] κ (kRI F) := by
  obtain ⟨c, o, h1, ⟨h2, y1, y5, y6, y7⟩, h3⟩ := hk
  have ez : tsz o (f :: f1 :: r) = tsz o (f1 :: r) + fsz f := rfl
  unfold fsz at ez
  have eg : tgd o (f :: f1 :: r) = tgd o (f1 :: r) := gdo_noG _ _ _ hg
  have el : (f :: f1 :: r).length = r.length + 2 := rfl
  rw [eg, el] at h3
  refine kc_vleave (b' := bse o (f1 :: r)) h3 (by omega) (by omega) (by show tsz o (f1 :: r) + 2 < _; omega) y1.2.2.1 (fun κ' vo v => q κ' vo ⟨c, o, h1, h2, ?_⟩)
  have e1 : c (bse o (f :: f1 :: r) + 1) = pcs (f1 :: r) := y1.2.1
  rw [e1] at v
  exact v
theorem vk_leave0 {F : Int32 → Km → Prop} {f : Frm} (hk : VK κ n [f]) (q : F 0 κ) : KC' X 1 MX10_leave [vR (1002 + 8 * n)] κ (kRI F) := by
  obtain ⟨c, o, h1, h2, h3⟩ := hk
  exact kc_vleave0 h3 (Nat.le_refl _) q
/-- what the innermost catch of the innermost call keeps -/
theorem vk_caught {F : Int32 → Km → Prop} (hk : VK κ n ((b, i, j, pl, nv, vs, L, O, s, md) :: r)) (hz : tsz 0 ((b, i, j, pl, nv, vs, L, O, s, md) :: r) ≤ 17000) (hl : L.length ≤ 24) (hph : ∀ y, y ∈ L → y.2.2.2.1 < 5) (q : F (cau 0 L) κ) : KC' X 1 MX10_caught [vR (1002 + 8 * n)] κ (kRI F) := by
  obtain ⟨c, o, h1, ⟨h2, y1, y5, y6, y7⟩, h3⟩ := id hk
  have ez : tsz o ((b, i, j, pl, nv, vs, L, O, s, md) :: r) = tsz o r + (4 + nv + psz L + O.length) := rfl
  have t1 := tsz_o (o := o) ((b, i, j, pl, nv, vs, L, O, s, md) :: r)
  have eb : kI κ (1002 + 8 * n) 14 = nI (tsz o r) := h3.2.1.2.1
  have loop : ∀ (m : Nat) (M : List Ite) (u : Nat), M.length ≤ m → u + M.length ≤ 24 → psz M ≤ psz L → ItsC c (tsz o r + 4 + nv) (tgd o r) M → (∀ y, y ∈ M → y.2.2.2.1 < 5) → F (cau 0 M) κ → K X 1 MX10_caught 7 [(0, vR (1002 + 8 * n)), (1, vI (gdo (tsz o r + 4 + nv) (tgd o r) M)), (2, vI (nI u))] [] κ (kRI F) := by
    intro m
    induction m with
    | zero =>
      intro M u hM hu hp hi h5 hF
      have e : M = [] := List.length_eq_zero_iff.mp (by omega)
      subst e
      refine k_10_caught_7 _ _ _ ?_
      rw [litI 24, le_nI (by omega) (by omega), eb]
      exact ⟨fun _ => k_10_caught_52 _ _ _ ⟨_, rfl, hF⟩, fun _ => ⟨hk.v, fun _ => k_10_caught_52 _ _ _ ⟨_, rfl, hF⟩, fun z => absurd (g9_le (by omega)) z⟩⟩
    | succ m ih =>
      intro M u hM hu hp hi h5 hF
      refine k_10_caught_7 _ _ _ ?_
      rw [litI 24, le_nI (by omega) (by omega), eb]
      rcases split_G M with hn | ⟨M0, y, E1, e1, hy, he⟩
      · have e0 : cau 0 M = 0 := cau_noG _ _ hn
        rw [e0] at hF
        rw [gdo_noG _ _ _ hn]
        exact ⟨fun _ => k_10_caught_52 _ _ _ ⟨_, rfl, hF⟩, fun _ => ⟨hk.v, fun _ => k_10_caught_52 _ _ _ ⟨_, rfl, hF⟩, fun z => absurd (g9_le (by omega)) z⟩⟩
      · subst e1
        have hlen : (M0 ++ y :: E1).length = M0.length + (E1.length + 1) := by rw [List.length_append]; rfl
        have hpz : psz (M0 ++ y :: E1) = psz M0 + (isz y + psz E1) := by rw [psz_app]; rfl
        have hiz : isz y = 4 := if_neg hy
        have hi2 := (ItsC_app _ _ _ _).mp hi
        have hc := hi2.2.1.2 hy
        rw [cau_last hy he] at hF
        rw [gdo_last hy he, le_nI (by omega) (by omega)]
        refine ⟨fun z => absurd z (by omega), fun _ => ⟨hk.v, fun z => absurd z (by omega), fun _ => ⟨0, by omega, ?_⟩⟩⟩
        rw [litI 2, nI_add]
        refine kc_vcell h3 (by omega) ?_
        rw [hc.2.2.1]
        by_cases z1 : y.2.2.2.1 = 1
        · rw [if_pos z1] at hF
          refine ⟨fun _ => ⟨0, by omega, ?_⟩, fun z => absurd (by rw [z1]; rfl) z⟩
          rw [litI 3, nI_add]
          refine kc_vcell h3 (by omega) ?_
          rw [hc.2.2.2]
          exact ⟨_, rfl, hF⟩
        · rw [if_neg z1] at hF
          refine ⟨fun z => ?_, fun _ => ⟨0, by omega, ?_⟩⟩
          · have hb := h5 y (List.mem_append_right _ (List.mem_cons_self ..))
            exact absurd ((nI_eq (b := 1) (by omega) (by omega)).mp z) z1
          · refine kc_vcell h3 (by omega) ?_
            rw [hc.1, nI_1]
            exact ih M0 (u + 1) (by omega) (by omega) (by omega) hi2.1 (fun z hz => h5 z (List.mem_append_left _ hz)) hF
  refine KC_of_K rfl (Nat.le_of_ble_eq_true rfl) rfl (k_10_caught_0 _ ⟨hk.v, ?_⟩)
  rw [h3.2.1.2.2.1]
  exact loop L.length L 0 (Nat.le_refl _) (by omega) (Nat.le_refl _) y6 hph q
end VGUARDS
