/-! the turn goes back: the class's goBack, the reference's comes -/
section BACKS
variable {X : Cx} {d e : Nat} {κ0 κ κ1 κ' : Km} {σ0 σ σ1 σ' : Rm} {b V al S T T' sp z LT HT LT' HT' F0 F0' v p n x x' q s : Nat} {st : Nat → Nat} {fr : Nat → List Frm} {pt : Nat → Nat} {fs r : List Frm} {ch : List Nat} {y u : Int32} {g : Nat → Int32}
variable {bd i j nv md b' i' j' s' md' a1 a2 a3 i2 j2 m : Nat} {pl : Int32} {vs : Nat → Int32} {L L0 : List Ite} {O : List Int32} {C : Km → Prop} {D : Rm → Prop}
theorem cI_cI {h k : Nat} : cI (cI κ h k y) h k u = cI κ h k u := by
  have e : up2 (up2 κ.1 h k y) h k u = up2 κ.1 h k u := by
    funext a c
    show (if a = h ∧ c = k then u else if a = h ∧ c = k then y else κ.1 a c) = if a = h ∧ c = k then u else κ.1 a c
    split <;> rfl
  show (up2 (up2 κ.1 h k y) h k u, κ.2) = (up2 κ.1 h k u, κ.2)
  rw [e]
theorem cI_sm {h k : Nat} (hv : kI κ h k = y) : cI κ h k y = κ := by
  have e : up2 κ.1 h k y = κ.1 := by
    funext a c
    show (if a = h ∧ c = k then y else κ.1 a c) = κ.1 a c
    split
    · rename_i z
      rw [z.1, z.2]
      exact hv.symm
    · rfl
  show (up2 κ.1 h k y, κ.2) = κ
  rw [e]
theorem wI_sm {k i : Nat} (hv : aI σ k i = y) : wI σ k i y = σ := by
  have e : up2 σ.1 k i y = σ.1 := by
    funext a c
    show (if a = k ∧ c = i then y else σ.1 a c) = σ.1 a c
    split
    · rename_i z
      rw [z.1, z.2]
      exact hv.symm
    · rfl
  show (up2 σ.1 k i y, σ.2) = σ
  rw [e]
theorem VK.gho (h : VK κ n ((bd, i, j, pl, nv, vs, L, O, s, md) :: r)) : VK κ n ((bd, i, j', pl, nv, vs, L, O, s', md') :: r) := h
theorem VR.gho (h : VR σ n p ((bd, i, j, pl, nv, vs, L, O, s, md) :: r)) (hi : i' < 20000) : VR σ n p ((bd, i', j, pl, nv, vs, L, O, s', md') :: r) := by
  obtain ⟨h1, h2, h3, h4, ⟨f1, f2, f3, f4, f5, f6⟩, h6⟩ := h
  exact ⟨h1, h2, h3, h4, ⟨f1, f2, f3, f4, hi, f6⟩, h6⟩
/-- the voice of an each is taken from the stack -/
theorem vk_popE {F : Int32 → Km → Prop} (h : VK κ n ((bd, i, j, pl, nv, vs, L ++ [(0, a1, a2, a3, y)], [], s, md) :: r)) (q : ∀ κ', Vo n κ κ' → VK κ' n ((bd, i, j', pl, nv, vs, L, [], s', md') :: r) → F y κ') : KC' X 0 MX10_pop [vR (1002 + 8 * n)] κ (kRI F) := by
  obtain ⟨c, o, h1, ⟨h2, g1, g2, g3, g4⟩, h3⟩ := h
  have g3 : ItsC c (tsz o r + 4 + nv) (tgd o r) (L ++ [(0, a1, a2, a3, y)]) := g3
  have g3' := (ItsC_app _ _ _ _).mp g3
  have ey : c (tsz o r + 4 + nv + psz L) = y := g3'.2.1.1 rfl
  have ez : tsz o ((bd, i, j, pl, nv, vs, L ++ [(0, a1, a2, a3, y)], [], s, md) :: r) = tsz o r + 4 + nv + psz L + 1 := by
    show tsz o r + (4 + nv + psz (L ++ [(0, a1, a2, a3, y)]) + 0) = _
    rw [psz_app]
    have : psz [((0, a1, a2, a3, y) : Ite)] = 1 := rfl
    omega
  have ez2 : tsz o ((bd, i, j', pl, nv, vs, L, [], s', md') :: r) = tsz o r + 4 + nv + psz L := by
    show tsz o r + (4 + nv + psz L + 0) = _
    omega
  have eg : tgd o ((bd, i, j, pl, nv, vs, L ++ [(0, a1, a2, a3, y)], [], s, md) :: r) = tgd o ((bd, i, j', pl, nv, vs, L, [], s', md') :: r) := by
    show gdo (tsz o r + 4 + nv) (tgd o r) (L ++ [(0, a1, a2, a3, y)]) = gdo (tsz o r + 4 + nv) (tgd o r) L
    rw [gdo_app]
    rfl
  rw [ez, eg] at h3
  refine kc_vpop h3 (fun κ' vo v => ?_)
  rw [ey]
  exact q κ' vo ⟨c, o, h1, ⟨h2, g1, g2, g3'.1, fun k hk => absurd hk (Nat.not_lt_zero _)⟩, by rw [ez2]; exact v⟩
/-- goBack to the desk -/
theorem kc_goBack0 {how x : Int32} {cl : Nat} (hv : isH κ (1002 + 8 * v) 10) (h0 : kI κ (1002 + 8 * v) 0 = nI v) (h5 : kI κ (1002 + 8 * v) 5 = 0) (p : PrC κ 82 HT g) (hT : HT < 2000000000) (h10 : kI κ 79 10 = nI V) (hV : V ≤ 60) (hkV : V ≤ kV κ) (h11 : kI κ (1002 + 8 * v) 11 = nI cl) (hcl : cl ≤ 1) (hd : 4 ≤ d) (q : ∀ κ1, HdC κ κ1 HT (nI v) 0 → C (cI (cI (cI κ1 79 13 0) 79 15 how) 79 16 (if cl = 0 then x else kI κ 79 16))) : KC' X d MX6_goBack [vR 79, vR (1002 + 8 * v), vI x, vI how] κ (kRV C) := by
  refine KC_of_K rfl (Nat.le_of_ble_eq_true rfl) rfl (k_6_goBack_0 _ _ _ ⟨hv, 3, by omega, ?_⟩)
  rw [h0, h5]
  refine kc_hand p hT (fun κ1 hd1 => ?_)
  have eh : ∀ g, g ≠ 82 → g ≠ 83 → kI κ1 g = kI κ g := fun g c1 c2 => (hd1.1.1.1 g (fun z => z.elim c1 c2)).1
  rw [eh _ (by omega) (by omega), h5]
  rintro κ7 rfl
  rw [kI_eq]
  refine ⟨0, by omega, kc_vfind (V := V) (by rw [kI_nk (by decide), eh 79 (by decide) (by decide)]; exact h10) hV (by show V ≤ kV κ1; rw [hd1.1.1.2.2.2]; exact hkV) (fun m m1 m2 ee => ?_) (fun _ => ?_)⟩
  · rw [litI 0, eq_nI (by omega) (by omega)] at ee
    omega
  · refine ⟨Or.inl rfl, fun _ => ?_, fun z => absurd rfl z⟩
    rintro κ16 rfl κ17 rfl
    rw [cI_cI, kI_ne (by omega), kI_ne (by omega), eh _ (by omega) (by omega), h11, litI 0, eq_nI (by omega) (by omega)]
    refine ⟨fun c => k_6_goBack_64 _ _ _ _ _ ?_, fun c => k_6_goBack_64 _ _ _ _ _ ?_⟩
    · rintro κ2 rfl
      have q := q κ1 hd1
      rw [if_pos c] at q
      exact ⟨rfl, q⟩
    · rintro κ2 rfl
      have q := q κ1 hd1
      rw [if_neg c] at q
      rw [kI_nk (by decide), kI_nk (by decide), eh 79 (by decide) (by decide)]
      exact ⟨rfl, q⟩
/-- goBack to a voice -/
theorem kc_goBackV {how x a : Int32} {w : Nat} (hv : isH κ (1002 + 8 * v) 10) (h0 : kI κ (1002 + 8 * v) 0 = nI v) (h5 : kI κ (1002 + 8 * v) 5 = nI w) (hw : 1 ≤ w ∧ w ≤ V) (p : PrC κ 82 HT g) (hT : HT < 2000000000) (h10 : kI κ 79 10 = nI V) (hV : V ≤ 60) (hkV : V ≤ kV κ) (cf : CF κ0 κ m) (vk : VK κ w ((bd, i + 1, j, pl, nv, vs, L, O, s, md) :: r)) (hi : i < m) (ea : kI κ0 69 i = a) (hd : 4 ≤ d)
    (q29 : a = 29 → ∀ κ1, HdC κ κ1 HT (nI v) (nI w) → C (cI (cI κ1 79 13 (nI w)) (1002 + 8 * w) 1 2))
    (q30 : a = 30 → how = 1 → ∀ κ1, HdC κ κ1 HT (nI v) (nI w) → KC' X 0 MX10_pop [vR (1002 + 8 * w)] (cI (cI κ1 79 13 (nI w)) (1002 + 8 * w) 1 2) (kRI fun _ κ2 => kI κ2 (1002 + 8 * w) 9 = nI (i + 1) ∧ CF κ0 κ2 m ∧ C (cI κ2 (1002 + 8 * w) 9 (kI κ0 70 i))))
    (qp : a ≠ 29 → ¬ (a = 30 ∧ how = 1) → ∀ κ1, HdC κ κ1 HT (nI v) (nI w) → KC' X 3 MX10_push [vR (1002 + 8 * w), vI x] (cI (cI κ1 79 13 (nI w)) (1002 + 8 * w) 1 2) (kRV C)) : KC' X d MX6_goBack [vR 79, vR (1002 + 8 * v), vI x, vI how] κ (kRV C) := by
  refine KC_of_K rfl (Nat.le_of_ble_eq_true rfl) rfl (k_6_goBack_0 _ _ _ ⟨hv, 3, by omega, ?_⟩)
  rw [h0, h5]
  refine kc_hand p hT (fun κ1 hd1 => ?_)
  have eh : ∀ g, g ≠ 82 → g ≠ 83 → kI κ1 g = kI κ g := fun g c1 c2 => (hd1.1.1.1 g (fun z => z.elim c1 c2)).1
  have ew : ∀ g, g ≠ 82 → g ≠ 83 → kW κ1 g = kW κ g := fun g c1 c2 => (hd1.1.1.1 g (fun z => z.elim c1 c2)).2.2
  have ekv : kV κ1 = kV κ := hd1.1.1.2.2.2
  rw [eh _ (by omega) (by omega), h5]
  rintro κ7 rfl
  rw [kI_eq]
  refine ⟨0, by omega, kc_vfind (V := V) (by rw [kI_nk (by decide), eh 79 (by decide) (by decide)]; exact h10) hV (by show V ≤ kV κ1; rw [ekv]; exact hkV) (fun n n1 n2 ee => ?_) (fun c => ?_)⟩
  · have en : w = n := by rw [eq_nI (by omega) (by omega)] at ee; exact ee
    subst en
    have hH : isH κ1 (1002 + 8 * w) 10 := isH_voice n1 (by rw [ekv]; omega)
    refine ⟨Or.inr hH.1, fun z => absurd z (by omega), fun _ => ⟨hH, ?_⟩⟩
    rintro κ20 rfl
    have cf2 : CF κ0 (cI (cI κ1 79 13 (nI w)) (1002 + 8 * w) 1 2) m := cf.cg (fun g h1 h2 => ⟨by rw [kI_ne (by omega), kI_ne (by omega), eh g (by omega) (by omega)], ew g (by omega) (by omega)⟩)
    have e9 : kI (cI (cI κ1 79 13 (nI w)) (1002 + 8 * w) 1 2) (1002 + 8 * w) 9 = nI (i + 1) := by rw [kI_nk (by decide), kI_ne (by omega), eh _ (by omega) (by omega)]; exact vk.pc9
    rw [e9, litI 1, nI_sb (by omega), show i + 1 - 1 = i by omega]
    refine ⟨0, by omega, kc_actC cf2.1 hi ?_⟩
    rw [cf2.2.2.2.1, ea]
    have hH2 : isH (cI (cI κ1 79 13 (nI w)) (1002 + 8 * w) 1 2) (1002 + 8 * w) 10 := hH
    have hv2 : isH (cI (cI κ1 79 13 (nI w)) (1002 + 8 * w) 1 2) (1002 + 8 * v) 10 := by
      have hvl := hv
      refine ⟨?_, hvl.2⟩
      have hl := hvl.1
      unfold live at hl ⊢
      have e1 : kB (cI (cI κ1 79 13 (nI w)) (1002 + 8 * w) 1 2) = kB κ := hd1.1.1.2.2.1
      have e2 : kV (cI (cI κ1 79 13 (nI w)) (1002 + 8 * w) 1 2) = kV κ := ekv
      rw [e1, e2]
      rcases hl with z | z | z | z | z | z
      · exact Or.inl z
      · exact Or.inr (Or.inl z)
      · exact Or.inr (Or.inr (Or.inl z))
      · exact Or.inr (Or.inr (Or.inr (Or.inl z)))
      · exfalso; omega
      · exfalso; omega
    have tail : ¬ (a = 30 ∧ how = 1) → K X d MX6_goBack 130 [(0, vR 79), (1, vR (1002 + 8 * v)), (2, vI x), (3, vI how), (4, vR (1002 + 8 * w)), (5, vI a)] [] (cI (cI κ1 79 13 (nI w)) (1002 + 8 * w) 1 2) (kRV C) := fun c => by
      refine k_6_goBack_130 _ _ _ _ _ ?_
      refine ⟨fun c2 => k_6_goBack_143 _ _ _ _ _ ⟨rfl, q29 c2 κ1 hd1⟩, fun c2 => ⟨hH2, hv2, 3, by omega, (qp c2 c κ1 hd1).mono ?_⟩⟩
      rintro r0 κ2 ⟨rfl, hC⟩
      exact ⟨rfl, k_6_goBack_143 _ _ _ _ _ ⟨rfl, hC⟩⟩
    refine ⟨fun c30 => ⟨fun ch => ⟨0, by omega, (q30 c30 ch κ1 hd1).mono ?_⟩, fun ch => tail (fun z => ch z.2)⟩, fun c30 => tail (fun z => c30 z.1)⟩
    rintro r0 κ2 ⟨y0, rfl, k9, cf3, hC⟩
    refine ⟨y0, rfl, 0, by omega, ?_⟩
    rw [k9, nI_sb (by omega), show i + 1 - 1 = i by omega]
    refine kc_argC cf3.1 hi ?_
    rintro κ41 rfl
    rw [cf3.2.2.2.2]
    exact k_6_goBack_143 _ _ _ _ _ ⟨rfl, hC⟩
  · rw [litI 1, lt_nI (by omega) (by omega), lt_nI (by omega) (by omega)] at c
    omega
/-- comes, at the desk -/
theorem ac_comes0 {x en cl : Int32} (q : D (wS (wS (wS σ 77 0) 78 (if en = 0 then 0 else 1)) 79 (if cl = 0 then x else sI σ 79))) : AC X 92 d MX13_comes [vR 92, vI 0, vI x, vI en, vI cl] σ (aRV D) := by
  have fin : ∀ t : Int32, t = (if en = 0 then 0 else 1) → A X 92 d MX13_comes 19 [(0, vR 92), (1, vI 0), (2, vI x), (3, vI en), (4, vI cl)] [vI t, vR 92] (wS σ 77 0) (aRV D) := fun t ht => by
    refine a_comes_19 _ _ _ _ _ ?_
    rintro s1 rfl
    refine ⟨fun c => a_comes_36 _ _ _ _ _ ?_, fun c => a_comes_36 _ _ _ _ _ ?_⟩
    · rintro s2 rfl
      rw [if_pos c] at q
      rw [ht]
      exact ⟨rfl, q⟩
    · rintro s2 rfl
      rw [if_neg c] at q
      rw [sI_ne (by decide), sI_ne (by decide), ht]
      exact ⟨rfl, q⟩
  refine AC_of_A rfl (Nat.le_of_ble_eq_true rfl) rfl (a_comes_0 _ _ _ _ ?_)
  rintro s1 rfl
  exact ⟨fun _ => ⟨fun c => fin 0 (by rw [if_pos c]), fun c => fin 1 (by rw [if_neg c])⟩, fun z => absurd rfl z⟩
/-- comes, at a voice -/
theorem ac_comesV {x en cl : Int32} {w mm : Nat} {f : Frm} (hw : 1 ≤ w ∧ w ≤ 60) (hk : VRx σ w p (f :: r)) (h56 : aI σ 56 w = nI mm) (hm : mm ≤ 3) (hd : 1 ≤ d)
    (q1 : mm = 1 → AC X 92 0 MX13_push [vR 92, vI (nI w), vI x] (wI (wS σ 77 (nI w)) 49 w 2) (aRV D))
    (q2 : mm = 2 → frJ f = j + 1 ∧ j + 1 < 12000 ∧ (en = 0 → ∃ k, aI σ 14 j = nI k ∧ k < 40 ∧ D (wI (wI (wS σ 77 (nI w)) 49 w 2) 66 (40 * (60 * p + r.length) + k) x)) ∧ (en ≠ 0 → D (wI (wI (wS σ 77 (nI w)) 49 w 2) 62 (60 * p + r.length) (aI σ 16 j))))
    (q3 : mm ≠ 1 → mm ≠ 2 → D (wI (wS σ 77 (nI w)) 49 w 2)) : AC X 92 d MX13_comes [vR 92, vI (nI w), vI x, vI en, vI cl] σ (aRV D) := by
  obtain ⟨⟨b1, b2, b3, b4⟩, -, ⟨e60, e68⟩, -, hf⟩ := id hk
  have b4 : r.length + 1 ≤ 60 := b4
  have e62 : aI σ 62 (60 * p + r.length) = nI (frJ f) := hf.2.1.2.1
  refine AC_of_A rfl (Nat.le_of_ble_eq_true rfl) rfl (a_comes_0 _ _ _ _ ?_)
  rintro s1 rfl
  refine ⟨fun z => absurd z (nI_ne0 (by omega) (by omega)), fun _ => ?_⟩
  rw [vpn (by omega), cl_nI (by omega)]
  refine ⟨by omega, ?_⟩
  rintro s5 rfl
  have hk2 : VRx (wI (wS σ 77 (nI w)) 49 w 2) w p (f :: r) := hk.cg (fun k h1 h2 => by rw [aI_ne (by omega), aI_ne (by omega)])
  refine ⟨0, hd, ac_call hk2 ?_⟩
  rw [aI_ne (by decide), aI_ne (by decide), h56, litI 1, litI 2, eq_nI (by omega) (by omega), eq_nI (by omega) (by omega)]
  refine ⟨by omega, fun c => ⟨0, hd, (q1 c).mono ?_⟩, fun c => ⟨by omega, fun c2 => ?_, fun c2 => a_comes_134 _ _ _ _ _ ⟨rfl, q3 c c2⟩⟩⟩
  · rintro r0 s0 ⟨rfl, hD⟩
    exact ⟨rfl, a_comes_134 _ _ _ _ _ ⟨rfl, hD⟩⟩
  · obtain ⟨ej, ej2, qa, qb⟩ := q2 c2
    have e62' : aI (wI (wS σ 77 (nI w)) 49 w (nI 2)) 62 (60 * p + r.length) = nI (j + 1) := by rw [aI_ne (by decide), aI_ne (by decide), e62, ej]
    have e14' : aI (wI (wS σ 77 (nI w)) 49 w (nI 2)) 14 = aI σ 14 := by rw [aI_ne (by decide), aI_ne (by decide)]
    have e16' : aI (wI (wS σ 77 (nI w)) 49 w (nI 2)) 16 = aI σ 16 := by rw [aI_ne (by decide), aI_ne (by decide)]
    rw [vpn (by omega), cl_nI (by omega), e62', nI_sb (by omega), show j + 1 - 1 = j by omega, vpn (by omega), cl_nI (by omega), e14', e16']
    refine ⟨by omega, fun c3 => ?_, fun c3 => ⟨by omega, by omega, ?_⟩⟩
    · obtain ⟨k, k1, k2, k3⟩ := qa c3
      rw [k1, litI 40, pk_mul, nI_add, vpn (by omega), cl_nI (by omega)]
      refine ⟨by omega, by omega, ?_⟩
      rintro s23 rfl
      exact a_comes_134 _ _ _ _ _ ⟨rfl, k3⟩
    · rintro s26 rfl
      exact a_comes_134 _ _ _ _ _ ⟨rfl, qb c3⟩
end BACKS
