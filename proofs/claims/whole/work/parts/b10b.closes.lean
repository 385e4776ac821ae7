/-! CLOSE: the methods; one that is not begun is over while another runs -/
section CLOSES
variable {X : Cx} {d e er : Nat} {κ0 κ κa κb κh κw κ1 κ' : Km} {σ0 σ σa σh σr σw σ1 σ' : Rm} {b V al S T sp z LT HT F0 v p n x q g k s s0 num pn : Nat} {st : Nat → Nat} {fr fr' : Nat → List Frm} {pt : Nat → Nat} {fs fs0 r rr : List Frm} {ch cr : List Nat} {w rz : Nat → Nat} {y y' u a val vo pl0 ca : Int32} {f f1 f' : Frm} {C : Km → Prop} {P G : Rm → Prop} {o : Option (List Nat)}
variable {bd i j nv md i' j' s' md' : Nat} {pl : Int32} {vs : Nat → Int32} {L L0 : List Ite} {O O1 O0 : List Int32}
theorem StF.e4 (sf : StF κ σ V st) (hn : 1 ≤ n ∧ n ≤ V) : (kI κ (1002 + 8 * n) 1 = 2) = (st n = 2) ∧ (kI κ (1002 + 8 * n) 1 = 3) = (st n = 3) ∧ (kI κ (1002 + 8 * n) 1 = 0) = (st n = 0) ∧ (kI κ (1002 + 8 * n) 1 = 1) = (st n = 1) := by
  obtain ⟨-, g2, g3, -⟩ := sf.2 n hn.1 hn.2
  rw [g2, litI 2, litI 3, litI 0, litI 1, eq_nI (by omega) (by omega), eq_nI (by omega) (by omega), eq_nI (by omega) (by omega), eq_nI (by omega) (by omega)]
  exact ⟨rfl, rfl, rfl, rfl⟩
theorem pp_close (hk : VK κ v ((bd, i, j, pl, nv, vs, L, O ++ [a], s, md) :: r)) (sf : StF κ σ V st) {y0 : Int32} (q : ∀ κa, Vo v κ κa → VK κa v ((bd, i, j', pl, nv, vs, L, O, s', md') :: r) → ∀ k, HdA V a k → KC' X 9 MX6_closeBy [vR 79, vR (1002 + 8 * v), vR k] κa (kRV C)) : KC' X 10 MX6_playPart [vR 79, vR (1002 + 8 * v), vI (nI 29), vI y0] κ (kRV C) := by
  refine KC_of_K rfl (Nat.le_of_ble_eq_true rfl) rfl (k_6_playPart_0 _ _ _ ⟨fun z => absurd z (by decide), fun z => absurd z (by decide), fun z => absurd z (by decide), fun z => absurd z (by decide), fun z => absurd z (by decide), fun z => absurd z (by decide), fun z => absurd z (by decide), fun z => absurd z (by decide), fun z => absurd z (by decide), fun z => absurd z (by decide), fun _ => ⟨hk.v, 0, by omega, ?_⟩⟩)
  refine vk_pop (b' := bd) (j' := j') (s' := s') (md' := md') hk (fun κ2 vo2 vk2 => ⟨0, by omega, kc_findA (sf.kvo vo2) (fun k hk2 => ⟨9, by omega, (q κ2 vo2 vk2 k hk2).mono ?_⟩)⟩)
  rintro r0 κ3 ⟨rfl, hC⟩
  exact ⟨rfl, k_6_playPart_213 _ _ _ ⟨rfl, hC⟩⟩
/-- a misuse -/
theorem kc_closeN (hk : VK κ v (f :: r)) (sf : StF κ σ V st) (hv : 1 ≤ v ∧ v ≤ V) (fl : FRl κ σ' F0) (hF : F0 < 7900) (mis : Mis σ V v st a o) (h4 : ∀ n, 1 ≤ n → n ≤ V → a = nI n → st n < 4) (ha : HdA V a k) (q : ∀ κb κ', FmC κ κb F0 (nI 10) 0 (nI v) (frP f) 0 → RoC (cI κb 79 14 (nI (F0 + 1))) κ' o → C κ') : KC' X 9 MX6_closeBy [vR 79, vR (1002 + 8 * v), vR k] κ (kRV C) := by
  have hV := sf.1.2.1
  have hkV := sf.1.2.2.1
  have go : okv κ (vR k) → K X 9 MX6_closeBy 20 [(0, vR 79), (1, vR (1002 + 8 * v)), (2, vR k)] [] κ (kRV C) := fun ho => by
    refine k_6_closeBy_20z _ _ ⟨hk.v, ho, 8, by omega, kc_misuse hk sf hv fl hF mis ha (fun κb κ' h1 h2 => k_6_closeBy_92 _ _ ⟨rfl, q κb κ' h1 h2⟩)⟩
  rcases id ha with ⟨n, n1, n2, rfl⟩ | ⟨hz, rfl⟩
  · have hH : isH κ (1002 + 8 * n) 10 := isH_voice n1.1 (by omega)
    obtain ⟨-, g2, g3, -⟩ := sf.2 n n1.1 n1.2
    have h3 := h4 n n1.1 n1.2 n2
    have h2 : 2 ≤ st n := by
      rcases id mis with ⟨hz, -⟩ | ⟨m, m1, m2, hc⟩
      · rw [n2, litI 1, lt_nI (by omega) (by omega), lt_nI (by omega) (by omega)] at hz
        omega
      · rw [n2, eq_nI (by omega) (by omega)] at m2
        subst m2
        rcases hc with ⟨c1, -⟩ | ⟨c1, -⟩ <;> omega
    refine KC_of_K rfl (Nat.le_of_ble_eq_true rfl) rfl (k_6_closeBy_0 _ _ ⟨Or.inr hH.1, fun z => absurd z (by omega), fun _ => ⟨hH, ?_⟩⟩)
    obtain ⟨e2, e3, e0, e1⟩ := sf.e4 n1
    rw [e2, e3, e0, e1]
    exact ⟨fun _ => go (isH.ok hH (by decide)), fun _ => ⟨fun _ => go (isH.ok hH (by decide)), fun _ => ⟨fun z => absurd z (by omega), fun _ => ⟨fun z => absurd z (by omega), fun _ => by omega⟩⟩⟩⟩
  · exact KC_of_K rfl (Nat.le_of_ble_eq_true rfl) rfl (k_6_closeBy_0 _ _ ⟨Or.inl rfl, fun _ => go (Or.inl (by decide)), fun z => absurd rfl z⟩)
/-- one that is over: nothing -/
theorem kc_closeO (sf : StF κ σ V st) (hn : 1 ≤ n ∧ n ≤ V) (hs : 4 ≤ st n) (q : C κ) : KC' X 9 MX6_closeBy [vR 79, vR (1002 + 8 * v), vR (1002 + 8 * n)] κ (kRV C) := by
  have hV := sf.1.2.1
  have hkV := sf.1.2.2.1
  have hH : isH κ (1002 + 8 * n) 10 := isH_voice hn.1 (by omega)
  obtain ⟨-, g2, g3, -⟩ := sf.2 n hn.1 hn.2
  refine KC_of_K rfl (Nat.le_of_ble_eq_true rfl) rfl (k_6_closeBy_0 _ _ ⟨Or.inr hH.1, fun z => absurd z (by omega), fun _ => ⟨hH, ?_⟩⟩)
  obtain ⟨e2, e3, e0, e1⟩ := sf.e4 hn
  rw [e2, e3, e0, e1]
  exact ⟨fun z => absurd z (by omega), fun _ => ⟨fun z => absurd z (by omega), fun _ => ⟨fun z => absurd z (by omega), fun _ => ⟨fun z => absurd z (by omega), fun _ => k_6_closeBy_92 _ _ ⟨rfl, q⟩⟩⟩⟩⟩
/-- one that is not begun -/
theorem kc_close0 (hk : VK κ v (f :: r)) (a : Bn κ0 σ0 κ σ b V al S T sp z LT HT F0 st fr pt 0) (hn : 1 ≤ n ∧ n ≤ V) (hs : st n = 0) (q : C (enK κ n sp 6)) : KC' X 9 MX6_closeBy [vR 79, vR (1002 + 8 * v), vR (1002 + 8 * n)] κ (kRV C) := by
  have sf := a.stf
  have hV := sf.1.2.1
  have hkV := sf.1.2.2.1
  have hH : isH κ (1002 + 8 * n) 10 := isH_voice hn.1 (by omega)
  obtain ⟨-, g2, g3, -⟩ := sf.2 n hn.1 hn.2
  refine KC_of_K rfl (Nat.le_of_ble_eq_true rfl) rfl (k_6_closeBy_0 _ _ ⟨Or.inr hH.1, fun z => absurd z (by omega), fun _ => ⟨hH, ?_⟩⟩)
  obtain ⟨e2, e3, e0, e1⟩ := sf.e4 hn
  rw [e2, e3, e0, e1]
  exact ⟨fun z => absurd z (by omega), fun _ => ⟨fun z => absurd z (by omega), fun _ => ⟨fun _ => ⟨hk.v, 2, by omega, kc_end a hn (k_6_closeBy_92 _ _ ⟨rfl, q⟩)⟩, fun z => absurd hs z⟩⟩⟩
/-- one at its yield -/
theorem kc_closeY (hk : VK κ v (f :: r)) (sf : StF κ σ V st) (hv : 1 ≤ v ∧ v ≤ V) (fl : FRl κ σ' F0) (hF : F0 < 7900) (hn : 1 ≤ n ∧ n ≤ V) (hnv : n ≠ v) (hs : st n = 1) (q : ∀ κb, FmC (cI (cI κ (1002 + 8 * v) 1 3) (1002 + 8 * n) 11 1) κb F0 (nI 14) 0 (nI v) (frP f) 0 → KC' X 5 MX6_throwInto [vR 79, vR (1002 + 8 * n), vI (nI v), vI (nI (F0 + 1))] κb (kRV C)) : KC' X 9 MX6_closeBy [vR 79, vR (1002 + 8 * v), vR (1002 + 8 * n)] κ (kRV C) := by
  have hV := sf.1.2.1
  have hkV := sf.1.2.2.1
  have hH : isH κ (1002 + 8 * n) 10 := isH_voice hn.1 (by omega)
  obtain ⟨-, g2, g3, -⟩ := sf.2 n hn.1 hn.2
  have ev := (sf.2 v hv.1 hv.2).1
  refine KC_of_K rfl (Nat.le_of_ble_eq_true rfl) rfl (k_6_closeBy_0 _ _ ⟨Or.inr hH.1, fun z => absurd z (by omega), fun _ => ⟨hH, ?_⟩⟩)
  obtain ⟨e2, e3, e0, e1⟩ := sf.e4 hn
  rw [e2, e3, e0, e1]
  refine ⟨fun z => absurd z (by omega), fun _ => ⟨fun z => absurd z (by omega), fun _ => ⟨fun z => absurd z (by omega), fun _ => ⟨fun _ => ⟨hk.v, ?_⟩, fun z => absurd hs z⟩⟩⟩⟩
  rintro κ15 rfl κ16 rfl
  have vkw : VK (cI (cI κ (1002 + 8 * v) 1 3) (1002 + 8 * n) 11 1) v (f :: r) := hk.cg5 (fun k hk => by rw [kI_ne (by omega), kI_nk (by omega)]) (by rw [kI_ne (by omega), kI_ne (by omega)]) rfl (Nat.le_refl _)
  refine ⟨0, by omega, vk_place vkw ⟨3, by omega, ?_⟩⟩
  rw [kI_ne (by omega), kI_nk (by decide), ev]
  refine kc_fmake (by rw [kI_ne (by omega), kI_ne (by omega)]; exact fl.1.1) hF fl.2.1 (fun κb fc => ⟨5, by omega, (q κb fc).mono ?_⟩)
  rintro r0 κ3 ⟨rfl, hC⟩
  exact ⟨rfl, k_6_closeBy_92 _ _ ⟨rfl, hC⟩⟩
end CLOSES
