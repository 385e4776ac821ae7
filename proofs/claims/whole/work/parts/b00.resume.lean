/-! RESUME and EACH: the methods -/
section RESUMES
variable {X : Cx} {d e er : Nat} {κ0 κ κa κb κc κ1 κ' : Km} {σ0 σ σa σc σr σ1 σ' : Rm} {b V al S T sp z LT HT F0 v p n x q g k s1 sc kn nw a0 j2 mm : Nat} {st : Nat → Nat} {fr fr' : Nat → List Frm} {pt : Nat → Nat} {fs fs0 r rr : List Frm} {ch cr : List Nat} {w rz : Nat → Nat} {y u a arg fm0 : Int32} {f f1 f' : Frm} {o : Option (List Nat)} {C : Km → Prop} {P : Rm → Prop}
variable {bd i j nv s md i' j' s' md' : Nat} {pl : Int32} {vs : Nat → Int32} {L L0 : List Ite} {O O1 O0 : List Int32}
theorem kc_resumeN (hk : VK κ v (f :: r)) (sf : StF κ σ V st) (hv : 1 ≤ v ∧ v ≤ V) (fl : FRl κ σ' F0) (hF : F0 < 7900) (mis : Mis σ V v st a o) (ha : HdA V a k) (q : ∀ κb κ', FmC κ κb F0 (nI 10) 0 (nI v) (frP f) 0 → RoC (cI κb 79 14 (nI (F0 + 1))) κ' o → C κ') : KC' X 9 MX6_resumeBy [vR 79, vR (1002 + 8 * v), vR k, vI y] κ (kRV C) := by
  have hV := sf.1.2.1
  have hkV := sf.1.2.2.1
  have go : okv κ (vR k) → K X 9 MX6_resumeBy 11 [(0, vR 79), (1, vR (1002 + 8 * v)), (2, vR k), (3, vI y)] [] κ (kRV C) := fun ho => k_6_resumeBy_11z _ _ _ ⟨hk.v, ho, 8, by omega, kc_misuse hk sf hv fl hF mis ha (fun κb κ' h1 h2 => ⟨rfl, q κb κ' h1 h2⟩)⟩
  rcases id ha with ⟨n, n1, n2, rfl⟩ | ⟨hz, rfl⟩
  · have hH : isH κ (1002 + 8 * n) 10 := isH_voice n1.1 (by omega)
    obtain ⟨-, g2, g3, -⟩ := sf.2 n n1.1 n1.2
    have h2 : 2 ≤ st n := by
      rcases id mis with ⟨hz, -⟩ | ⟨m, m1, m2, hc⟩
      · rw [n2, litI 1, lt_nI (by omega) (by omega), lt_nI (by omega) (by omega)] at hz
        omega
      · rw [n2, eq_nI (by omega) (by omega)] at m2
        subst m2
        rcases hc with ⟨c1, -⟩ | ⟨c1, -⟩ <;> omega
    exact KC_of_K rfl (Nat.le_of_ble_eq_true rfl) rfl (k_6_resumeBy_0 _ _ _ ⟨Or.inr hH.1, fun z => absurd z (by omega), fun _ => ⟨hH, hk.v, 0, by omega, kc_isReady hH g2 g3 (fun z => by omega) (fun _ => ⟨fun _ => go (isH.ok hH (by decide)), fun z => absurd rfl z⟩)⟩⟩)
  · exact KC_of_K rfl (Nat.le_of_ble_eq_true rfl) rfl (k_6_resumeBy_0 _ _ _ ⟨Or.inl rfl, fun _ => go (Or.inl (by decide)), fun z => absurd rfl z⟩)
theorem kc_resumeY (hk : VK κ v (f :: r)) (sf : StF κ σ V st) (hv : 1 ≤ v ∧ v ≤ V) (hn : 1 ≤ n ∧ n ≤ V) (hnv : n ≠ v) (hs : st n ≤ 1) (q : KC' X 6 MX6_give [vR 79, vI (nI v), vR (1002 + 8 * n), vI y] (cI (cI κ (1002 + 8 * v) 1 3) (1002 + 8 * n) 5 (nI v)) (kRV C)) : KC' X 9 MX6_resumeBy [vR 79, vR (1002 + 8 * v), vR (1002 + 8 * n), vI y] κ (kRV C) := by
  have hV := sf.1.2.1
  have hkV := sf.1.2.2.1
  have hH : isH κ (1002 + 8 * n) 10 := isH_voice hn.1 (by omega)
  obtain ⟨-, g2, g3, -⟩ := sf.2 n hn.1 hn.2
  have e0 := (sf.2 v hv.1 hv.2).1
  refine KC_of_K rfl (Nat.le_of_ble_eq_true rfl) rfl (k_6_resumeBy_0 _ _ _ ⟨Or.inr hH.1, fun z => absurd z (by omega), fun _ => ⟨hH, hk.v, 0, by omega, kc_isReady hH g2 g3 (fun _ => ⟨fun z => absurd z (by decide), fun _ => ?_⟩) (fun z => by omega)⟩⟩)
  rintro κ12 rfl
  rw [kI_nk (by decide), e0]
  rintro κ13 rfl
  rw [kI_ne (by omega), kI_nk (by decide), e0]
  refine ⟨6, by omega, q.mono ?_⟩
  rintro r0 κ2 ⟨rfl, hC⟩
  exact ⟨rfl, rfl, hC⟩
theorem pp_resume (hk : VK κ v ((bd, i, j, pl, nv, vs, L, O ++ [a] ++ [y], s, md) :: r)) (sf : StF κ σ V st) {y0 : Int32} (q : ∀ κa, Vo v κ κa → VK κa v ((bd, i, j', pl, nv, vs, L, O, s', md') :: r) → ∀ k, HdA V a k → KC' X 9 MX6_resumeBy [vR 79, vR (1002 + 8 * v), vR k, vI y] κa (kRV C)) : KC' X 10 MX6_playPart [vR 79, vR (1002 + 8 * v), vI (nI 26), vI y0] κ (kRV C) := by
  refine KC_of_K rfl (Nat.le_of_ble_eq_true rfl) rfl (k_6_playPart_0 _ _ _ ⟨fun z => absurd z (by decide), fun z => absurd z (by decide), fun z => absurd z (by decide), fun z => absurd z (by decide), fun z => absurd z (by decide), fun z => absurd z (by decide), fun _ => ⟨hk.v, 0, by omega, ?_⟩, fun z => absurd z (by decide), fun z => absurd z (by decide), fun z => absurd z (by decide), fun z => absurd (by decide) z⟩)
  refine vk_pop (b' := bd) (j' := j) (s' := s) (md' := md) hk (fun κ1 vo1 vk1 => ⟨0, by omega, ?_⟩)
  refine vk_pop (b' := bd) (j' := j') (s' := s') (md' := md') vk1 (fun κ2 vo2 vk2 => ⟨0, by omega, kc_findA ((sf.kvo vo1).kvo vo2) (fun k hk2 => ⟨9, by omega, (q κ2 (vo1.trans vo2) vk2 k hk2).mono ?_⟩)⟩)
  rintro r0 κ3 ⟨rfl, hC⟩
  exact ⟨rfl, k_6_playPart_213 _ _ _ ⟨rfl, hC⟩⟩
theorem on_resume (hd : 64 ≤ d) (h77 : sI σ 77 = nI v) (hk : VR σ v p ((bd, i, j, pl, nv, vs, L, O ++ [a] ++ [y], s, md) :: r)) (hj : j + 1 < 12000) (h13 : aI σ 13 j = 17) (hi : i' < 20000) : ∃ σ2, (Ro p σ σ2 ∧ VR σ2 v p ((bd, i', j + 1, pl, nv, vs, L, O, s', md') :: r)) ∧ ∀ P, AC X 92 63 MX13_resumes [vR 92, vI (nI v), vI a, vI y, vI (nI 1)] σ2 (aRV P) → A X 92 d MX13_goesOn 0 [(0, vR 92)] [] σ (aRV P) := by
  obtain ⟨va, ra⟩ := hk.act (i' := i') (j' := j + 1) (s' := s) (md' := md) hi hj
  obtain ⟨σ1, ⟨r1, v1⟩, p1⟩ := ac_popX (X := X) (i' := i') (s' := s) (md' := md) va hi
  obtain ⟨σ2, ⟨r2, v2⟩, p2⟩ := ac_popX (X := X) (i' := i') (s' := s') (md' := md') v1 hi
  refine ⟨σ2, ⟨(ra.trans r1).trans r2, v2⟩, fun P hP => ?_⟩
  refine on_act (op := 17) (by omega) h77 hk.vx (by omega) h13 (by omega) ?_
  refine a_goesOn_124 _ _ _ _ _ _ ⟨fun z => absurd z (by decide), fun z => absurd z (by decide), fun z => absurd z (by decide), fun z => absurd z (by decide), fun z => absurd z (by decide), fun z => absurd z (by decide), fun z => absurd z (by decide), fun z => absurd z (by decide), fun z => absurd z (by decide), fun z => absurd z (by decide), fun _ => ⟨0, by omega, p1 _ ⟨0, by omega, p2 _ ⟨63, by omega, hP.mono ?_⟩⟩⟩, fun z => absurd z (by decide), fun z => absurd z (by decide), fun z => absurd z (by decide), fun z => absurd (by decide) z⟩
  rintro r0 s0 ⟨rfl, h⟩
  exact ⟨rfl, a_goesOn_499 _ _ _ _ _ _ ⟨rfl, h⟩⟩
/-- the reference: resumes, a misuse -/
theorem ac_resumes1 (hv : 1 ≤ v ∧ v ≤ V) (hV : V ≤ 60) (h47 : sI σ 47 = nI V) (hst : ∀ n, 1 ≤ n → n ≤ V → aI σ 49 n = nI (st n) ∧ st n ≤ 6) (mis : Mis σ V v st a o) (vr : VR σ v p (f :: r)) (h88 : sI σ 88 = nI F0) (hF : F0 < 8000) : ∃ σr, RoR σ σr o ∧ ∀ G, RaG X 60 v F0 p (flS σr F0 (nI 10) 0 (nI v) (frP f) (-9)) G → AC X 92 63 MX13_resumes [vR 92, vI (nI v), vI a, vI y, vI u] σ (aRV G) := by
  obtain ⟨σr, rr, h⟩ := ac_misuse1 (X := X) h47 hV hst mis hv
  refine ⟨σr, rr, fun G hG => AC_of_A rfl (Nat.le_of_ble_eq_true rfl) rfl (a_resumes_0 _ _ _ _ ⟨3, by omega, h _ ⟨fun z => absurd z (by decide), fun _ => ⟨62, by omega, (ac_arisesM vr rr h88 hF (by omega) hG).mono ?_⟩⟩⟩)⟩
  rintro r0 s0 ⟨rfl, h⟩
  exact ⟨rfl, rfl, h⟩
theorem ac_resumes0 (hv : 1 ≤ v ∧ v ≤ V) (hV : V ≤ 60) (h47 : sI σ 47 = nI V) (hst : aI σ 49 n = nI (st n)) (hn : 1 ≤ n ∧ n ≤ V) (hs : st n ≤ 1) (q : AC X 92 3 MX13_goesTo [vR 92, vI (nI v), vI (nI n), vI y] (wI (wI (wI σ 49 v 3) 56 v u) 54 n (nI v)) (aRV P)) : AC X 92 63 MX13_resumes [vR 92, vI (nI v), vI (nI n), vI y, vI u] σ (aRV P) := by
  refine AC_of_A rfl (Nat.le_of_ble_eq_true rfl) rfl (a_resumes_0 _ _ _ _ ⟨3, by omega, ac_misuse0 h47 hV hst hn hs ⟨fun _ => ?_, fun z => absurd rfl z⟩⟩)
  rw [vpn (by omega), cl_nI (by omega)]
  refine ⟨by omega, ?_⟩
  rintro s8 rfl
  refine ⟨by omega, ?_⟩
  rintro s10 rfl
  rw [vpn (by omega), cl_nI (by omega)]
  refine ⟨by omega, ?_⟩
  rintro s12 rfl
  refine ⟨3, by omega, q.mono ?_⟩
  rintro r0 s0 ⟨rfl, h⟩
  exact ⟨rfl, rfl, h⟩
end RESUMES
