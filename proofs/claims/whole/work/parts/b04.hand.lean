/-! HAND -/
section HANDS2
variable {X : Cx} {d e er : Nat} {κ0 κ κa κb κc κ1 κ' : Km} {σ0 σ σa σc σr σ1 σ' : Rm} {b V al S T sp z LT HT F0 v p n x q g k s1 sc kn nw a0 j2 mm cl : Nat} {st : Nat → Nat} {fr fr' : Nat → List Frm} {pt : Nat → Nat} {fs fs0 r rr : List Frm} {ch cr : List Nat} {w rz : Nat → Nat} {y u a arg fm0 : Int32} {f f1 f' : Frm} {o : Option (List Nat)} {C : Km → Prop} {P : Rm → Prop}
variable {bd i j nv s md i' j' s' md' : Nat} {pl : Int32} {vs : Nat → Int32} {L L0 : List Ite} {O O1 O0 : List Int32}
theorem Rn.turnHand (h : Rn κ0 σ0 κ σ b V al S LT HT sp F0 st fr pt (v :: cr) w v f r) (hn : 1 ≤ n ∧ n ≤ V) (hs : st n ≤ 1) (ko : Vo v κ κa) (ro : Ro (pt v) σ σa) (vk : VK κa v (f1 :: r)) (vr : VR σa v (pt v) (f1 :: r)) (hm1 : frM f1 = 1) (hcl : aI σ 57 v ≠ 1) (hy : aI σ 54 v = y) (fo : FrO κ0 σ0 F0 b f1) (hfs : frS f1 ≤ frS f) (hL : frL f1 = frL f) (hw : fwt f1 < fwt f) (gn : GvN κ0 σ0 F0 b (st n) (fr n) fs) (h1 : st n = 1 → p = pt n) (h0 : st n = 0 → (fr n = [] ∧ cn (hasF fr) V < 12) ∧ p < 12 ∧ aI σ 59 p = 0)
    (gk : GvC (cI (cI κa (1002 + 8 * v) 1 1) (1002 + 8 * n) 5 y) κ' HT n sp (st n) fm0 fs) (gr : GvR (wI (wI σa 49 v 1) 54 n y) σ' HT n p (st n) fm0 fs) :
    ∃ sp' st' fr' pt' f' r', Rn κ0 σ0 κ' σ' b V al S LT (HT + 1) sp' F0 st' fr' pt' (n :: cr) w n f' r' ∧ pot V S st' fr' < pot V S st fr ∧ HT + 1 + 2 * pot V S st' fr' ≤ HT + 2 * pot V S st fr := by
  obtain ⟨a, c, m⟩ := h.bn (x := 0)
  obtain ⟨-, ⟨b1, b2, b3, b4, b5⟩, ⟨c1, c2, c3⟩, ⟨d1, d2, d3⟩, acc, col⟩ := h
  have hne : fr v ≠ [] := by rw [b4]; exact List.cons_ne_nil _ _
  have hnv : n ≠ v := fun z => by rw [z, b3] at hs; omega
  have a1 := a.loc (x' := 0) (fs := f1 :: r) ⟨b1, b2⟩ (Or.inl rfl) ko ro vk (Or.inl vr) c3 hne (List.cons_ne_nil _ _)
  have hres := c.res
  have a2 := (a1.sst (n := v) (s := 1) (by omega) (by rw [b3]; omega)).res (n := n) (y := y) (Or.inr ⟨_, hres.2.2.1, by rw [← hy]; exact hres.1⟩)
  have esn : un st v 1 n = st n := un_ne hnv
  have efn : un fr v (f1 :: r) n = fr n := un_ne hnv
  have hhf : cn (hasF (un fr v (f1 :: r))) V = cn (hasF fr) V := cn_cg V (fun m m1 m2 => by
    by_cases cm : m = v
    · rw [cm, hasF_one (by rw [un_eq]; exact List.cons_ne_nil _ _), hasF_one hne]
    · unfold hasF; rw [un_ne cm])
  have hV60 : V ≤ 60 := a.2.1.2.2.2.2.2.2.2.1
  have e59 : ∀ q, aI (wI (wI σa 49 v (nI 1)) 54 n y) 59 q = aI σ 59 q := fun q => by rw [aI_ne (by decide), aI_ne (by decide), ro.s (by decide)]
  obtain ⟨f', r', rfl, ⟨m0, fo', hr'⟩, vA1, vW1, hkp, hit⟩ := gn
  have hfn1 : st n = 1 → fr n ≠ [] := fun z y => by
    rcases m n hn.1 hn.2 hnv with ⟨q1, -⟩ | ⟨-, mm', q2, -⟩
    · omega
    · exact q2.ne y
  obtain ⟨sp', a3⟩ := a2.give (κ' := κ') (σ' := σ') (n := n) (p := p) (fm0 := fm0) (fs := f' :: r') hn (by rw [esn]; exact hs) (by rw [esn]; exact gk) (by rw [esn]; exact gr) (fun z => by rw [esn] at z; rw [efn]; exact ⟨h1 z, hfn1 z⟩) (fun z => by
    rw [esn] at z
    rw [efn, hhf, e59]
    exact h0 z) (List.cons_ne_nil _ _)
  -- what stays in the reference
  have es : ∀ k, k ≠ 49 → k ≠ 54 → k ≠ 58 → k ≠ 59 → k ≠ 77 → k ≠ 83 → k ≠ 84 → k ≠ 85 → (k < 60 ∨ 74 < k) → aI σ' k = aI σ k := fun k k1 k2 k4 k5 k6 k7 k8 k9 k10 => by rw [gr.eqv ⟨k1, k4, k5, k6, k7, k8, k9⟩ k10, aI_ne k2, aI_ne k1, ro.s k10]
  have e54 : aI σ' 54 = aI (wI (wI σa 49 v 1) 54 n y) 54 := gr.eqv (by decide) (by decide)
  have e54n : ∀ x, x ≠ n → aI σ' 54 x = aI σ 54 x := fun x hx => by rw [e54, aI_ni hx, aI_ne (by decide), ro.s (by decide)]
  have e54a : aI σ' 54 n = aI σ 54 v := by rw [e54, aI_eq, hy]
  have e56 : aI σ' 56 = aI σ 56 := es 56 (by decide) (by decide) (by decide) (by decide) (by decide) (by decide) (by decide) (by decide) (by decide)
  have e57 : aI σ' 57 = aI σ 57 := es 57 (by decide) (by decide) (by decide) (by decide) (by decide) (by decide) (by decide) (by decide) (by decide)
  have h57 : aI σ 57 n ≠ 1 := fun z => by
    have := c.2.2.2.2.2.2 n hn.1 hn.2 z
    omega
  have cc := c.hand (σ' := σ') hn (by omega) hcl h57 e54n e54a e56 e57
  -- counts
  have ea1 := arm_un2 (V := V) (st := st) (fr := fr) (n := v) (s := 1) (fs := f1 :: r) ⟨b1, b2⟩
  have ep1 := pot_un2 (V := V) (S := S) (st := st) (fr := fr) (n := v) (s := 1) (fs := f1 :: r) ⟨b1, b2⟩
  have ea2 := arm_un2 (V := V) (st := un st v 1) (fr := un fr v (f1 :: r)) (n := n) (s := 2) (fs := f' :: r') hn
  have ep2 := pot_un2 (V := V) (S := S) (st := un st v 1) (fr := un fr v (f1 :: r)) (n := n) (s := 2) (fs := f' :: r') hn
  rw [b4, vA_pos (by omega), vA_pos (by omega), arm_cons, arm_cons] at ea1
  rw [b4, vW_pos (by omega), vW_pos (by omega), fws_cons, fws_cons] at ep1
  rw [esn, efn] at ea2 ep2
  obtain ⟨ac1, ac2, ac3⟩ := acc
  -- what stays in the class
  have ek : ∀ g, 84 ≤ g → g ≤ 91 → kI κ' g = kI κ g ∧ kW κ' g = kW κ g := fun g g1 g2 => by
    obtain ⟨y1, y2⟩ := gk.frm (g := g) (by omega) (by omega) (by omega) (by omega)
    obtain ⟨z1, z2, z3⟩ := ko.h (h := g) (by omega) (by omega)
    exact ⟨by rw [y1, kI_ne (by omega), kI_ne (by omega), z1], by rw [y2 (by omega)]; exact z3⟩
  refine ⟨sp', _, _, _, f', r', Rn.of a3 cc (fun m' q1 q2 q3 => ?_) ⟨hn.1, hn.2, un_eq, un_eq, ?_⟩ ⟨m0, fo', hr'⟩ ⟨by omega, by omega, by omega⟩ ?_, by omega, by omega⟩
  · rw [un_ne q3, un_ne q3]
    by_cases cv : m' = v
    · rw [cv, un_eq, un_eq]
      exact Or.inr ⟨by omega, 1, ⟨hm1, fo, d3⟩, fun _ => rfl, fun z => by omega, fun z => by omega⟩
    · rw [un_ne cv, un_ne cv]
      exact (m m' q1 q2 cv).cg (congrFun e56 m') (Nat.le_refl _)
  · rw [gk.k14, kI_ne (by omega), kI_ne (by omega), (ko.h (h := 79) (by omega) (by omega)).1]
    exact b5
  · refine col.sub (ek 84 (by omega) (by omega)).1 (fun h h1 h2 => ek h (by omega) (by omega)) (fun k k1 k2 => es k (by omega) (by omega) (by omega) (by omega) (by omega) (by omega) (by omega) (by omega) (by omega)) (fun y _ => ?_) (fun m' f0 it q1 q2 hf hi i1 i2 => ?_)
    · have e1 := kps_un (g := y) (fr := fr) (fs := f1 :: r) (V := V) (v := v) ⟨b1, b2⟩
      have e2 := kps_un (g := y) (fr := un fr v (f1 :: r)) (fs := f' :: r') (V := V) (v := n) hn
      rw [b4, kps_cons, kps_cons, hL] at e1
      rw [efn, hkp y] at e2
      omega
    · by_cases cn' : m' = n
      · rw [cn', un_eq] at hf
        obtain ⟨f2, g1, g2⟩ := hit f0 it hf hi
        exact ⟨n, f2, hn.1, hn.2, g1, g2⟩
      · rw [un_ne cn'] at hf
        by_cases cv : m' = v
        · rw [cv, un_eq] at hf
          rcases List.mem_cons.mp hf with e | hf
          · rw [e, hL] at hi
            exact ⟨v, f, b1, b2, by rw [b4]; exact List.mem_cons_self .., hi⟩
          · exact ⟨v, f0, b1, b2, by rw [b4]; exact List.mem_cons_of_mem _ hf, hi⟩
        · rw [un_ne cv] at hf
          exact ⟨m', f0, q1, q2, hf, hi⟩
theorem pp_hand (hk : VK κ v ((bd, i, j, pl, nv, vs, L, O ++ [a] ++ [y], s, md) :: r)) (sf : StF κ σ V st) (hv : 1 ≤ v ∧ v ≤ V) (h11 : kI κ (1002 + 8 * v) 11 = nI cl) (hcl : cl ≤ 1) (hnr : ∀ n, 1 ≤ n → n ≤ V → st n ≤ 1 → n ≠ v) {y0 : Int32}
    (qr : cl = 0 → ∀ κa, Vo v κ κa → VK κa v ((bd, i, j', pl, nv, vs, L, O, s', md') :: r) → ∀ n, 1 ≤ n ∧ n ≤ V → a = nI n → st n ≤ 1 → KC' X 6 MX6_give [vR 79, vI (nI v), vR (1002 + 8 * n), vI y] (cI (cI κa (1002 + 8 * v) 1 1) (1002 + 8 * n) 5 (kI κ (1002 + 8 * v) 5)) (kRV C))
    (qm : cl = 0 → ∀ κa, Vo v κ κa → VK κa v ((bd, i, j', pl, nv, vs, L, O, s', md') :: r) → ∀ k, HdA V a k → (∀ n, 1 ≤ n → n ≤ V → a = nI n → 2 ≤ st n) → KC' X 8 MX6_misuse [vR 79, vR (1002 + 8 * v), vR k] κa (kRV C))
    (qc : cl = 1 → ∀ κa, Vo v κ κa → VK κa v ((bd, i, j', pl, nv, vs, L, O, s', md') :: r) → KC' X 4 MX6_raise [vR 79, vR (1002 + 8 * v), vI 10] κa (kRV C)) : KC' X 10 MX6_playPart [vR 79, vR (1002 + 8 * v), vI (nI 28), vI y0] κ (kRV C) := by
  have hV := sf.1.2.1
  refine KC_of_K rfl (Nat.le_of_ble_eq_true rfl) rfl (k_6_playPart_0 _ _ _ ⟨fun z => absurd z (by decide), fun z => absurd z (by decide), fun z => absurd z (by decide), fun z => absurd z (by decide), fun z => absurd z (by decide), fun z => absurd z (by decide), fun z => absurd z (by decide), fun z => absurd z (by decide), fun _ => ⟨hk.v, 9, by omega, KC_of_K rfl (Nat.le_of_ble_eq_true rfl) rfl (k_6_handBy_0z _ ⟨hk.v, 0, by omega, ?_⟩)⟩, fun z => absurd z (by decide), fun z => absurd (by decide) z⟩)
  refine vk_pop (b' := bd) (j' := j) (s' := s) (md' := md) hk (fun κ1 vo1 vk1 => ⟨0, by omega, ?_⟩)
  refine vk_pop (b' := bd) (j' := j') (s' := s') (md' := md') vk1 (fun κ2 vo2 vk2 => ⟨0, by omega, ?_⟩)
  have sf2 := (sf.kvo vo1).kvo vo2
  have vo := vo1.trans vo2
  have hkV := sf2.1.2.2.1
  have e11 : kI κ2 (1002 + 8 * v) 11 = nI cl := by rw [vo.2.2 11 (by decide) (by decide) (by decide) (by decide) (by decide)]; exact h11
  have e5 : kI κ2 (1002 + 8 * v) 5 = kI κ (1002 + 8 * v) 5 := vo.2.2 5 (by decide) (by decide) (by decide) (by decide) (by decide)
  refine kc_findA sf2 (fun k hk2 => ?_)
  rw [e11, litI 0, eq_nI (by omega) (by omega)]
  have mis : cl = 0 → (∀ n, 1 ≤ n → n ≤ V → a = nI n → 2 ≤ st n) → okv κ2 (vR k) → K X 9 MX6_handBy 42 [(0, vR 79), (1, vR (1002 + 8 * v)), (2, vI y), (3, vR k)] [] κ2 (kRV fun κ' => K X 10 MX6_playPart 213 [(0, vR 79), (1, vR (1002 + 8 * v)), (2, vI (nI 28)), (3, vI y0)] [] κ' (kRV C)) := fun z1 z2 ho => by
    refine k_6_handBy_42z _ _ _ ⟨vk2.v, ho, 8, by omega, (qm z1 κ2 vo vk2 k hk2 z2).mono ?_⟩
    rintro r0 κ3 ⟨rfl, hC⟩
    exact ⟨rfl, k_6_handBy_74 _ _ _ ⟨rfl, k_6_playPart_213 _ _ _ ⟨rfl, hC⟩⟩⟩
  refine ⟨fun c0 => ?_, fun c0 => ?_⟩
  · rcases id hk2 with ⟨n, n1, n2, rfl⟩ | ⟨hz, rfl⟩
    · have hH : isH κ2 (1002 + 8 * n) 10 := isH_voice n1.1 (by omega)
      obtain ⟨-, g2, g3, -⟩ := sf2.2 n n1.1 n1.2
      refine ⟨Or.inr hH.1, fun z => absurd z (by omega), fun _ => ⟨hH, 0, by omega, kc_isReady hH g2 g3 (fun c1 => ⟨fun z => absurd z (by decide), fun _ => ?_⟩) (fun c2 => ⟨fun _ => mis c0 (fun m m1 m2 m3 => ?_) (isH.ok hH (by decide)), fun z => absurd rfl z⟩)⟩⟩
      · rintro κ31 rfl
        have hnv := hnr n n1.1 n1.2 c1
        rw [kI_nk (by decide), e5]
        rintro κ32 rfl
        rw [kI_ne (by omega), kI_nk (by decide), (sf2.2 v hv.1 hv.2).1]
        refine ⟨6, by omega, (qr c0 κ2 vo vk2 n n1 n2 c1).mono ?_⟩
        rintro r0 κ3 ⟨rfl, hC⟩
        exact ⟨rfl, k_6_handBy_74 _ _ _ ⟨rfl, k_6_playPart_213 _ _ _ ⟨rfl, hC⟩⟩⟩
      · rw [n2, eq_nI (by omega) (by omega)] at m3
        subst m3
        exact c2
    · refine ⟨Or.inl rfl, fun _ => mis c0 (fun m m1 m2 m3 => ?_) (Or.inl (by decide)), fun z => absurd rfl z⟩
      rw [m3, litI 1, lt_nI (by omega) (by omega), lt_nI (by omega) (by omega)] at hz
      omega
  · have ho : okv κ2 (vR k) := by
      rcases id hk2 with ⟨n, n1, n2, rfl⟩ | ⟨hz, rfl⟩
      · exact isH.ok (isH_voice (κ := κ2) n1.1 (by omega)) (by decide)
      · exact Or.inl (by decide)
    refine ⟨ho, 4, by omega, (qc (by omega) κ2 vo vk2).mono ?_⟩
    rintro r0 κ3 ⟨rfl, hC⟩
    exact ⟨rfl, k_6_handBy_74 _ _ _ ⟨rfl, k_6_playPart_213 _ _ _ ⟨rfl, hC⟩⟩⟩
theorem on_hand (hd : 64 ≤ d) (h77 : sI σ 77 = nI v) (hk : VR σ v p ((bd, i, j, pl, nv, vs, L, O ++ [a] ++ [y], s, md) :: r)) (hj : j + 1 < 12000) (h13 : aI σ 13 j = 19) (hi : i' < 20000) : ∃ σ2, (Ro p σ σ2 ∧ VR σ2 v p ((bd, i', j + 1, pl, nv, vs, L, O, s', md') :: r)) ∧ ∀ P, AC X 92 63 MX13_handsOn [vR 92, vI (nI v), vI a, vI y] σ2 (aRV P) → A X 92 d MX13_goesOn 0 [(0, vR 92)] [] σ (aRV P) := by
  obtain ⟨va, ra⟩ := hk.act (i' := i') (j' := j + 1) (s' := s) (md' := md) hi hj
  obtain ⟨σ1, ⟨r1, v1⟩, p1⟩ := ac_popX (X := X) (i' := i') (s' := s) (md' := md) va hi
  obtain ⟨σ2, ⟨r2, v2⟩, p2⟩ := ac_popX (X := X) (i' := i') (s' := s') (md' := md') v1 hi
  refine ⟨σ2, ⟨(ra.trans r1).trans r2, v2⟩, fun P hP => ?_⟩
  refine on_act (op := 19) (by omega) h77 hk.vx (by omega) h13 (by omega) ?_
  refine a_goesOn_124 _ _ _ _ _ _ ⟨fun z => absurd z (by decide), fun z => absurd z (by decide), fun z => absurd z (by decide), fun z => absurd z (by decide), fun z => absurd z (by decide), fun z => absurd z (by decide), fun z => absurd z (by decide), fun z => absurd z (by decide), fun z => absurd z (by decide), fun z => absurd z (by decide), fun z => absurd z (by decide), fun z => absurd z (by decide), fun _ => ⟨0, by omega, p1 _ ⟨0, by omega, p2 _ ⟨63, by omega, hP.mono ?_⟩⟩⟩, fun z => absurd z (by decide), fun z => absurd (by decide) z⟩
  rintro r0 s0 ⟨rfl, h⟩
  exact ⟨rfl, a_goesOn_499 _ _ _ _ _ _ ⟨rfl, h⟩⟩
theorem ac_hands1 (hv : 1 ≤ v ∧ v ≤ V) (hV : V ≤ 60) (h57 : aI σ 57 v = 0) (h47 : sI σ 47 = nI V) (hst : ∀ n, 1 ≤ n → n ≤ V → aI σ 49 n = nI (st n) ∧ st n ≤ 6) (mis : Mis σ V v st a o) (vr : VR σ v p (f :: r)) (h88 : sI σ 88 = nI F0) (hF : F0 < 8000) : ∃ σr, RoR σ σr o ∧ ∀ G, RaG X 60 v F0 p (flS σr F0 (nI 10) 0 (nI v) (frP f) (-9)) G → AC X 92 63 MX13_handsOn [vR 92, vI (nI v), vI a, vI y] σ (aRV G) := by
  obtain ⟨σr, rr, h⟩ := ac_misuse1 (X := X) h47 hV hst mis hv
  refine ⟨σr, rr, fun G hG => AC_of_A rfl (Nat.le_of_ble_eq_true rfl) rfl (a_handsOn_0 _ _ _ ?_)⟩
  rw [vpn (by omega), cl_nI (by omega), h57]
  refine ⟨by omega, fun _ => ⟨3, by omega, h _ ⟨fun z => absurd z (by decide), fun _ => a_handsOn_18 _ _ _ ⟨62, by omega, (ac_arisesM vr rr h88 hF (by omega) hG).mono ?_⟩⟩⟩, fun z => absurd rfl z⟩
  rintro r0 s0 ⟨rfl, h⟩
  exact ⟨rfl, rfl, h⟩
theorem ac_handsC (hv : 1 ≤ v ∧ v ≤ V) (hV : V ≤ 60) (h57 : aI σ 57 v = 1) (vr : VR σ v p (f :: r)) (h88 : sI σ 88 = nI F0) (hF : F0 < 8000) (G : Rm → Prop) (hG : RaG X 60 v F0 p (flS σ F0 (nI 10) 0 (nI v) (frP f) (-9)) G) : AC X 92 63 MX13_handsOn [vR 92, vI (nI v), vI a, vI y] σ (aRV G) := by
  refine AC_of_A rfl (Nat.le_of_ble_eq_true rfl) rfl (a_handsOn_0 _ _ _ ?_)
  rw [vpn (by omega), cl_nI (by omega), h57]
  refine ⟨by omega, fun z => absurd z (by decide), fun _ => a_handsOn_18 _ _ _ ⟨62, by omega, (ac_arises vr.vx h88 hF (by omega) hG).mono ?_⟩⟩
  rintro r0 s0 ⟨rfl, h⟩
  exact ⟨rfl, rfl, h⟩
theorem ac_hands0 (hv : 1 ≤ v ∧ v ≤ V) (hV : V ≤ 60) (h57 : aI σ 57 v = 0) (h47 : sI σ 47 = nI V) (hst : aI σ 49 n = nI (st n)) (hn : 1 ≤ n ∧ n ≤ V) (hs : st n ≤ 1) (q : AC X 92 3 MX13_goesTo [vR 92, vI (nI v), vI (nI n), vI y] (wI (wI σ 49 v 1) 54 n (aI σ 54 v)) (aRV P)) : AC X 92 63 MX13_handsOn [vR 92, vI (nI v), vI (nI n), vI y] σ (aRV P) := by
  refine AC_of_A rfl (Nat.le_of_ble_eq_true rfl) rfl (a_handsOn_0 _ _ _ ?_)
  rw [vpn (by omega), cl_nI (by omega), h57]
  refine ⟨by omega, fun _ => ⟨3, by omega, ac_misuse0 h47 hV hst hn hs ⟨fun _ => ⟨by omega, ?_⟩, fun z => absurd rfl z⟩⟩, fun z => absurd rfl z⟩
  rintro s10 rfl
  rw [vpn (by omega), cl_nI (show n < 2147483648 by omega)]
  refine ⟨by omega, by omega, ?_⟩
  rw [show aI (wI σ 49 v 1) 54 v = aI σ 54 v by rw [aI_ne (by decide)]]
  rintro s13 rfl
  refine ⟨3, by omega, q.mono ?_⟩
  rintro r0 s0 ⟨rfl, h⟩
  exact ⟨rfl, rfl, h⟩
end HANDS2
