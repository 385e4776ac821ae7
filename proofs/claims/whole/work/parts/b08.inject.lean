/-! INJECT: the methods; a voice that is not begun fails -/
section INJECTS
variable {X : Cx} {d e er : Nat} {κ0 κ κa κb κh κw κ1 κ' : Km} {σ0 σ σa σh σr σw σ1 σ' : Rm} {b V al S T sp z LT HT F0 v p n x q g k s s0 num : Nat} {st : Nat → Nat} {fr fr' : Nat → List Frm} {pt : Nat → Nat} {fs fs0 r rr : List Frm} {ch cr : List Nat} {w rz : Nat → Nat} {y y' u a val vo pl0 ca : Int32} {f f1 f' : Frm} {C : Km → Prop} {P : Rm → Prop} {o : Option (List Nat)}
variable {bd i j nv md i' j' s' md' : Nat} {pl : Int32} {vs : Nat → Int32} {L L0 : List Ite} {O O1 O0 : List Int32}
theorem Rx.bn0 (h : Rx κ0 σ0 κ σ b V al S LT HT sp F0 st fr pt ch w v f r g) (vr : VR σ v (pt v) (f :: r)) : Bn κ0 σ0 κ σ b V al S v sp 0 LT HT F0 st fr pt 0 := by
  obtain ⟨⟨x1, x2, x3, x4, x5, x6, x7⟩, -, -, ⟨b1, b2, b3, b4, b5, b6⟩, -⟩ := h
  refine ⟨x1, x2, x3, x4, x5, x6, fun n n1 n2 => (x7 n n1 n2).imp id (fun ⟨w1, w2, w3, w4⟩ => ⟨w1, w2, ?_, w4⟩)⟩
  rcases w3 with z | ⟨z, -⟩
  · exact Or.inl z
  · rw [z, b4]
    exact Or.inl vr
/-- one that is not begun is over, while a failure is raised -/
theorem Rx.endN (h : Rx κ0 σ0 κ σ b V al S LT HT sp F0 st fr pt ch w v f r g) (vr : VR σ v (pt v) (f :: r)) (hn : 1 ≤ n ∧ n ≤ V) (hs : st n = 0) (h4 : 4 ≤ s ∧ s ≤ 6) : Rx κ0 σ0 (enK κ n sp (nI s)) (enR σ n al (nI s)) b V (al - 1) S LT HT sp F0 (un st n s) fr pt ch w v f r g ∧ pot V S (un st n s) fr < pot V S st fr := by
  have a0 := h.bn0 vr
  obtain ⟨a, c, m, ⟨b1, b2, b3, b4, b5, b6⟩, fx, acc, col⟩ := h
  have hnv : n ≠ v := fun z => by rw [z, b3] at hs; omega
  have hf : fr n = [] := by
    rcases m n hn.1 hn.2 hnv with ⟨-, z⟩ | ⟨z, -⟩
    · exact z
    · omega
  have e1 := a0.end (x' := v) (s := s) hn (by omega) h4 (Or.inl rfl)
  have efr : un fr n [] = fr := by
    have := un_self (f := fr) (n := n)
    rw [hf] at this
    exact this
  rw [efr, hasF_nil hf] at e1
  have es : ∀ k, k ≠ 48 → k ≠ 49 → k ≠ 58 → k ≠ 59 → aI (enR σ n al (nI s)) k = aI σ k := fun k k1 k2 k3 k4 => enR_k k1 k2 k3 k4
  have hch : n ∉ ch := fun z => by
    have := (c.2.2.1 n z).2.2
    omega
  have ea := arm_un2 (V := V) (st := st) (fr := fr) (n := n) (s := s) (fs := []) hn
  have ep := pot_un2 (V := V) (S := S) (st := st) (fr := fr) (n := n) (s := s) (fs := []) hn
  rw [efr, hf, hs, vA_pos (s := s) (fs := []) (by omega)] at ea
  rw [efr, hf, hs, vW_pos (s := s) (fs := []) (by omega)] at ep
  have ea : cn (vArm (un st n s) fr) V + 1 = cn (vArm st fr) V + 0 := ea
  have ep : pot V S (un st n s) fr + 9800 = pot V S st fr + 0 := by
    have e9 : vW 0 [] = 9800 := rfl
    have e0 : fws [] = 0 := rfl
    omega
  obtain ⟨ac1, ac2, ac3⟩ := acc
  have ek : ∀ g, 80 ≤ g → g ≤ 91 → kI (enK κ n sp (nI s)) g = kI κ g ∧ kW (enK κ n sp (nI s)) g = kW κ g := fun g g1 g2 => ⟨(enK_h (by omega) (by omega) (by omega)).1, enK_w (by omega) (by omega)⟩
  refine ⟨⟨e1, c.side hch (Or.inr (Or.inr h4.1)) (fun z => by omega) (es 54 (by decide) (by decide) (by decide) (by decide)) (es 56 (by decide) (by decide) (by decide) (by decide)) (es 57 (by decide) (by decide) (by decide) (by decide)), fun n' q1 q2 q3 => ?_, ⟨b1, b2, by rw [un_ne (fun z => hnv z.symm)]; exact b3, b4, by rw [enK_79 (by decide) (by decide)]; exact b5, b6⟩, fx, ⟨by omega, by omega, by omega⟩, col.cg (ek 84 (by omega) (by omega)).1 (fun h h1 h2 => ek h (by omega) (by omega)) (fun k k1 k2 => es k (by omega) (by omega) (by omega) (by omega))⟩, by omega⟩
  by_cases cn' : n' = n
  · rw [cn', un_eq, hf]
    exact Or.inl ⟨Or.inr h4.1, rfl⟩
  · rw [un_ne cn']
    exact (m n' q1 q2 q3).cg (congrFun (es 56 (by decide) (by decide) (by decide) (by decide)) n') (Nat.le_refl _)
theorem pp_inject (hk : VK κ v ((bd, i, j, pl, nv, vs, L, O ++ [a] ++ [y], s, md) :: r)) (sf : StF κ σ V st) (hv : 1 ≤ v ∧ v ≤ V) (fl : FRl κ σ' F0) (hF : F0 < 7900) (hnr : ∀ n, 1 ≤ n → n ≤ V → st n ≤ 1 → n ≠ v)
    (qN : ∀ κa κb, Vo v κ κa → VK κa v ((bd, i, j', pl, nv, vs, L, O, s', md') :: r) → ∀ n, 1 ≤ n ∧ n ≤ V → a = nI n → st n = 0 → FmC κa κb F0 (nI num) y (nI v) pl 0 → KC' X 5 MX6_throwInto [vR 79, vR (1002 + 8 * n), vI (nI v), vI (nI (F0 + 1))] κb (kRV C))
    (qY : ∀ κa κb, Vo v κ κa → VK κa v ((bd, i, j', pl, nv, vs, L, O, s', md') :: r) → ∀ n, 1 ≤ n ∧ n ≤ V → a = nI n → st n = 1 → FmC (cI κa (1002 + 8 * v) 1 3) κb F0 (nI num) y (nI v) pl 0 → KC' X 5 MX6_throwInto [vR 79, vR (1002 + 8 * n), vI (nI v), vI (nI (F0 + 1))] κb (kRV C))
    (qm : ∀ κa, Vo v κ κa → VK κa v ((bd, i, j', pl, nv, vs, L, O, s', md') :: r) → ∀ k, HdA V a k → (∀ n, 1 ≤ n → n ≤ V → a = nI n → 2 ≤ st n) → KC' X 8 MX6_misuse [vR 79, vR (1002 + 8 * v), vR k] κa (kRV C)) : KC' X 10 MX6_playPart [vR 79, vR (1002 + 8 * v), vI (nI 27), vI (nI num)] κ (kRV C) := by
  have hV := sf.1.2.1
  refine KC_of_K rfl (Nat.le_of_ble_eq_true rfl) rfl (k_6_playPart_0 _ _ _ ⟨fun z => absurd z (by decide), fun z => absurd z (by decide), fun z => absurd z (by decide), fun z => absurd z (by decide), fun z => absurd z (by decide), fun z => absurd z (by decide), fun z => absurd z (by decide), fun _ => ⟨hk.v, 9, by omega, KC_of_K rfl (Nat.le_of_ble_eq_true rfl) rfl (k_6_injectBy_0 _ _ ⟨hk.v, 0, by omega, ?_⟩)⟩, fun z => absurd z (by decide), fun z => absurd z (by decide), fun z => absurd (by decide) z⟩)
  refine vk_pop (b' := bd) (j' := j) (s' := s) (md' := md) hk (fun κ1 vo1 vk1 => ⟨0, by omega, ?_⟩)
  refine vk_pop (b' := bd) (j' := j') (s' := s') (md' := md') vk1 (fun κ2 vo2 vk2 => ⟨0, by omega, ?_⟩)
  have sf2 := (sf.kvo vo1).kvo vo2
  have vo := vo1.trans vo2
  have hkV := sf2.1.2.2.1
  have fl2 : FRl κ2 σ' F0 := fl.vo vo (Ro.refl (p := 0))
  refine kc_findA sf2 (fun k hk2 => ?_)
  have mis : (∀ n, 1 ≤ n → n ≤ V → a = nI n → 2 ≤ st n) → okv κ2 (vR k) → K X 9 MX6_injectBy 28 [(0, vR 79), (1, vR (1002 + 8 * v)), (2, vI (nI num)), (3, vI y), (4, vR k)] [] κ2 (kRV fun κ' => K X 10 MX6_playPart 213 [(0, vR 79), (1, vR (1002 + 8 * v)), (2, vI (nI 27)), (3, vI (nI num))] [] κ' (kRV C)) := fun z2 ho => by
    refine k_6_injectBy_28z _ _ _ _ ⟨vk2.v, ho, 8, by omega, (qm κ2 vo vk2 k hk2 z2).mono ?_⟩
    rintro r0 κ3 ⟨rfl, hC⟩
    exact ⟨rfl, rfl, k_6_playPart_213 _ _ _ ⟨rfl, hC⟩⟩
  -- the failure is made and thrown
  have go : ∀ κs n, 1 ≤ n ∧ n ≤ V → VK κs v ((bd, i, j', pl, nv, vs, L, O, s', md') :: r) → kI κs (1002 + 8 * v) 0 = nI v → FRl κs σ' F0 → kV κs = kV κ2 → (∀ κb, FmC κs κb F0 (nI num) y (nI v) pl 0 → KC' X 5 MX6_throwInto [vR 79, vR (1002 + 8 * n), vI (nI v), vI (nI (F0 + 1))] κb (kRV C)) → K X 9 MX6_injectBy 50 [(0, vR 79), (1, vR (1002 + 8 * v)), (2, vI (nI num)), (3, vI y), (4, vR (1002 + 8 * n))] [] κs (kRV fun κ' => K X 10 MX6_playPart 213 [(0, vR 79), (1, vR (1002 + 8 * v)), (2, vI (nI 27)), (3, vI (nI num))] [] κ' (kRV C)) := fun κs n hn vks e0 fls eV hq => by
    refine k_6_injectBy_50 _ _ _ _ ⟨vks.v, isH_voice hn.1 (by omega), 0, by omega, vk_place vks ⟨3, by omega, ?_⟩⟩
    rw [e0]
    refine kc_fmake fls.1.1 hF fls.2.1 (fun κb fc => ⟨5, by omega, (hq κb fc).mono ?_⟩)
    rintro r0 κ3 ⟨rfl, hC⟩
    exact ⟨rfl, rfl, k_6_playPart_213 _ _ _ ⟨rfl, hC⟩⟩
  rcases id hk2 with ⟨n, n1, n2, rfl⟩ | ⟨hz, rfl⟩
  · have hH : isH κ2 (1002 + 8 * n) 10 := isH_voice n1.1 (by omega)
    obtain ⟨-, g2, g3, -⟩ := sf2.2 n n1.1 n1.2
    refine ⟨Or.inr hH.1, fun z => absurd z (by omega), fun _ => ⟨hH, 0, by omega, kc_isReady hH g2 g3 (fun c1 => ⟨fun z => absurd z (by decide), fun _ => ?_⟩) (fun c2 => ⟨fun _ => mis (fun m m1 m2 m3 => ?_) (isH.ok hH (by decide)), fun z => absurd rfl z⟩)⟩⟩
    · have hnv := hnr n n1.1 n1.2 c1
      have e0 := (sf2.2 v hv.1 hv.2).1
      rw [g2, litI 1, eq_nI (by omega) (by omega)]
      refine ⟨fun c => ?_, fun c => ?_⟩
      · rintro κ31 rfl
        refine go _ n n1 (vk2.reg (by decide)) (by rw [kI_nk (by decide)]; exact e0) (fl2.fr (kI_o (Or.inl (by omega))) (kI_ne (by omega)) rfl (fun _ _ _ => rfl)) rfl (fun κb fc => qY κ2 κb vo vk2 n n1 n2 c fc)
      · exact go _ n n1 vk2 e0 fl2 rfl (fun κb fc => qN κ2 κb vo vk2 n n1 n2 (by omega) fc)
    · rw [n2, eq_nI (by omega) (by omega)] at m3
      subst m3
      exact c2
  · refine ⟨Or.inl rfl, fun _ => mis (fun m m1 m2 m3 => ?_) (Or.inl (by decide)), fun z => absurd rfl z⟩
    rw [m3, litI 1, lt_nI (by omega) (by omega), lt_nI (by omega) (by omega)] at hz
    omega
theorem on_inject (hd : 65 ≤ d) (h77 : sI σ 77 = nI v) (hk : VR σ v p ((bd, i, j, pl, nv, vs, L, O ++ [a] ++ [y], s, md) :: r)) (hj : j + 1 < 12000) (h13 : aI σ 13 j = 18) (h14 : aI σ 14 j = nI num) (hi : i' < 20000) : ∃ σ2, (Ro p σ σ2 ∧ VR σ2 v p ((bd, i', j + 1, pl, nv, vs, L, O, s', md') :: r)) ∧ ∀ P, AC X 92 64 MX13_injects [vR 92, vI (nI v), vI a, vI (nI num), vI y] σ2 (aRV P) → A X 92 d MX13_goesOn 0 [(0, vR 92)] [] σ (aRV P) := by
  obtain ⟨va, ra⟩ := hk.act (i' := i') (j' := j + 1) (s' := s) (md' := md) hi hj
  obtain ⟨σ1, ⟨r1, v1⟩, p1⟩ := ac_popX (X := X) (i' := i') (s' := s) (md' := md) va hi
  obtain ⟨σ2, ⟨r2, v2⟩, p2⟩ := ac_popX (X := X) (i' := i') (s' := s') (md' := md') v1 hi
  refine ⟨σ2, ⟨(ra.trans r1).trans r2, v2⟩, fun P hP => ?_⟩
  refine on_act (op := 18) (by omega) h77 hk.vx (by omega) h13 (by omega) ?_
  rw [h14]
  refine a_goesOn_124 _ _ _ _ _ _ ⟨fun z => absurd z (by decide), fun z => absurd z (by decide), fun z => absurd z (by decide), fun z => absurd z (by decide), fun z => absurd z (by decide), fun z => absurd z (by decide), fun z => absurd z (by decide), fun z => absurd z (by decide), fun z => absurd z (by decide), fun z => absurd z (by decide), fun z => absurd z (by decide), fun _ => ⟨0, by omega, p1 _ ⟨0, by omega, p2 _ ⟨64, by omega, hP.mono ?_⟩⟩⟩, fun z => absurd z (by decide), fun z => absurd z (by decide), fun z => absurd (by decide) z⟩
  rintro r0 s0 ⟨rfl, h⟩
  exact ⟨rfl, a_goesOn_499 _ _ _ _ _ _ ⟨rfl, h⟩⟩
end INJECTS
