/-! SPENT: no step is left, all voices fail -/
section SPENT
variable {X : Cx} {d e er : Nat} {κ0 κ κa κb κ1 κ' : Km} {σ0 σ σa σ1 σ' : Rm} {b V al S T sp z LT HT F0 v p n x q g k op : Nat} {st : Nat → Nat} {fr fr' : Nat → List Frm} {pt : Nat → Nat} {fs r : List Frm} {ch cr : List Nat} {w : Nat → Nat} {f f' : Frm} {y u val vo ca : Int32} {C : Km → Prop} {D P : Rm → Prop} {G : Rm → Prop}
variable {bd i j nv s md i' j' s' md' t h0 ph c jb : Nat} {pl pl' : Int32} {vs vs' : Nat → Int32} {L L0 : List Ite} {O O' : List Int32}
/-- what stays while voices end -/
def FaK (κ κ' : Km) : Prop := (∀ g, 80 ≤ g → g ≤ 91 → kI κ' g = kI κ g ∧ kW κ' g = kW κ g) ∧ (∀ k, k ≠ 8 → k ≠ 11 → kI κ' 79 k = kI κ 79 k) ∧ ∀ m k, k ≠ 1 → k ≠ 8 → kI κ' (1002 + 8 * m) k = kI κ (1002 + 8 * m) k
def FaR (σ σ' : Rm) : Prop := ∀ k, k ≠ 48 → k ≠ 49 → k ≠ 58 → k ≠ 59 → aI σ' k = aI σ k
theorem fall (hd : 3 ≤ d) (he : 1 ≤ e) : ∀ n i κ σ al sp st fr, i + n = V + 1 → 1 ≤ i → Bn κ0 σ0 κ σ b V al S T sp z LT HT F0 st fr pt 0 → (∀ m, 1 ≤ m → m < i → 4 ≤ st m) → (∀ m, 1 ≤ m → m ≤ V → 4 ≤ st m → fr m = []) →
    ∃ κ' σ' al' sp' st' fr', Bn κ0 σ0 κ' σ' b V al' S T sp' z LT HT F0 st' fr' pt 0 ∧ (∀ m, 1 ≤ m → m ≤ V → 4 ≤ st' m ∧ fr' m = []) ∧ FaK κ κ' ∧ FaR σ σ' ∧ (∀ Q : Res → Km → Prop, Q (.inl none) κ' → K X d MX6_failAll 2 [(0, vR 79), (1, vI (nI i))] [] κ Q) ∧ (∀ (x1 : Int32) (Q : Res → Rm → Prop), A X 92 e MX13_spend 7 [(0, vR 92), (1, vI x1), (2, vI (nI (V + 1)))] [] σ' Q → A X 92 e MX13_spend 7 [(0, vR 92), (1, vI x1), (2, vI (nI i))] [] σ Q) := by
  intro n
  induction n with
  | zero =>
    intro i κ σ al sp st fr hn hi a h1 h2
    have e : i = V + 1 := by omega
    subst e
    have hV60 : V ≤ 60 := a.2.1.2.2.2.2.2.2.2.1
    refine ⟨κ, σ, al, sp, st, fr, a, fun m m1 m2 => ⟨h1 m m1 (by omega), h2 m m1 m2 (h1 m m1 (by omega))⟩, ⟨fun _ _ _ => ⟨rfl, rfl⟩, fun _ _ _ => rfl, fun _ _ _ _ => rfl⟩, fun _ _ _ _ _ => rfl, fun Q hQ => ?_, fun x1 Q hQ => hQ⟩
    refine k_6_failAll_2 _ ?_
    rw [a.2.1.1.1, lt_nI (by omega) (by omega)]
    exact ⟨fun _ => hQ, fun z => absurd (show V < V + 1 by omega) z⟩
  | succ n ih =>
    intro i κ σ al sp st fr hn hi a h1 h2
    have hst := a.2.1
    have hV60 : V ≤ 60 := hst.2.2.2.2.2.2.2.1
    have hkV : V ≤ kV κ := hst.2.2.2.2.2.2.2.2.1
    have hiV : i ≤ V := by omega
    obtain ⟨v1, ⟨v2, v3, v4⟩, -⟩ := a.2.2.1 i hi hiV
    have hH : isH κ (1002 + 8 * i) 10 := isH_voice hi (by omega)
    have nI1 : nI i + 1 = nI (i + 1) := by rw [litI 1, nI_add]
    by_cases c : 4 ≤ st i
    · -- it is over
      obtain ⟨κ', σ', al', sp', st', fr', g1, g2, g3, g4, g5, g6⟩ := ih (i + 1) κ σ al sp st fr (by omega) (by omega) a (fun m m1 m2 => by
        by_cases e : m = i
        · rw [e]; exact c
        · exact h1 m m1 (by omega)) h2
      refine ⟨κ', σ', al', sp', st', fr', g1, g2, g3, g4, fun Q hQ => ?_, fun x1 Q hQ => ?_⟩
      · refine k_6_failAll_2 _ ?_
        rw [hst.1.1, lt_nI (by omega) (by omega)]
        refine ⟨fun z => absurd z (by omega), fun _ => ⟨0, by omega, kc_vfind hst.1.1 hV60 hkV (fun n0 n1 n2 e => ?_) (fun z => ?_)⟩⟩
        · have e : i = n0 := by rw [eq_nI (by omega) (by omega)] at e; exact e
          subst e
          refine ⟨Or.inr hH.1, fun z => absurd z (by omega), fun _ => ⟨hH, 0, by omega, kc_isOver hH v2 v4 (fun _ => ⟨fun z => absurd z (by decide), fun _ => ?_⟩) (fun z => absurd z (by omega))⟩⟩
          refine k_6_failAll_33 _ _ ?_
          rw [nI1]
          exact g5 Q hQ
        · rw [litI 1, lt_nI (by omega) (by omega), lt_nI (by omega) (by omega)] at z
          omega
      · refine a_spend_7 _ _ ?_
        rw [hst.1.2, lt_nI (by omega) (by omega)]
        refine ⟨fun z => absurd z (by omega), fun _ => ⟨0, by omega, ac_isOver (by omega) v3 v4 (fun _ => ⟨fun z => absurd z (by decide), fun _ => a_spend_29 _ _ ?_⟩) (fun z => absurd z (by omega))⟩⟩
        rw [nI1]
        exact g6 x1 Q hQ
    · -- it fails
      have hE := a.end (x' := 0) (s := 5) ⟨hi, hiV⟩ (by omega) (by omega) (Or.inl rfl)
      obtain ⟨κ', σ', al', sp', st', fr', g1, g2, g3, g4, g5, g6⟩ := ih (i + 1) (enK κ i sp (nI 5)) (enR σ i al (nI 5)) (al - 1) (sp + hasF fr i) (un st i 5) (un fr i []) (by omega) (by omega) hE (fun m m1 m2 => by
        by_cases e : m = i
        · rw [e, un_eq]; omega
        · rw [un_ne e]; exact h1 m m1 (by omega)) (fun m m1 m2 m3 => by
        by_cases e : m = i
        · rw [e, un_eq]
        · rw [un_ne e] at m3 ⊢; exact h2 m m1 m2 m3)
      refine ⟨κ', σ', al', sp', st', fr', g1, g2, ⟨fun g h3 h4 => ?_, fun k k1 k2 => ?_, fun m k k1 k2 => ?_⟩, fun k k1 k2 k3 k4 => ?_, fun Q hQ => ?_, fun x1 Q hQ => ?_⟩
      · have e := g3.1 g h3 h4
        rw [e.1, e.2, (enK_h (by omega) (by omega) (by omega)).1, enK_w (by omega) (by omega)]
        exact ⟨rfl, rfl⟩
      · rw [g3.2.1 k k1 k2, enK_79 k1 k2]
      · rw [g3.2.2 m k k1 k2]
        by_cases e : m = i
        · rw [e, enK_v k1 k2]
        · rw [(enK_h (by omega) (by omega) (by omega)).1]
      · rw [g4 k k1 k2 k3 k4, enR_k k1 k2 k3 k4]
      · refine k_6_failAll_2 _ ?_
        rw [hst.1.1, lt_nI (by omega) (by omega)]
        refine ⟨fun z => absurd z (by omega), fun _ => ⟨0, by omega, kc_vfind hst.1.1 hV60 hkV (fun n0 n1 n2 e => ?_) (fun z => ?_)⟩⟩
        · have e : i = n0 := by rw [eq_nI (by omega) (by omega)] at e; exact e
          subst e
          refine ⟨Or.inr hH.1, fun z => absurd z (by omega), fun _ => ⟨hH, 0, by omega, kc_isOver hH v2 v4 (fun z => absurd z c) (fun _ => ⟨fun _ => ⟨2, by omega, kc_end a ⟨hi, hiV⟩ ?_⟩, fun z => absurd rfl z⟩)⟩⟩
          refine k_6_failAll_33 _ _ ?_
          rw [nI1]
          exact g5 Q hQ
        · rw [litI 1, lt_nI (by omega) (by omega), lt_nI (by omega) (by omega)] at z
          omega
      · refine a_spend_7 _ _ ?_
        rw [hst.1.2, lt_nI (by omega) (by omega)]
        refine ⟨fun z => absurd z (by omega), fun _ => ⟨0, by omega, ac_isOver (by omega) v3 v4 (fun z => absurd z c) (fun _ => ⟨fun _ => ⟨0, by omega, ac_end a ⟨hi, hiV⟩ (by omega) (a_spend_29 _ _ ?_)⟩, fun z => absurd rfl z⟩)⟩⟩
        rw [nI1]
        exact g6 x1 Q hQ
theorem all_over (h : ∀ m, 1 ≤ m → m ≤ V → 4 ≤ st m ∧ fr m = []) : cn (vArm st fr) V = 0 ∧ pot V S st fr = (6000 - S) * 32000 + (60 - V) * 9900 ∧ ∀ y, cn (fun n => kps y (fr n)) V = 0 := by
  refine ⟨cn_zero V (fun n n1 n2 => ?_), ?_, fun y => cn_zero V (fun n n1 n2 => ?_)⟩
  · obtain ⟨h1, h2⟩ := h n n1 n2
    show arm (fr n) + (if st n = 0 then 1 else 0) = 0
    rw [h2, if_neg (by omega)]
    rfl
  · have e : cn (vWt st fr) V = 0 := cn_zero V (fun n n1 n2 => by
      obtain ⟨h1, h2⟩ := h n n1 n2
      show fws (fr n) + (if st n = 0 then 9800 else 0) = 0
      rw [h2, if_neg (by omega)]
      rfl)
    unfold pot
    rw [e]
    omega
  · rw [(h n n1 n2).2]
    rfl
theorem pot_ge (hv : 1 ≤ v ∧ v ≤ V) : (6000 - S) * 32000 + (60 - V) * 9900 + fws (fr v) ≤ pot V S st fr := by
  have e := cn_up (g := vWt st fr) (g' := un (vWt st fr) v 0) (n := v) (fun k hk => un_ne hk) V hv.1 hv.2
  rw [un_eq] at e
  have e2 : vWt st fr v = fws (fr v) + if st v = 0 then 9800 else 0 := rfl
  unfold pot
  omega
/-- the class: the turn of one that is spent -/
theorem run_spent {Q : Res → Km → Prop} (hd : 1 ≤ d) (hx : x < 200000000) (h10 : kI κ 79 10 = nI V) (hV : V ≤ 60) (hkV : V ≤ kV κ) (h13 : kI κ 79 13 = nI v) (hv : 1 ≤ v ∧ v ≤ V) (h17 : kI κ 79 17 = 1) (q : ∃ e, e + 1 ≤ d ∧ KC' X e MX6_spend [vR 79, vR (1002 + 8 * v)] κ (kRV fun κ' => K X d MX6_run 2 [(0, vR 79), (1, vI (nI (x + 1)))] [] κ' Q)) : K X d MX6_run 2 [(0, vR 79), (1, vI (nI x))] [] κ Q := by
  have hH : isH κ (1002 + 8 * v) 10 := isH_voice hv.1 (by omega)
  refine k_6_run_2 _ ?_
  rw [h13, litI 200000000, le_nI (by omega) (by omega)]
  refine ⟨fun z => absurd z (by omega), fun _ => ⟨fun z => absurd z (nI_ne0 (by omega) (by omega)), fun _ => ⟨0, hd, kc_vfind h10 hV hkV (fun n n1 n2 e => ?_) (fun z => ?_)⟩⟩⟩
  · have e : v = n := by rw [eq_nI (by omega) (by omega)] at e; exact e
    subst e
    rw [h17]
    refine ⟨Or.inr hH.1, fun z => absurd z (by omega), fun _ => ⟨fun z => absurd z (by decide), fun _ => ⟨hH, ?_⟩⟩⟩
    obtain ⟨e2, he2, hc2⟩ := q
    refine ⟨e2, he2, hc2.mono ?_⟩
    rintro r2 κ2 ⟨rfl, h3⟩
    exact ⟨rfl, k_6_run_152 _ _ (by rw [nI_1]; exact h3)⟩
  · rw [litI 1, lt_nI (by omega) (by omega), lt_nI (by omega) (by omega)] at z
    omega
/-- the reference: STEP or CALL with no step left -/
theorem on_spent (hd : 4 ≤ d) (h77 : sI σ 77 = nI v) (hk : VRx σ v p ((bd, i, j, pl, nv, vs, L, O, s, md) :: r)) (hj : j < 12000) (h13 : aI σ 13 j = nI op) (ho : op = 0 ∨ op = 20) (h75 : sI σ 75 = nI 6000) (q : AC X 92 2 MX13_spend [vR 92, vI (nI v)] (wI σ 62 (60 * p + r.length) (nI (j + 1))) (aRV P)) : A X 92 d MX13_goesOn 0 [(0, vR 92)] [] σ (aRV P) := by
  have hs : ∀ F : Int32 → Rm → Prop, (∀ s, P s → F 0 s) → AC X 92 3 MX13_step [vR 92, vI (nI v)] (wI σ 62 (60 * p + r.length) (nI (j + 1))) (aRI F) := fun F hF => by
    refine AC_of_A rfl (Nat.le_of_ble_eq_true rfl) rfl (a_step_0 _ ⟨fun _ => ⟨2, by omega, q.mono ?_⟩, fun z => absurd ?_ z⟩)
    · rintro r0 s0 ⟨rfl, h⟩
      exact ⟨rfl, _, rfl, hF _ h⟩
    · rw [show sI (wI σ 62 (60 * p + r.length) (nI (j + 1))) 75 = sI σ 75 from congrFun (aI_ne (by decide)) 0, h75]
      rfl
  refine on_act (op := op) (by omega) h77 hk hj h13 (by omega) ?_
  rcases ho with rfl | rfl
  · refine a_goesOn_124 _ _ _ _ _ _ ⟨fun _ => ⟨3, by omega, hs _ (fun s hP => ⟨fun _ => a_goesOn_499 _ _ _ _ _ _ ⟨rfl, hP⟩, fun z => absurd rfl z⟩)⟩, fun z => absurd z (by decide), fun z => absurd z (by decide), fun z => absurd z (by decide), fun z => absurd z (by decide), fun z => absurd z (by decide), fun z => absurd z (by decide), fun z => absurd z (by decide), fun z => absurd z (by decide), fun z => absurd z (by decide), fun z => absurd z (by decide), fun z => absurd z (by decide), fun z => absurd z (by decide), fun z => absurd z (by decide), fun z => absurd (by decide) z⟩
  · refine a_goesOn_124 _ _ _ _ _ _ ⟨fun z => absurd z (by decide), fun z => absurd z (by decide), fun z => absurd z (by decide), fun z => absurd z (by decide), fun z => absurd z (by decide), fun z => absurd z (by decide), fun z => absurd z (by decide), fun z => absurd z (by decide), fun z => absurd z (by decide), fun z => absurd z (by decide), fun z => absurd z (by decide), fun z => absurd z (by decide), fun z => absurd z (by decide), fun _ => ⟨3, by omega, hs _ (fun s hP => ⟨fun _ => a_goesOn_499 _ _ _ _ _ _ ⟨rfl, hP⟩, fun z => absurd rfl z⟩)⟩, fun z => absurd (by decide) z⟩
/-- both are spent -/
theorem rn_spent (h : Rn κ0 σ0 κ σ b V al S LT HT sp F0 st fr pt ch w v (bd, i, j, pl, nv, vs, L, O, s, md) r) (hS : S = 6000) (hx : x + pot V S st fr ≤ 199000000) (hd : 6 ≤ d) (he : 4 ≤ e) (hj : j < 12000) (e13 : aI σ0 13 j = nI op) (ho : op = 0 ∨ op = 20) 
    (cl : ∀ Q : Res → Km → Prop, (∀ κ1, Vo v κ κ1 → VK κ1 v ((bd, i + 1, j, pl, nv, vs, L, O, s, md) :: r) → K X d MX6_run 2 [(0, vR 79), (1, vI (nI (x + 1)))] [] (cI κ1 79 17 1) Q) → K X d MX6_run 2 [(0, vR 79), (1, vI (nI x))] [] κ Q) : RunOK X d (e + 1) κ0 σ0 κ σ b x (HT + 2 * pot V S st fr) := by
  intro Q hQ
  obtain ⟨n1, n2, n3, n4, n5, n6, n7, n8, n9, vr⟩ := h.num
  obtain ⟨-, -, -, -, -, -, c12, c13, c14⟩ := h.cls
  obtain ⟨a, c, m⟩ := h.bn (x := 0)
  obtain ⟨-, ⟨b1, b2, b3, b4, b5⟩, ⟨c1, c2, c3⟩, ⟨d1, d2, d3⟩, acc, col⟩ := h
  have hne : fr v ≠ [] := by rw [b4]; exact List.cons_ne_nil _ _
  obtain ⟨va, ra⟩ := vr.act1 (i' := i + 1) (j' := j + 1) (s' := s) (md' := md) (by omega) (by omega)
  have hT : HT < 2000000000 := by have := acc.2.2; omega
  have hst := a.2.1
  have hV60 : V ≤ 60 := hst.2.2.2.2.2.2.2.1
  refine cl Q (fun κ1 ko vk0 => ?_)
  have vk : VK κ1 v ((bd, i + 1, j + 1, pl, nv, vs, L, O, s, md) :: r) := vk0.gho
  have aB := a.loc (x' := 0) ⟨b1, b2⟩ (Or.inl rfl) ko ra vk (Or.inl va) c3 hne (List.cons_ne_nil _ _)
  have aS := aB.spe
  obtain ⟨κ', σ', al', sp', st', fr', g1, g2, g3, g4, g5, g6⟩ := fall (X := X) (d := 4) (e := 2) (by omega) (by omega) V 1 _ _ _ _ _ _ (by omega) (by omega) aS (fun m m1 m2 => by omega) (fun m0 m1 m2 m3 => by
    by_cases e : m0 = v
    · rw [e, b3] at m3; omega
    · rw [un_ne e]
      rcases m m0 m1 m2 e with ⟨z1, z2⟩ | ⟨z1, z2⟩
      · exact z2
      · omega)
  have hkV1 : V ≤ kV (cI κ1 79 17 1) := aS.2.1.2.2.2.2.2.2.2.2.1
  obtain ⟨gg, p1, p2⟩ := g1.hp
  -- the reference
  obtain ⟨σ9, ⟨σ8, hr, rfl⟩, adv⟩ := ref_ex (X := X) (e := e) (Pp := fun s => ∃ σ8, HdR σ' σ8 HT (nI v) (nI 0) ∧ s = wS (wS σ8 77 0) 78 4) c12 (by omega) ((on_spent (X := X) (op := op) (P := fun s => ∃ σ8, HdR σ' σ8 HT (nI v) (nI 0) ∧ s = wS (wS σ8 77 0) 78 4) he c12 vr.vx hj (by rw [c13 13 (by omega) (by omega)]; exact e13) ho (by rw [← hS]; exact hst.2.2.1.2) (AC_of_A rfl (Nat.le_of_ble_eq_true rfl) rfl (a_spend_0 _ (by
      rintro s1 rfl
      refine g6 _ _ (a_spend_7 _ _ ?_)
      rw [g1.2.1.1.2, lt_nI (by omega) (by omega)]
      refine ⟨fun _ => ⟨0, by omega, ac_hand p2 hT (fun σ8 h8 => ?_)⟩, fun z => absurd (show V < V + 1 by omega) z⟩
      rintro s6 rfl s7 rfl
      exact ⟨rfl, σ8, h8, rfl⟩)))).mono (fun r0 s0 h => h))
  -- the class
  have k79 : ∀ k, k ≠ 17 → kI (cI κ1 79 17 1) 79 k = kI κ 79 k := fun k hk => by rw [kI_nk hk, (ko.h (h := 79) (by omega) (by omega)).1]
  refine run_spent (V := V) (v := v) (by omega) (by omega) aS.2.1.1.1 hV60 aS.2.1.2.2.2.2.2.2.2.2.1 aS.2.1.2.2.2.1.1 ⟨b1, b2⟩ kI_eq ⟨5, by omega, KC_of_K rfl (Nat.le_of_ble_eq_true rfl) rfl (k_6_spend_0 _ ⟨isH_voice b1 (by omega), 4, by omega, KC_of_K rfl (Nat.le_of_ble_eq_true rfl) rfl (k_6_failAll_0 ?_)⟩)⟩
  refine g5 _ ⟨rfl, 3, by omega, ?_⟩
  rw [(g1.2.2.1 v b1 b2).1]
  refine kc_hand p1 hT (fun κ8 hk => ?_)
  rintro κ12 rfl κ13 rfl
  refine ⟨rfl, ?_⟩
  have aH := (((g1.hand hk hr).turn (T' := 0) (by omega)).kx (g := 79) (k := 15) (y := 4) (Or.inl ⟨rfl, Or.inr rfl⟩)).rx (k := 78) (i := 0) (y := 4) (Or.inr (Or.inl rfl))
  obtain ⟨z1, z2, z3⟩ := all_over (S := S) g2
  have z4 := pot_ge (S := S) (st := st) (fr := fr) c14
  have z5 : 1 ≤ fws (fr v) := by
    rw [b4, fws_cons, fwt_e]
    omega
  obtain ⟨ac1, ac2, ac3⟩ := acc
  have ek : ∀ h, 80 ≤ h → h ≤ 91 → h ≠ 82 → h ≠ 83 → kI (cI (cI κ8 79 13 (nI 0)) 79 15 4) h = kI κ h ∧ kW (cI (cI κ8 79 13 (nI 0)) 79 15 4) h = kW κ h := fun h h1 h2 h3 h4 => by
    obtain ⟨y1, y2, y3⟩ := hk.1.1.1 h (by omega)
    have y4 := g3.1 h h1 h2
    have y5 := ko.h (h := h) (by omega) (by omega)
    refine ⟨?_, ?_⟩
    · rw [kI_ne (by omega), kI_ne (by omega), y1, y4.1, kI_ne (by omega), y5.1]
    · show kW κ8 h = kW κ h
      rw [y3, y4.2]
      exact y5.2.2
  have es : ∀ k, 88 ≤ k → aI (wI (wS σ8 77 (nI 0)) 78 0 4) k = aI σ k := fun k h1 => by
    rw [aI_ne (by omega), aI_ne (by omega), (hr.1 k (by omega)).1, g4 k (by omega) (by omega) (by omega) (by omega), aI_ne (by omega), ra.s (by omega)]
  refine run_desk (by rw [kI_nk (by decide), kI_eq]) (by omega) (hQ _ _ V al' S LT (HT + 1) sp' F0 1 st' fr' pt w (Desk.of aH ⟨rfl, List.nodup_nil, fun x hx => absurd hx List.not_mem_nil, fun x h1 h2 h3 => ?_, fun x hx => absurd hx List.not_mem_nil, trivial, fun x h1 h2 h3 => ?_⟩ (fun n h1 h2 => Or.inl ⟨Or.inr (g2 n h1 h2).1, (g2 n h1 h2).2⟩) ?_ ⟨by omega, by omega, by omega⟩ ?_) ?_ (by omega) adv)
  · have := (g2 x h1 h2).1
    omega
  · have := (g2 x h1 h2).1
    exact ⟨by omega, by omega, fun z => by omega⟩
  · rw [kI_nk (by decide), kI_nk (by decide), (hk.1.1.1 79 (by omega)).1, g3.2.1 14 (by decide) (by decide), k79 14 (by decide)]
    exact b5
  · refine col.sub (ek 84 (by omega) (by omega) (by omega) (by omega)).1 (fun h h1 h2 => ek h (by omega) (by omega) (by omega) (by omega)) (fun k k1 k2 => es k k1) (fun y _ => by rw [z3 y]; omega) (fun n f0 it n1 n2 hf hi i1 i2 => ?_)
    rw [(g2 n n1 n2).2] at hf
    exact absurd hf List.not_mem_nil
  · rw [kI_eq]
    exact sI_eq.symm
/-- STEP with no step left -/
theorem lc_spent (h : Rn κ0 σ0 κ σ b V al S LT HT sp F0 st fr pt ch w v (bd, i, j, pl, nv, vs, L, O, s, md) r) (hS : S = 6000) (hx : x + pot V S st fr ≤ 199000000) (hd : 6 ≤ d) (he : 4 ≤ e) (hj : j + 1 < 12000) (e69 : kI κ0 69 i = 20) (e13 : aI σ0 13 j = 0) : RunOK X d (e + 1) κ0 σ0 κ σ b x (HT + 2 * pot V S st fr) := by
  have h12 := h.1.1.2.1.2.2.1
  refine rn_spent (op := 0) h hS hx hd he (by omega) e13 (Or.inl rfl) (fun Q hQ => h.ppc (C := fun κ' => ∃ κ1, Vo v κ κ1 ∧ VK κ1 v ((bd, i + 1, j, pl, nv, vs, L, O, s, md) :: r) ∧ κ' = cI κ1 79 17 1) hx (by omega) (by decide) e69 (fun κ1 vo1 vk1 => ⟨4, by omega, ?_⟩) Q (fun κ' hc => ?_))
  · refine KC_of_K rfl (Nat.le_of_ble_eq_true rfl) rfl (k_6_playPart_0 _ _ _ ⟨fun _ => ⟨vk1.v, 0, by omega, ?_⟩, fun z => absurd z (by decide), fun z => absurd z (by decide), fun z => absurd z (by decide), fun z => absurd z (by decide), fun z => absurd z (by decide), fun z => absurd z (by decide), fun z => absurd z (by decide), fun z => absurd z (by decide), fun z => absurd z (by decide), fun z => absurd (by decide) z⟩)
    refine kc_step vk1.v (by rw [(vo1.h (h := 79) (by omega) (by omega)).1]; exact h12.1) (by omega) (fun z => absurd z (by omega)) (fun _ => ⟨fun _ => k_6_playPart_213 _ _ _ ⟨rfl, κ1, vo1, vk1, rfl⟩, fun z => absurd rfl z⟩)
  · obtain ⟨κ1, vo1, vk1, rfl⟩ := hc
    exact hQ κ1 vo1 vk1
end SPENT
