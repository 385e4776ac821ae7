/-! NEW: both -/
section NEWA
variable {X : Cx} {d e er : Nat} {κ0 κ κa κb κc κ1 κ' : Km} {σ0 σ σa σc σ1 σ' : Rm} {b V al S T sp z LT HT F0 v p n x q g k op sc mny : Nat} {st : Nat → Nat} {fr fr' : Nat → List Frm} {pt : Nat → Nat} {fs r rr : List Frm} {ch cr : List Nat} {w rz : Nat → Nat} {f f1 f' : Frm} {y u ar mk : Int32} {C : Km → Prop} {D P : Rm → Prop} {G : Rm → Prop}
variable {bd i j nv s md i' j' s' md' t h0 ph c jb a0 j2 nw : Nat} {pl pl' : Int32} {vs vs' : Nat → Int32} {L L0 : List Ite} {O Oy O' : List Int32}
theorem un_mid {α : Type} {f : Nat → α} {v W : Nat} {a b c : α} : un (un (un f v a) W b) v c = un (un f W b) v c := by
  funext k
  unfold un
  by_cases h1 : k = v
  · rw [if_pos h1, if_pos h1]
  · rw [if_neg h1, if_neg h1, if_neg h1]
/-- both have a new voice, made by v -/
theorem Rn.newv (h : Rn κ0 σ0 κ σ b V al S LT HT sp F0 st fr pt ch w v f r) (hV : V < 60) (hA : al < 12) (hsc : sc < b) (h19 : aI σ0 19 sc = 1) (har : aI σ0 20 sc = 0 → y = 0) (ko : Vo v κ κa) (ro : Ro (pt v) σ σa) (vk : VK κa v (f1 :: r)) (vr : VR σa v (pt v) (f1 :: r)) (mc : MkC κa κb V al (nI sc) y (nI v)) (ko2 : Vo v κb κc) (ro2 : Ro (pt v) (mdR σa V al (nI sc) y (nI v)) σc) (vk2 : VK κc v (f' :: r)) (vr2 : VR σc v (pt v) (f' :: r)) (m0 : frM f' = 0) (fo : FrO κ0 σ0 F0 b f') (hs : frS f' ≤ frS f) (hL : frL f' = frL f) (hw : fwt f' ≤ fwt f) :
    ∃ fr2, Rn κ0 σ0 κc σc b (V + 1) (al + 1) S LT HT sp F0 (un st (V + 1) 0) fr2 pt ch w v f' r ∧ pot (V + 1) S (un st (V + 1) 0) fr2 + 100 ≤ pot V S st fr := by
  obtain ⟨a, c, m⟩ := h.bn (x := 0)
  obtain ⟨-, ⟨b1, b2, b3, b4, b5⟩, ⟨c1, c2, c3⟩, ⟨d1, d2, d3⟩, acc, col⟩ := h
  have hne : fr v ≠ [] := by rw [b4]; exact List.cons_ne_nil _ _
  have e19 : aI σa 19 sc = 1 := by rw [ro.s (by decide), (a.1.1.2.2 19 (by omega) (by omega)).1]; exact h19
  have a2 := (a.loc (x' := 0) (fs := f1 :: r) ⟨b1, b2⟩ (Or.inl rfl) ko ro vk (Or.inl vr) c3 hne (List.cons_ne_nil _ _)).new hV hA mc hsc e19 b2 (fun z => har (by rw [ro.s (by decide), (a.1.1.2.2 20 (by omega) (by omega)).1] at z; exact z))
  have hv1 : v ≠ V + 1 := by omega
  have a3 := a2.loc (x' := 0) (fs := f' :: r) ⟨b1, by omega⟩ (Or.inl rfl) ko2 ro2 vk2 (Or.inl vr2) (by rw [mdR_k (by omega), ro.s (by decide)]; exact c3) (by rw [un_ne hv1, un_eq]; exact List.cons_ne_nil _ _) (List.cons_ne_nil _ _)
  rw [un_mid] at a3
  have es : ∀ k, 59 < k → (k < 60 ∨ 74 < k) → aI σc k = aI σ k := fun k h1 h2 => by rw [ro2.s h2, mdR_k (by omega), ro.s h2]
  have en : ∀ k n, 49 ≤ k → k < 60 → n ≠ V + 1 → aI σc k n = aI σ k n := fun k n h1 h2 hn => by rw [ro2.s (by omega), mdR_n h1 hn, ro.s (by omega)]
  have cc := (((c.cg (ro.s (by decide)) (ro.s (by decide)) (ro.s (by decide))).new (al := al) (x1 := nI sc) (ar := y) (mk := nI v)).cg (σ' := σc) (ro2.s (by decide)) (ro2.s (by decide)) (ro2.s (by decide)))
  obtain ⟨n1, n2, n3⟩ := new_sums (S := S) (st := st) (fr := fr) hV
  have e1 := arm_un (V := V + 1) (st := un st (V + 1) 0) (fr := un fr (V + 1) []) (fs := f' :: r) (v := v) ⟨b1, by omega⟩
  have e2 := pot_un (V := V + 1) (S := S) (st := un st (V + 1) 0) (fr := un fr (V + 1) []) (fs := f' :: r) (v := v) ⟨b1, by omega⟩
  rw [un_ne hv1, b4, arm_cons, arm_cons] at e1
  rw [un_ne hv1, b4, fws_cons, fws_cons] at e2
  obtain ⟨ac1, ac2, ac3⟩ := acc
  have kh : ∀ g, g ≠ 79 → g ≠ 1002 + 8 * (V + 1) → g ≠ 1002 + 8 * v → g ≠ 1003 + 8 * v → kI κc g = kI κ g ∧ kW κc g = kW κ g := fun g h1 h2 h3 h4 => by
    obtain ⟨y1, y2, y3⟩ := ko2.h (h := g) h3 (by omega)
    obtain ⟨z1, z2, z3⟩ := ko.h (h := g) h3 (by omega)
    exact ⟨by rw [y1, (mc.1 g h1 h2).1, z1], by rw [y3, mc.2.1, z3]⟩
  refine ⟨_, Rn.of a3 cc (fun n n1 n2 hn => ?_) ⟨b1, by omega, by rw [un_ne hv1]; exact b3, un_eq, ?_⟩ ⟨m0, fo, d3⟩ ⟨by omega, by omega, by omega⟩ ?_, by omega⟩
  · rw [un_ne hn]
    by_cases cV : n = V + 1
    · rw [cV, un_eq, un_eq]
      exact Or.inl ⟨Or.inl rfl, rfl⟩
    · rw [un_ne cV, un_ne cV]
      exact (m n n1 (by omega) hn).cg (en 56 n (by omega) (by omega) cV) (Nat.le_refl _)
  · rw [(ko2.h (h := 79) (by omega) (by omega)).1, mc.2.2.1 14 (by decide) (by decide), (ko.h (h := 79) (by omega) (by omega)).1]
    exact b5
  · have col2 := col.new (κ' := κc) (σ' := σc) hV (kh 84 (by omega) (by omega) (by omega) (by omega)).1 (fun h h1 h2 => kh h (by omega) (by omega) (by omega) (by omega)) (fun k h1 h2 => es k (by omega) (by omega))
    refine col2.loc rfl (fun _ _ _ => ⟨rfl, rfl⟩) (fun _ _ _ => rfl) (fun g => ?_) (fun f0 it hf hi i1 i2 => ?_) ⟨b1, by omega⟩
    · rw [un_ne hv1, b4, kps_cons, kps_cons, hL]
    · rw [un_ne hv1, b4]
      rcases List.mem_cons.mp hf with e | hf
      · rw [e, hL] at hi
        exact ⟨f, List.mem_cons_self .., hi⟩
      · exact ⟨f0, List.mem_cons_of_mem _ hf, hi⟩
/-- the class: NEW -/
theorem pp_new (hk : VK κ v ((bd, i, j, pl, nv, vs, L, O ++ [y], s, md) :: r)) (h0 : kI κ (1002 + 8 * v) 0 = nI v) (h10 : kI κ 79 10 = nI V) (h11 : kI κ 79 11 = nI al) (hV : V ≤ 60) (hA : al ≤ 12) (hkV : V ≤ kV κ) (hk60 : kV κ ≤ 60) (hw : ∀ n, V < n → n ≤ 60 → kW κ (1002 + 8 * n + 1) = 0) (hv : 1 ≤ v ∧ v ≤ V) (fl : FRl κ σ F0) (hF : F0 < 7900) (hz : tsz 0 r + (4 + nv + psz L + O.length) ≤ 16000)
    (q0 : V < 60 → al < 12 → ∀ κa κb κc, Vo v κ κa → VK κa v ((bd, i, j', pl, nv, vs, L, O, s', md') :: r) → MkC κa κb V al (nI c) y (nI v) → Vo v κb κc → VK κc v ((bd, i, j', pl, nv, vs, L, O ++ [nI (V + 1)], s', md') :: r) → C κc)
    (q1 : (V = 60 ∨ al = 12) → ∀ κa κb, Vo v κ κa → VK κa v ((bd, i, j', pl, nv, vs, L, O, s', md') :: r) → FmC κa κb F0 (nI 13) 0 (nI v) pl 0 → C (cI κb 79 14 (nI (F0 + 1)))) : KC' X 6 MX6_playPart [vR 79, vR (1002 + 8 * v), vI (nI 23), vI (nI c)] κ (kRV C) := by
  refine KC_of_K rfl (Nat.le_of_ble_eq_true rfl) rfl (k_6_playPart_0 _ _ _ ⟨fun z => absurd z (by decide), fun z => absurd z (by decide), fun z => absurd z (by decide), fun _ => ⟨hk.v, 5, by omega, KC_of_K rfl (Nat.le_of_ble_eq_true rfl) rfl (k_6_makeBy_0 _ _ ⟨hk.v, 0, by omega, ?_⟩)⟩, fun z => absurd z (by decide), fun z => absurd z (by decide), fun z => absurd z (by decide), fun z => absurd z (by decide), fun z => absurd z (by decide), fun z => absurd z (by decide), fun z => absurd (by decide) z⟩)
  refine vk_pop (b' := bd) (j' := j') (s' := s') (md' := md') hk (fun κa vo vk => ?_)
  have e79 : kI κa 79 = kI κ 79 := (vo.h (h := 79) (by omega) (by omega)).1
  have eV : kV κa = kV κ := vo.1.2.2.2
  have hw2 : ∀ n, V < n → n ≤ 60 → kW κa (1002 + 8 * n + 1) = 0 := fun n h1 h2 => by
    rw [(vo.h (h := 1002 + 8 * n + 1) (by omega) (by omega)).2.2]
    exact hw n h1 h2
  have e0 : kI κa (1002 + 8 * v) 0 = nI v := by rw [vo.2.2 0 (by decide) (by decide) (by decide) (by decide) (by decide)]; exact h0
  refine ⟨0, by omega, kc_isFull (V := V) (al := al) (by rw [e79]; exact h10) (by rw [e79]; exact h11) hV hA (fun cf => ⟨fun z => absurd z (by decide), fun _ => ⟨4, by omega, ?_⟩⟩) (fun c1 c2 => ⟨fun _ => ⟨2, by omega, ?_⟩, fun z => absurd rfl z⟩)⟩
  · exact kc_raise vk e0 (fl.vo vo (Ro.refl (p := 0))) hF (fun κb fc => k_6_makeBy_36 _ _ _ ⟨rfl, k_6_playPart_213 _ _ _ ⟨rfl, q1 cf κa κb vo vk fc⟩⟩)
  · rw [e0]
    refine kc_make (V := V) (al := al) (by rw [e79]; exact h10) (by rw [e79]; exact h11) c1 c2 (by omega) (by omega) hw2 (by omega) (fun κb mc => ⟨3, by omega, ?_⟩)
    have vkb : VK κb v ((bd, i, j', pl, nv, vs, L, O, s', md') :: r) := vk.cg5 (fun k hk => by rw [(mc.1 _ (by omega) (by omega)).1]) (mc.1 _ (by omega) (by omega)).1 (by rw [mc.2.1]) mc.2.2.2.2.1.1.1
    exact vk_push (b' := bd) (j' := j') (s' := s') (md' := md') vkb (by show tsz 0 r + (4 + nv + psz L + O.length) ≤ 17000; omega) (fun κc vo2 vk2 => k_6_makeBy_36 _ _ _ ⟨rfl, k_6_playPart_213 _ _ _ ⟨rfl, q0 c1 c2 κa κb κc vo vk mc vo2 vk2⟩⟩)
/-- the reference: NEW, not full -/
theorem on_new {Q : Res → Rm → Prop} (hd : 3 ≤ d) (h77 : sI σ 77 = nI v) (hm : (mny = 0 ∧ Oy = O ∧ y = 0) ∨ (mny = 1 ∧ Oy = O ++ [y])) (hk : VR σ v p ((bd, i, j, pl, nv, vs, L, Oy, s, md) :: r)) (hj : j + 1 < 12000) (h13 : aI σ 13 j = 16) (h14 : aI σ 14 j = nI c) (h15 : aI σ 15 j = nI mny) (hi : i' < 20000) (h47 : sI σ 47 = nI V) (h48 : sI σ 48 = nI al) (hV : V < 60) (hA : al < 12) (hc : c < 12) (h20 : aI σ 20 c = nI mny) (hvV : v ≤ V) (hO : O.length < 150)
    (q : ∀ σa σc, Ro p σ σa → VR σa v p ((bd, i', j + 1, pl, nv, vs, L, O, s', md') :: r) → Ro p (mdR σa V al (nI c) y (nI v)) σc → VR σc v p ((bd, i', j + 1, pl, nv, vs, L, O ++ [nI (V + 1)], s', md') :: r) → Q (.inl none) σc) : A X 92 d MX13_goesOn 0 [(0, vR 92)] [] σ Q := by
  have hh := hk
  obtain ⟨⟨h1, h2, h3, h4⟩, -⟩ := hh
  have h4 : r.length + 1 ≤ 60 := h4
  obtain ⟨va, ra⟩ := hk.act (i' := i') (j' := j + 1) (s' := s') (md' := md') hi hj
  have go : ∀ σa, Ro p σ σa → VR σa v p ((bd, i', j + 1, pl, nv, vs, L, O, s', md') :: r) → A X 92 2 MX13_makes 13 [(0, vR 92), (1, vI (nI v)), (2, vI (nI c)), (3, vI (nI mny))] [vI y] σa (aRV fun s => Q (.inl none) s) := fun σa ro vr => by
    refine a_makes_13 _ _ _ _ ?_
    have e47 : sI σa 47 = nI V := (congrFun (ro.s (by decide)) 0).trans h47
    have e48 : sI σa 48 = nI al := (congrFun (ro.s (by decide)) 0).trans h48
    rw [e47, e48, litI 60, litI 12, eq_nI (by omega) (by omega), eq_nI (by omega) (by omega)]
    refine ⟨fun z => absurd z (by omega), fun _ => ⟨fun z => absurd z (by omega), fun _ => ⟨0, by omega, ac_made (tk := 0) e47 e48 hV hA hc (by rw [ro.s (by decide)]; exact h20) (by rcases hm with ⟨z, -⟩ | ⟨z, -⟩ <;> omega) ⟨0, by omega, ?_⟩⟩⟩⟩
    have ey : (if 0 < mny then y else 0) = y := by
      rcases hm with ⟨z, -, z2⟩ | ⟨z, -⟩
      · rw [z, z2]; rfl
      · rw [z]; rfl
    rw [ey]
    have vb : VR (mdR σa V al (nI c) y (nI v)) v p ((bd, i', j + 1, pl, nv, vs, L, O, s', md') :: r) := vr.o58 (mdR_n (by omega) (by omega)) (fun k h1 h2 => mdR_k (by omega))
    exact ac_push (i' := i') (s' := s') (md' := md') vb hO hi (fun σc ro2 vr2 => a_makes_56 _ _ _ _ ⟨rfl, q σa σc ro vr ro2 vr2⟩)
  refine on_act (op := 16) (by omega) h77 hk.vx (by omega) h13 (by omega) ?_
  rw [h14, h15]
  have fin : ∀ (r0 : Res) (s0 : Rm), (aRV fun s => Q (.inl none) s) r0 s0 → aRV (fun s78 => A X 92 d MX13_goesOn 499 [(0, vR 92), (1, vI (nI v)), (2, vI (nI (60 * p + r.length))), (3, vI (nI j)), (4, vI (nI c)), (5, vI (nI mny)), (6, vI (nI 16))] [] s78 Q) r0 s0 := by
    rintro r0 s0 ⟨rfl, h⟩
    exact ⟨rfl, a_goesOn_499 _ _ _ _ _ _ h⟩
  refine a_goesOn_124 _ _ _ _ _ _ ⟨fun z => absurd z (by decide), fun z => absurd z (by decide), fun z => absurd z (by decide), fun z => absurd z (by decide), fun z => absurd z (by decide), fun z => absurd z (by decide), fun z => absurd z (by decide), fun z => absurd z (by decide), fun z => absurd z (by decide), fun _ => ⟨2, by omega, (AC_of_A rfl (Nat.le_of_ble_eq_true rfl) rfl (a_makes_0 _ _ _ ?_)).mono fin⟩, fun z => absurd z (by decide), fun z => absurd z (by decide), fun z => absurd z (by decide), fun z => absurd z (by decide), fun z => absurd (by decide) z⟩
  rcases hm with ⟨z1, z2, z3⟩ | ⟨z1, z2⟩
  · subst z1 z2 z3
    exact ⟨fun _ => go _ ra va, fun z => absurd (by decide) z⟩
  · subst z1 z2
    refine ⟨fun z => absurd z (by decide), fun _ => ⟨0, by omega, ac_pop (i' := i') (s' := s') (md' := md') va hi (fun σ2 r2 v2 => go σ2 (ra.trans r2) v2)⟩⟩
/-- the reference: NEW, full -/
theorem on_many (hd : 64 ≤ d) (h77 : sI σ 77 = nI v) (hm : (mny = 0 ∧ Oy = O) ∨ (mny = 1 ∧ Oy = O ++ [y])) (hk : VR σ v p ((bd, i, j, pl, nv, vs, L, Oy, s, md) :: r)) (hj : j + 1 < 12000) (h13 : aI σ 13 j = 16) (h14 : aI σ 14 j = nI c) (h15 : aI σ 15 j = nI mny) (hi : i' < 20000) (h47 : sI σ 47 = nI V) (h48 : sI σ 48 = nI al) (hV : V ≤ 60) (hA : al ≤ 12) (hf : V = 60 ∨ al = 12) (h88 : sI σ 88 = nI F0) (hF : F0 < 8000) :
    ∃ σ2, (Ro p σ σ2 ∧ VR σ2 v p ((bd, i', j + 1, pl, nv, vs, L, O, s', md') :: r)) ∧ ∀ G, RaG X 60 v F0 p (flS σ2 F0 (nI 13) 0 (nI v) pl (-9)) G → A X 92 d MX13_goesOn 0 [(0, vR 92)] [] σ (aRV G) := by
  have hh := hk
  obtain ⟨⟨h1, h2, h3, h4⟩, -⟩ := hh
  have h4 : r.length + 1 ≤ 60 := h4
  obtain ⟨va, ra⟩ := hk.act (i' := i') (j' := j + 1) (s' := s') (md' := md') hi hj
  have go : ∀ σa G x4, Ro p σ σa → VR σa v p ((bd, i', j + 1, pl, nv, vs, L, O, s', md') :: r) → RaG X 60 v F0 p (flS σa F0 (nI 13) 0 (nI v) pl (-9)) G → A X 92 63 MX13_makes 13 [(0, vR 92), (1, vI (nI v)), (2, vI (nI c)), (3, vI (nI mny))] [vI x4] σa (aRV G) := fun σa G x4 ro vr hG => by
    refine a_makes_13 _ _ _ _ ?_
    have e47 : sI σa 47 = nI V := (congrFun (ro.s (by decide)) 0).trans h47
    have e48 : sI σa 48 = nI al := (congrFun (ro.s (by decide)) 0).trans h48
    have fin : A X 92 63 MX13_makes 33 [(0, vR 92), (1, vI (nI v)), (2, vI (nI c)), (3, vI (nI mny)), (4, vI x4)] [] σa (aRV G) := by
      refine a_makes_33 _ _ _ _ ⟨62, by omega, (ac_arises vr.vx (F0 := F0) (k := 13) ((congrFun (ro.s (by decide)) 0).trans h88) hF (by omega) hG).mono ?_⟩
      rintro r0 s0 ⟨rfl, h⟩
      exact ⟨rfl, a_makes_56 _ _ _ _ ⟨rfl, h⟩⟩
    rw [e47, e48, litI 60, litI 12, eq_nI (by omega) (by omega), eq_nI (by omega) (by omega)]
    exact ⟨fun _ => fin, fun z => ⟨fun _ => fin, fun z2 => absurd hf (by omega)⟩⟩
  have key : ∀ σ2, Ro p σ σ2 → VR σ2 v p ((bd, i', j + 1, pl, nv, vs, L, O, s', md') :: r) → (∀ G, RaG X 60 v F0 p (flS σ2 F0 (nI 13) 0 (nI v) pl (-9)) G → AC X 92 63 MX13_makes [vR 92, vI (nI v), vI (nI c), vI (nI mny)] (wI σ 62 (60 * p + r.length) (nI (j + 1))) (aRV G)) → ∃ σ2, (Ro p σ σ2 ∧ VR σ2 v p ((bd, i', j + 1, pl, nv, vs, L, O, s', md') :: r)) ∧ ∀ G, RaG X 60 v F0 p (flS σ2 F0 (nI 13) 0 (nI v) pl (-9)) G → A X 92 d MX13_goesOn 0 [(0, vR 92)] [] σ (aRV G) := fun σ2 ro vr hA => by
    refine ⟨σ2, ⟨ro, vr⟩, fun G hG => ?_⟩
    refine on_act (op := 16) (by omega) h77 hk.vx (by omega) h13 (by omega) ?_
    rw [h14, h15]
    refine a_goesOn_124 _ _ _ _ _ _ ⟨fun z => absurd z (by decide), fun z => absurd z (by decide), fun z => absurd z (by decide), fun z => absurd z (by decide), fun z => absurd z (by decide), fun z => absurd z (by decide), fun z => absurd z (by decide), fun z => absurd z (by decide), fun z => absurd z (by decide), fun _ => ⟨63, by omega, (hA G hG).mono ?_⟩, fun z => absurd z (by decide), fun z => absurd z (by decide), fun z => absurd z (by decide), fun z => absurd z (by decide), fun z => absurd (by decide) z⟩
    rintro r0 s0 ⟨rfl, h⟩
    exact ⟨rfl, a_goesOn_499 _ _ _ _ _ _ ⟨rfl, h⟩⟩
  rcases hm with ⟨z1, z2⟩ | ⟨z1, z2⟩
  · subst z1 z2
    exact key _ ra va (fun G hG => AC_of_A rfl (Nat.le_of_ble_eq_true rfl) rfl (a_makes_0 _ _ _ ⟨fun _ => go _ G _ ra va hG, fun z => absurd (by decide) z⟩))
  · subst z1 z2
    obtain ⟨σ1, ⟨r1, v1⟩, p1⟩ := ac_popX (X := X) (i' := i') (s' := s') (md' := md') va hi
    exact key σ1 (ra.trans r1) v1 (fun G hG => AC_of_A rfl (Nat.le_of_ble_eq_true rfl) rfl (a_makes_0 _ _ _ ⟨fun z => absurd z (by decide), fun _ => ⟨0, by omega, p1 _ (go σ1 G _ (ra.trans r1) v1 hG)⟩⟩))
end NEWA
