/-! CLOSE: both -/
section CLOSES2
variable {X : Cx} {d e er : Nat} {κ0 κ κa κb κh κw κ1 κ' : Km} {σ0 σ σa σh σr σw σ1 σ' : Rm} {b V al S T sp z LT HT F0 v p n x q g k s s0 num pn : Nat} {st : Nat → Nat} {fr fr' : Nat → List Frm} {pt : Nat → Nat} {fs fs0 r rr : List Frm} {ch cr : List Nat} {w rz : Nat → Nat} {y y' u a val vo pl0 ca : Int32} {f f1 f' : Frm} {C : Km → Prop} {P G : Rm → Prop} {o : Option (List Nat)}
variable {bd i j nv md i' j' s' md' : Nat} {pl : Int32} {vs : Nat → Int32} {L L0 : List Ite} {O O1 O0 : List Int32}
theorem on_close (hd : 66 ≤ d) (h77 : sI σ 77 = nI v) (hk : VR σ v p ((bd, i, j, pl, nv, vs, L, O ++ [a], s, md) :: r)) (hj : j + 1 < 12000) (h13 : aI σ 13 j = 27) (hi : i' < 20000) : ∃ σ2, (Ro p σ σ2 ∧ VR σ2 v p ((bd, i', j + 1, pl, nv, vs, L, O, s', md') :: r)) ∧ ∀ P, AC X 92 64 MX13_shuts [vR 92, vI (nI v), vI a] σ2 (aRV P) → A X 92 d MX13_goesOn 0 [(0, vR 92)] [] σ (aRV P) := by
  have hh := hk
  obtain ⟨⟨h1, h2, h3, h4⟩, h5, h6, h7, h8⟩ := hh
  have h4 : r.length + 1 ≤ 60 := h4
  obtain ⟨va, ra⟩ := hk.act (i' := i') (j' := j + 1) (s' := s) (md' := md) hi hj
  obtain ⟨σ2, ⟨r2, v2⟩, p2⟩ := ac_popX (X := X) (i' := i') (s' := s') (md' := md') va hi
  refine ⟨σ2, ⟨ra.trans r2, v2⟩, fun P hP => ?_⟩
  refine on_ctl (op := 27) (dc := 65) (by omega) h77 hk.vx (by omega) h13 (by omega) ?_
  refine AC_of_A rfl (Nat.le_of_ble_eq_true rfl) rfl (a_controls_0 _ _ _ _ _ ?_)
  rw [vpn (a := v) (by omega)]
  refine ⟨by omega, fun z => absurd z (by decide), fun z => absurd z (by decide), fun z => absurd z (by decide), fun z => absurd z (by decide), fun z => absurd z (by decide), fun z => absurd z (by decide), fun _ => ⟨0, by omega, p2 _ ⟨64, by omega, hP.mono ?_⟩⟩, fun z => absurd z (by decide), fun z => absurd z (by decide), fun z => absurd z (by decide), fun z => absurd z (by decide), fun z => absurd (by decide) z⟩
  rintro r0 s0 ⟨rfl, h⟩
  exact ⟨rfl, a_controls_449 _ _ _ _ _ _ ⟨rfl, rfl, h⟩⟩
/-- the reference: one that is over -/
theorem ac_shutsO (hV : V ≤ 60) (h47 : sI σ 47 = nI V) (hst : aI σ 49 n = nI (st n)) (h6 : st n ≤ 6) (hn : 1 ≤ n ∧ n ≤ V) (hs : 4 ≤ st n) (q : P σ) : AC X 92 64 MX13_shuts [vR 92, vI (nI v), vI (nI n)] σ (aRV P) := by
  refine AC_of_A rfl (Nat.le_of_ble_eq_true rfl) rfl (a_shuts_0 _ _ ⟨1, by omega, ac_isVoice h47 hV (fun m m1 m2 e => ⟨fun z => absurd z (by decide), fun _ => ⟨0, by omega, ac_isOver (by omega) hst h6 (fun _ => ⟨fun z => absurd z (by decide), fun _ => ⟨rfl, q⟩⟩) (fun z => by omega)⟩⟩) (fun z => ?_)⟩)
  rw [litI 1, lt_nI (by omega) (by omega), lt_nI (by omega) (by omega)] at z
  omega
/-- the reference: on to what isn't over -/
theorem ac_shuts17 {Q : Res → Rm → Prop} (hV : V ≤ 60) (h47 : sI σ 47 = nI V) (hst : ∀ n, 1 ≤ n → n ≤ V → aI σ 49 n = nI (st n) ∧ st n ≤ 6) (h4 : ∀ n, 1 ≤ n → n ≤ V → a = nI n → st n < 4) (q : A X 92 64 MX13_shuts 17 [(0, vR 92), (1, vI (nI v)), (2, vI a)] [] σ (aRV P)) : AC X 92 64 MX13_shuts [vR 92, vI (nI v), vI a] σ (aRV P) := by
  refine AC_of_A rfl (Nat.le_of_ble_eq_true rfl) rfl (a_shuts_0 _ _ ⟨1, by omega, ac_isVoice h47 hV (fun m m1 m2 e => ⟨fun z => absurd z (by decide), fun _ => ⟨0, by omega, ?_⟩⟩) (fun _ => ⟨fun _ => ?_, fun z => absurd rfl z⟩)⟩)
  · obtain ⟨e1, e2⟩ := hst m m1 m2
    have e3 := h4 m m1 m2 e
    subst e
    refine ac_isOver (by omega) e1 e2 (fun z => by omega) (fun _ => ⟨fun _ => ?_, fun z => absurd rfl z⟩)
    exact q.mono (fun r0 s0 h => h)
  · exact q.mono (fun r0 s0 h => h)
theorem ac_shuts1 (hv : 1 ≤ v ∧ v ≤ V) (hV : V ≤ 60) (h47 : sI σ 47 = nI V) (hst : ∀ n, 1 ≤ n → n ≤ V → aI σ 49 n = nI (st n) ∧ st n ≤ 6) (mis : Mis σ V v st a o) (h4 : ∀ n, 1 ≤ n → n ≤ V → a = nI n → st n < 4) (vr : VR σ v p (f :: r)) (h88 : sI σ 88 = nI F0) (hF : F0 < 8000) : ∃ σr, RoR σ σr o ∧ ∀ G, RaG X 60 v F0 p (flS σr F0 (nI 10) 0 (nI v) (frP f) (-9)) G → AC X 92 64 MX13_shuts [vR 92, vI (nI v), vI a] σ (aRV G) := by
  obtain ⟨σr, rr, h⟩ := ac_misuse1 (X := X) h47 hV hst mis hv
  refine ⟨σr, rr, fun G hG => ac_shuts17 (Q := aRV G) hV h47 hst h4 (a_shuts_17 _ _ ⟨3, by omega, h _ ⟨fun z => absurd z (by decide), fun _ => ⟨62, by omega, (ac_arisesM vr rr h88 hF (by omega) hG).mono ?_⟩⟩⟩)⟩
  rintro r0 s0 ⟨rfl, h⟩
  exact ⟨rfl, rfl, h⟩
theorem ac_shuts0 (hV : V ≤ 60) (h47 : sI σ 47 = nI V) (hst : ∀ n, 1 ≤ n → n ≤ V → aI σ 49 n = nI (st n) ∧ st n ≤ 6) (hn : 1 ≤ n ∧ n ≤ V) (hs : st n = 0) (h58 : aI σ 58 n = -9) (h48 : sI σ 48 = nI al) (hA : 1 ≤ al) (q : P (enR σ n al 6)) : AC X 92 64 MX13_shuts [vR 92, vI (nI v), vI (nI n)] σ (aRV P) := by
  have e49 := (hst n hn.1 hn.2).1
  refine ac_shuts17 (Q := aRV P) hV h47 hst (fun m m1 m2 e => ?_) (a_shuts_17 _ _ ⟨3, by omega, ac_misuse0 h47 hV e49 hn (by omega) ⟨fun _ => ?_, fun z => absurd rfl z⟩⟩)
  · rw [eq_nI (by omega) (by omega)] at e
    subst e
    omega
  · rw [vpn (by omega), cl_nI (by omega), e49, hs]
    refine ⟨by omega, fun _ => ⟨0, by omega, ac_over9 (al := al) (by omega) h58 h48 hA ?_⟩, fun z => absurd rfl z⟩
    have e : enR σ n al 6 = wS (wI σ 49 n 6) 48 (nI (al - 1)) := if_pos h58
    rw [e] at q
    exact ⟨rfl, q⟩
theorem ac_shutsY {g : Nat → Int32} (hv : 1 ≤ v ∧ v ≤ V) (hV : V ≤ 60) (h47 : sI σ 47 = nI V) (hst : ∀ n, 1 ≤ n → n ≤ V → aI σ 49 n = nI (st n) ∧ st n ≤ 6) (hn : 1 ≤ n ∧ n ≤ V) (hs : st n = 1) (vr : VR σ v p (f :: r)) (h88 : sI σ 88 = nI F0) (hF : F0 < 8000) (hpn : pn < 12) (h58 : aI σ 58 n = nI pn) (pr : PRr σ 83 84 85 HT g) (hT : HT < 2000000000) : ∃ σh, HdR (wI (flS (wI (wI (wI σ 49 v 3) 56 v (nI 3)) 57 n 1) F0 (nI 14) 0 (nI v) (frP f) (-9)) 54 n (nI v)) σh HT (nI v) (nI n) ∧ ∀ G, RaG X 60 n F0 pn (wI (wS σh 77 (nI n)) 49 n 2) G → AC X 92 64 MX13_shuts [vR 92, vI (nI v), vI (nI n)] σ (aRV G) := by
  have e49 := (hst n hn.1 hn.2).1
  have es : ∀ k, k ≠ 49 → k ≠ 56 → k ≠ 57 → k < 88 → aI (flS (wI (wI (wI σ 49 v 3) 56 v (nI 3)) 57 n 1) F0 (nI 14) 0 (nI v) (frP f) (-9)) k = aI σ k := fun k k1 k2 k4 k3 => by rw [flS_ne (Or.inl k3), aI_ne k4, aI_ne k2, aI_ne k1]
  obtain ⟨σh, hd, hh⟩ := ac_thrownInto (X := X) (n := n) (p := pn) (q := F0) (u := nI v) (HT := HT) (σ := flS (wI (wI (wI σ 49 v 3) 56 v (nI 3)) 57 n 1) F0 (nI 14) 0 (nI v) (frP f) (-9)) ⟨hn.1, by omega⟩ hpn (by rw [es 58 (by decide) (by decide) (by decide) (by decide)]; exact h58) hF (pr.fr (es 83 (by decide) (by decide) (by decide) (by decide)) (es 84 (by decide) (by decide) (by decide) (by decide)) (es 85 (by decide) (by decide) (by decide) (by decide))) hT
  refine ⟨σh, hd, fun G hG => ?_⟩
  refine ac_shuts17 (Q := aRV G) hV h47 hst (fun m m1 m2 e => ?_) (a_shuts_17 _ _ ⟨3, by omega, ac_misuse0 h47 hV e49 hn (by omega) ⟨fun _ => ?_, fun z => absurd rfl z⟩⟩)
  · rw [eq_nI (by omega) (by omega)] at e
    subst e
    omega
  · rw [vpn (by omega), cl_nI (by omega), e49, hs]
    refine ⟨by omega, fun z => absurd z (by decide), fun _ => ⟨by rw [vpn (by omega)]; omega, ?_⟩⟩
    rw [cl_nI (by omega)]
    rintro s14 rfl
    refine ⟨by rw [vpn (by omega)]; omega, ?_⟩
    rintro s16 rfl
    refine ⟨by omega, ?_⟩
    rintro s18 rfl
    have vx : VRx (wI (wI (wI σ 49 v 3) 56 v (nI 3)) 57 n 1) v p (f :: r) := vr.vx.cg (fun k h1 h2 => by rw [aI_ne (by omega), aI_ne (by omega), aI_ne (by omega)])
    refine ⟨1, by omega, ac_placeOf vx ⟨0, by omega, ac_failure (F0 := F0) (by rw [sI_ne (by decide), sI_ne (by decide), sI_ne (by decide)]; exact h88) hF ⟨62, by omega, (hh G hG).mono ?_⟩⟩⟩
    rintro r0 s0 ⟨rfl, h⟩
    exact ⟨rfl, rfl, h⟩
theorem lc_close (h : Rn κ0 σ0 κ σ b V al S LT HT sp F0 st fr pt ch w v (bd, i, j, pl, nv, vs, L, [] ++ [a], s, md) r) (all : AllOK X d (e + 1) κ0 σ0 b (pot V S st fr)) (allx : AllX X d (e + 1) κ0 σ0 b (pot V S st fr)) (hx : x + pot V S st fr ≤ 199000000) (hd : 11 ≤ d) (he : 66 ≤ e) (hs : s = 1) (e69 : kI κ0 69 i = 29) (e13 : aI σ0 13 j = 27) (hj : j + 1 < 12000) (gd : Good2 κ0 σ0 (fun _ => False) (bd, i + 1, j + 1, L.map itm, 0, 0)) : RunOK X d (e + 1) κ0 σ0 κ σ b x (HT + 2 * pot V S st fr) := by
  obtain ⟨n1, n2, n3, n4, n5, n6, n7, n8, n9, vr⟩ := h.num
  obtain ⟨-, -, -, -, -, -, c12, c13, c14⟩ := h.cls
  obtain ⟨f88, fF, fl, sta⟩ := h.f88
  obtain ⟨⟨h47, hV60⟩, h49, sf, hal⟩ := h.sts
  have hb3 := h.2.1.2.2.1
  have fo0 : FrO κ0 σ0 F0 b (bd, i + 1, j + 1, pl, nv, vs, L, [], 0, 0) := ⟨n9.1, n9.2.1, Nat.zero_le _, n9.2.2.2.1, Or.inl ⟨rfl, gd⟩⟩
  have fo3 : FrO κ0 σ0 F0 b (bd, i + 1, j + 1, pl, nv, vs, L, [], 0, 3) := ⟨n9.1, n9.2.1, Nat.zero_le _, n9.2.2.2.1, Or.inr (Or.inr (Or.inr ⟨rfl, rfl, rfl, ⟨i, rfl, e69⟩, gd⟩))⟩
  have hi9 : i + 1 ≤ 9500 := (fo0.frx sta).2.2.2.2.1.2
  obtain ⟨σ2, ⟨ro, v2⟩, adv⟩ := on_close (X := X) (d := e) (i' := i + 1) (s' := 0) (md' := 0) (by omega) c12 vr hj (by rw [c13 13 (by omega) (by omega)]; exact e13) (by omega)
  have es : ∀ k, (k < 60 ∨ 74 < k) → aI σ2 k = aI σ k := fun k hk => ro.s hk
  have h47' : sI σ2 47 = nI V := (congrFun (es 47 (by decide)) 0).trans h47
  have h49' : ∀ n, 1 ≤ n → n ≤ V → aI σ2 49 n = nI (st n) ∧ st n ≤ 6 := fun n n1 n2 => by rw [es 49 (by decide)]; exact h49 n n1 n2
  have h88' : sI σ2 88 = nI F0 := (congrFun (es 88 (by decide)) 0).trans f88
  obtain ⟨abn, ac, am⟩ := h.bn (x := 0)
  obtain ⟨gg, pp1, pp2⟩ := abn.hp
  have hB0 : HT < 2000000000 := by have := h.2.2.2.2.1.2.2; omega
  have cls : ∀ C : Km → Prop, (∀ κa, Vo v κ κa → VK κa v ((bd, i + 1, j + 1, pl, nv, vs, L, [], 0, 0) :: r) → ∀ k, HdA V a k → KC' X 9 MX6_closeBy [vR 79, vR (1002 + 8 * v), vR k] κa (kRV C)) → ∀ Q : Res → Km → Prop, (∀ κ', C κ' → K X d MX6_run 2 [(0, vR 79), (1, vI (nI (x + 1)))] [] κ' Q) → K X d MX6_run 2 [(0, vR 79), (1, vI (nI x))] [] κ Q := fun C hC => h.ppc hx (by omega) (by decide) e69 (fun κ1 vo1 vk1 => ⟨10, by omega, pp_close (j' := j + 1) (s' := 0) (md' := 0) vk1 (sf.kvo vo1) (fun κa vo vk k hk => hC κa (vo1.trans vo) vk k hk)⟩)
  -- the frame has moved on
  have hloc : ∀ κa, Vo v κ κa → VK κa v ((bd, i + 1, j + 1, pl, nv, vs, L, [], 0, 0) :: r) → Rn κ0 σ0 κa σ2 b V al S LT HT sp F0 st (un fr v ((bd, i + 1, j + 1, pl, nv, vs, L, [], 0, 0) :: r)) pt ch w v (bd, i + 1, j + 1, pl, nv, vs, L, [], 0, 0) r ∧ pot V S st (un fr v ((bd, i + 1, j + 1, pl, nv, vs, L, [], 0, 0) :: r)) < pot V S st fr := fun κa vo vk => h.loc (f' := (bd, i + 1, j + 1, pl, nv, vs, L, [], 0, 0)) vo ro vk v2 rfl fo0 (Nat.zero_le _) (by
    show (9600 - (i + 1)) + 22000 * 0 + gws L < (9600 - i) + 22000 * s + gws L
    omega) (fun g => rfl) (fun y hy _ _ => hy)
  -- one that is over: nothing comes of it
  have over : ∀ n, 1 ≤ n ∧ n ≤ V → a = nI n → 4 ≤ st n → RunOK X d (e + 1) κ0 σ0 κ σ b x (HT + 2 * pot V S st fr) := fun n hn ha h4 => by
    subst ha
    refine rn_step (C := fun κ' => Vo v κ κ' ∧ VK κ' v ((bd, i + 1, j + 1, pl, nv, vs, L, [], 0, 0) :: r)) (D := fun σ' => σ' = σ2) all hx
      (ref_ex c12 (by omega) ((adv _ (ac_shutsO (P := fun s => s = σ2) hV60 h47' (h49' n hn.1 hn.2).1 (h49' n hn.1 hn.2).2 hn h4 rfl)).mono (fun r0 s0 hh => hh)))
      (cls _ (fun κa vo vk k hk => ?_)) ?_
    · have hke := hk.of hV60 hn
      subst hke
      exact kc_closeO (sf.kvo vo) hn h4 ⟨vo, vk⟩
    · rintro κ' σ' ⟨vo, vk⟩ rfl
      obtain ⟨hR, hp⟩ := hloc κ' vo vk
      exact ⟨_, _, _, _, _, _, _, _, _, _, _, _, _, _, _, hR, hp, by omega⟩
  rcases h.target a with ⟨n, hn, rfl, hs1⟩ | ⟨o, mis⟩
  · have hnv : n ≠ v := fun z => by rw [z, hb3] at hs1; omega
    have hcl := abn.2.2.2.2.2.2 n hn.1 hn.2
    by_cases c0 : st n = 0
    · -- it is not begun
      have hfn : fr n = [] := by
        rcases am n hn.1 hn.2 hnv with ⟨-, z⟩ | ⟨z, -⟩
        · exact z
        · omega
      have h58 : aI σ 58 n = -9 := (hcl.wid.1 hfn).2
      have hA := abn.al1 hn (by omega)
      refine rn_step (C := fun κ' => ∃ κa, Vo v κ κa ∧ VK κa v ((bd, i + 1, j + 1, pl, nv, vs, L, [], 0, 0) :: r) ∧ κ' = enK κa n sp 6) (D := fun σ' => σ' = enR σ2 n al 6) all hx
        (ref_ex c12 (by omega) ((adv _ (ac_shuts0 (P := fun s => s = enR σ2 n al 6) hV60 h47' h49' hn c0 (by rw [es 58 (by decide)]; exact h58) ((congrFun (es 48 (by decide)) 0).trans abn.2.1.2.1.2) hA rfl)).mono (fun r0 s0 hh => hh)))
        (cls _ (fun κa vo vk k hk => ?_)) ?_
      · have hke := hk.of hV60 hn
        subst hke
        obtain ⟨hR, -⟩ := hloc κa vo vk
        exact kc_close0 vk (hR.bn (x := 0)).1 hn c0 ⟨κa, vo, vk, rfl⟩
      · rintro κ' σ' ⟨κa, vo, vk, rfl⟩ rfl
        obtain ⟨hR, hp⟩ := hloc κa vo vk
        obtain ⟨hR2, hp2⟩ := hR.endN (s := 6) hn c0 (by omega)
        exact ⟨_, _, _, _, _, _, _, _, _, _, _, _, _, _, _, hR2, by omega, by omega⟩
    · -- at its yield
      have c1 : st n = 1 := by omega
      obtain ⟨cr, hcr⟩ := ac.head c14.1
      subst hcr
      have hfn : fr n ≠ [] := fun y0 => by
        rcases am n hn.1 hn.2 hnv with ⟨q1, -⟩ | ⟨-, mm', q2, -⟩
        · omega
        · exact q2.ne y0
      obtain ⟨-, -, -, hpn, h58⟩ := hcl.wid.2 hfn
      obtain ⟨σh, hdr, hh⟩ := ac_shutsY (X := X) (F0 := F0) (pn := pt n) (HT := HT) (g := gg) c14 hV60 h47' h49' hn c1 v2 h88' (by omega) hpn (by rw [es 58 (by decide)]; exact h58) (pp2.fr (es 83 (by decide)) (es 84 (by decide)) (es 85 (by decide))) hB0
      refine rn_fail (v' := n) (g' := F0) (p' := pt n) (C := fun κ' => ∃ κa κb κh, Vo v κ κa ∧ VK κa v ((bd, i + 1, j + 1, pl, nv, vs, L, [], 0, 0) :: r) ∧ FmC (cI (cI κa (1002 + 8 * v) 1 3) (1002 + 8 * n) 11 1) κb F0 (nI 14) 0 (nI v) pl 0 ∧ HdC (cI κb 79 14 (nI (F0 + 1))) κh HT (nI v) (nI n) ∧ κ' = cI (cI (cI κh 79 13 (nI n)) (1002 + 8 * n) 5 (nI v)) (1002 + 8 * n) 1 2) (D := fun σ1 => σ1 = wI (wS σh 77 (nI n)) 49 n 2) allx hx c12 (by omega) ⟨_, rfl, fun G hG => adv _ (hh G hG)⟩
        (cls _ (fun κa vo vk k hk => ?_)) ?_
      · have hke := hk.of hV60 hn
        subst hke
        have sfa := sf.kvo vo
        refine kc_closeY vk sfa c14 (fl.vo vo (Ro.refl (p := 0))) (by omega) hn hnv c1 (fun κb fc => ?_)
        have eb : ∀ g, g ≠ 84 → g ≠ 85 → g ≠ 1002 + 8 * v → g ≠ 1002 + 8 * n → kI κb g = kI κa g ∧ kW κb g = kW κa g := fun g g1 g2 g3 g4 => by
          obtain ⟨y1, y2, y3⟩ := fc.1.1.1 g (by omega)
          exact ⟨by rw [y1, kI_ne g4, kI_ne g3], y3⟩
        obtain ⟨s0, s1, s2, s3⟩ := sfa.2 n hn.1 hn.2
        have ebn : ∀ k, k ≠ 11 → kI κb (1002 + 8 * n) k = kI κa (1002 + 8 * n) k := fun k hk => by
          rw [(fc.1.1.1 (1002 + 8 * n) (by omega)).1, kI_nk hk, kI_ne (by omega)]
        refine kc_throwY (HT := HT) (g := gg) hn.1 (by rw [fc.1.1.2.2.2]; have := sfa.1.2.2.1; show n ≤ kV κa; omega) (by rw [ebn 0 (by decide)]; exact s0) (by rw [ebn 1 (by decide), s1, c1]; rfl) (pp1.fr ?_ ?_ ?_) hB0 (fun κh hd => ⟨κa, κb, κh, vo, vk, fc, hd, rfl⟩)
        · rw [(eb 82 (by omega) (by omega) (by omega) (by omega)).1, (vo.h (h := 82) (by omega) (by omega)).1]
        · rw [(eb 83 (by omega) (by omega) (by omega) (by omega)).1, (vo.h (h := 83) (by omega) (by omega)).1]
        · rw [(eb 83 (by omega) (by omega) (by omega) (by omega)).2, (vo.h (h := 83) (by omega) (by omega)).2.2]
      · rintro κ' σ' ⟨κa, κb, κh, vo, vk, fc, hd, rfl⟩ rfl
        obtain ⟨fr', f', r', hR, hp, hb⟩ := h.thrownY (k := 14) (mm := 3) (cz := 1) (f1 := (bd, i + 1, j + 1, pl, nv, vs, L, [], 0, 3)) hn c1 vo ro vk.gho (v2.gho (by omega)) ⟨rfl, by omega⟩ fo3 (Nat.zero_le _) rfl (by rw [fwt_e, fwt_e]; omega) (Or.inr ⟨rfl, rfl, rfl, rfl⟩) (by omega) fc hd hdr
        exact ⟨_, _, _, _, _, _, _, _, _, _, _, _, _, _, hR, rfl, hp, hb⟩
  · by_cases h4 : ∃ n, (1 ≤ n ∧ n ≤ V) ∧ a = nI n ∧ 4 ≤ st n
    · obtain ⟨n, hn, ha, h4⟩ := h4
      exact over n hn ha h4
    · have h4' : ∀ n, 1 ≤ n → n ≤ V → a = nI n → st n < 4 := fun n n1 n2 ha => by
        by_cases c : st n < 4
        · exact c
        · exact absurd ⟨n, ⟨n1, n2⟩, ha, by omega⟩ h4
      obtain ⟨σr, rr, hA⟩ := ac_shuts1 (X := X) (F0 := F0) c14 hV60 h47' h49' (mis.cg (es 54 (by decide))) h4' v2 h88' (by omega)
      refine rn_misuse (i' := i + 1) (j' := j + 1) (O' := []) (o := o) h allx hx hs hi9 mis.len (cls (fun κ' => ∃ κa κb, Vo v κ κa ∧ VK κa v ((bd, i + 1, j + 1, pl, nv, vs, L, [], 0, 0) :: r) ∧ FmC κa κb F0 (nI 10) 0 (nI v) pl 0 ∧ RoC (cI κb 79 14 (nI (F0 + 1))) κ' o) (fun κa vo vk k hk => kc_closeN vk (sf.kvo vo) c14 (fl.vo vo (Ro.refl (p := 0))) (by omega) mis h4' hk (fun κb κ' h1 h2 => ⟨κa, κb, vo, vk, h1, h2⟩))) ⟨_, ⟨σ2, σr, ro, v2, rr, rfl⟩, fun G hG => adv _ (hA G hG)⟩
end CLOSES2
