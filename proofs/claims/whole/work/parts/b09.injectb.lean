/-! INJECT: both -/
section INJECTS2
variable {X : Cx} {d e er : Nat} {κ0 κ κa κb κh κw κ1 κ' : Km} {σ0 σ σa σh σr σw σ1 σ' : Rm} {b V al S T sp z LT HT F0 v p n x q g k s num pn : Nat} {st : Nat → Nat} {fr fr' : Nat → List Frm} {pt : Nat → Nat} {fs fs0 r rr : List Frm} {ch cr : List Nat} {w rz : Nat → Nat} {y y' u a val vo pl0 ca : Int32} {f f1 f' : Frm} {C : Km → Prop} {P G : Rm → Prop} {o : Option (List Nat)}
variable {bd i j nv md i' j' s' md' : Nat} {pl : Int32} {vs : Nat → Int32} {L L0 : List Ite} {O O1 O0 : List Int32}
theorem ac_injects1 (hv : 1 ≤ v ∧ v ≤ V) (hV : V ≤ 60) (h47 : sI σ 47 = nI V) (hst : ∀ n, 1 ≤ n → n ≤ V → aI σ 49 n = nI (st n) ∧ st n ≤ 6) (mis : Mis σ V v st a o) (vr : VR σ v p (f :: r)) (h88 : sI σ 88 = nI F0) (hF : F0 < 8000) : ∃ σr, RoR σ σr o ∧ ∀ G, RaG X 60 v F0 p (flS σr F0 (nI 10) 0 (nI v) (frP f) (-9)) G → AC X 92 64 MX13_injects [vR 92, vI (nI v), vI a, vI u, vI y] σ (aRV G) := by
  obtain ⟨σr, rr, h⟩ := ac_misuse1 (X := X) h47 hV hst mis hv
  refine ⟨σr, rr, fun G hG => AC_of_A rfl (Nat.le_of_ble_eq_true rfl) rfl (a_injects_0 _ _ _ _ ⟨3, by omega, h _ ⟨fun z => absurd z (by decide), fun _ => ⟨62, by omega, (ac_arisesM vr rr h88 hF (by omega) hG).mono ?_⟩⟩⟩)⟩
  rintro r0 s0 ⟨rfl, h⟩
  exact ⟨rfl, rfl, h⟩
theorem ac_injectsN (hv : 1 ≤ v ∧ v ≤ V) (hV : V ≤ 60) (h47 : sI σ 47 = nI V) (hst : aI σ 49 n = nI (st n)) (hn : 1 ≤ n ∧ n ≤ V) (hs : st n = 0) (vr : VR σ v p (f :: r)) (h88 : sI σ 88 = nI F0) (hF : F0 < 8000) (h58 : aI σ 58 n = -9) (h48 : sI σ 48 = nI al) (hA : 1 ≤ al) (hnv : n ≠ v) (q : RaG X 60 v F0 p (enR (flS σ F0 u y (nI v) (frP f) (-9)) n al 5) G) : AC X 92 64 MX13_injects [vR 92, vI (nI v), vI (nI n), vI u, vI y] σ (aRV G) := by
  refine AC_of_A rfl (Nat.le_of_ble_eq_true rfl) rfl (a_injects_0 _ _ _ _ ⟨3, by omega, ac_misuse0 h47 hV hst hn (by omega) ⟨fun _ => ⟨1, by omega, ac_placeOf vr.vx ⟨0, by omega, ac_failure h88 hF ?_⟩⟩, fun z => absurd rfl z⟩⟩)
  rw [vpn (by omega), cl_nI (by omega), flS_ne (by decide), hst, litI 0, eq_nI (by omega) (by omega)]
  refine ⟨by omega, fun _ => ⟨0, by omega, ac_over9 (al := al) (by omega) (by rw [flS_ne (by decide)]; exact h58) (by rw [show sI (flS σ F0 u y (nI v) (frP f) (-9)) 48 = sI σ 48 from congrFun (flS_ne (by decide)) 0]; exact h48) hA ⟨61, by omega, ?_⟩⟩, fun z => absurd hs z⟩
  have e : enR (flS σ F0 u y (nI v) (frP f) (-9)) n al 5 = wS (wI (flS σ F0 u y (nI v) (frP f) (-9)) 49 n 5) 48 (nI (al - 1)) := if_pos (by rw [flS_ne (by decide)]; exact h58)
  rw [e] at q
  refine (ac_raise (X := X) (e := 60) (v := v) (g := F0) (p := p) (d := 61) (G := G) ⟨hv.1, by omega⟩ (by rw [aI_ne (by decide), aI_ne (by decide), flS_ne (by decide)]; exact vr.2.1) (by omega) q).mono ?_
  rintro r0 s0 ⟨rfl, h⟩
  exact ⟨rfl, rfl, h⟩
theorem ac_injectsY {g : Nat → Int32} (hv : 1 ≤ v ∧ v ≤ V) (hV : V ≤ 60) (h47 : sI σ 47 = nI V) (hst : aI σ 49 n = nI (st n)) (hn : 1 ≤ n ∧ n ≤ V) (hs : st n = 1) (vr : VR σ v p (f :: r)) (h88 : sI σ 88 = nI F0) (hF : F0 < 8000) (hpn : pn < 12) (h58 : aI σ 58 n = nI pn) (pr : PRr σ 83 84 85 HT g) (hT : HT < 2000000000) : ∃ σh, HdR (wI (flS (wI (wI σ 49 v 3) 56 v (nI 1)) F0 u y (nI v) (frP f) (-9)) 54 n (nI v)) σh HT (nI v) (nI n) ∧ ∀ G, RaG X 60 n F0 pn (wI (wS σh 77 (nI n)) 49 n 2) G → AC X 92 64 MX13_injects [vR 92, vI (nI v), vI (nI n), vI u, vI y] σ (aRV G) := by
  have es : ∀ k, k ≠ 49 → k ≠ 56 → k < 88 → aI (flS (wI (wI σ 49 v 3) 56 v (nI 1)) F0 u y (nI v) (frP f) (-9)) k = aI σ k := fun k k1 k2 k3 => by rw [flS_ne (Or.inl k3), aI_ne k2, aI_ne k1]
  obtain ⟨σh, hd, hh⟩ := ac_thrownInto (X := X) (n := n) (p := pn) (q := F0) (u := nI v) (HT := HT) (σ := flS (wI (wI σ 49 v 3) 56 v (nI 1)) F0 u y (nI v) (frP f) (-9)) ⟨hn.1, by omega⟩ hpn (by rw [es 58 (by decide) (by decide) (by decide)]; exact h58) hF (pr.fr (es 83 (by decide) (by decide) (by decide)) (es 84 (by decide) (by decide) (by decide)) (es 85 (by decide) (by decide) (by decide))) hT
  refine ⟨σh, hd, fun G hG => ?_⟩
  refine AC_of_A rfl (Nat.le_of_ble_eq_true rfl) rfl (a_injects_0 _ _ _ _ ⟨3, by omega, ac_misuse0 h47 hV hst hn (by omega) ⟨fun _ => ⟨1, by omega, ac_placeOf vr.vx ⟨0, by omega, ac_failure h88 hF ?_⟩⟩, fun z => absurd rfl z⟩⟩)
  rw [vpn (by omega), cl_nI (by omega), flS_ne (by decide), hst, litI 0, eq_nI (by omega) (by omega), vpn (by omega), cl_nI (by omega)]
  refine ⟨by omega, fun z => absurd z (by omega), fun _ => ⟨by omega, ?_⟩⟩
  rintro s28 rfl
  refine ⟨by omega, ?_⟩
  rintro s30 rfl
  have e : wI (wI (flS σ F0 u y (nI v) (frP f) (-9)) 49 v 3) 56 v 1 = flS (wI (wI σ 49 v 3) 56 v (nI 1)) F0 u y (nI v) (frP f) (-9) := by rw [flS_wI (by decide), flS_wI (by decide)]; rfl
  rw [e]
  refine ⟨62, by omega, (hh G hG).mono ?_⟩
  rintro r0 s0 ⟨rfl, h⟩
  exact ⟨rfl, rfl, h⟩
theorem lc_inject (h : Rn κ0 σ0 κ σ b V al S LT HT sp F0 st fr pt ch w v (bd, i, j, pl, nv, vs, L, O ++ [a] ++ [y], s, md) r) (allx : AllX X d (e + 1) κ0 σ0 b (pot V S st fr)) (hx : x + pot V S st fr ≤ 199000000) (hd : 11 ≤ d) (he : 66 ≤ e) (hs : s = 1) (e69 : kI κ0 69 i = 27) (e13 : aI σ0 13 j = 18) (hnum : num < 10) (e70 : kI κ0 70 i = nI num) (e14 : aI σ0 14 j = nI num) (hj : j + 1 < 12000) (gd : Good2 κ0 σ0 (fun _ => False) (bd, i + 1, j + 1, L.map itm, O.length + 1, 1)) : RunOK X d (e + 1) κ0 σ0 κ σ b x (HT + 2 * pot V S st fr) := by
  obtain ⟨n1, n2, n3, n4, n5, n6, n7, n8, n9, vr⟩ := h.num
  obtain ⟨-, -, -, -, -, -, c12, c13, c14⟩ := h.cls
  obtain ⟨f88, fF, fl, sta⟩ := h.f88
  obtain ⟨⟨h47, hV60⟩, h49, sf, hal⟩ := h.sts
  have hb3 := h.2.1.2.2.1
  have fo : FrO κ0 σ0 F0 b (bd, i + 1, j + 1, pl, nv, vs, L, O, 1, 1) := ⟨n9.1, n9.2.1, Nat.le_refl _, n9.2.2.2.1, Or.inr (Or.inl ⟨rfl, rfl, ⟨i, rfl, by rw [e69]; decide, by rw [e69]; decide⟩, gd⟩)⟩
  have hi9 : i + 1 ≤ 9500 := (fo.frx sta).2.2.2.2.1.2
  obtain ⟨σ2, ⟨ro, v2⟩, adv⟩ := on_inject (X := X) (d := e) (i' := i + 1) (s' := 1) (md' := 1) (by omega) c12 vr hj (by rw [c13 13 (by omega) (by omega)]; exact e13) (by rw [c13 14 (by omega) (by omega)]; exact e14) (by omega)
  have es : ∀ k, (k < 60 ∨ 74 < k) → aI σ2 k = aI σ k := fun k hk => ro.s hk
  have h47' : sI σ2 47 = nI V := (congrFun (es 47 (by decide)) 0).trans h47
  have h49' : ∀ n, 1 ≤ n → n ≤ V → aI σ2 49 n = nI (st n) ∧ st n ≤ 6 := fun n n1 n2 => by rw [es 49 (by decide)]; exact h49 n n1 n2
  have h88' : sI σ2 88 = nI F0 := (congrFun (es 88 (by decide)) 0).trans f88
  obtain ⟨abn, ac, am⟩ := h.bn (x := 0)
  have hnr : ∀ n, 1 ≤ n → n ≤ V → st n ≤ 1 → n ≠ v := fun n _ _ h1 z => by rw [z, hb3] at h1; omega
  obtain ⟨gg, pp1, pp2⟩ := abn.hp
  have hB0 : HT < 2000000000 := by have := h.2.2.2.2.1.2.2; omega
  -- the class, up to the three ways
  have cls : ∀ C : Km → Prop, (∀ κa κb, Vo v κ κa → VK κa v ((bd, i + 1, j + 1, pl, nv, vs, L, O, 1, 1) :: r) → ∀ n, 1 ≤ n ∧ n ≤ V → a = nI n → st n = 0 → FmC κa κb F0 (nI num) y (nI v) pl 0 → KC' X 5 MX6_throwInto [vR 79, vR (1002 + 8 * n), vI (nI v), vI (nI (F0 + 1))] κb (kRV C)) → (∀ κa κb, Vo v κ κa → VK κa v ((bd, i + 1, j + 1, pl, nv, vs, L, O, 1, 1) :: r) → ∀ n, 1 ≤ n ∧ n ≤ V → a = nI n → st n = 1 → FmC (cI κa (1002 + 8 * v) 1 3) κb F0 (nI num) y (nI v) pl 0 → KC' X 5 MX6_throwInto [vR 79, vR (1002 + 8 * n), vI (nI v), vI (nI (F0 + 1))] κb (kRV C)) → (∀ κa, Vo v κ κa → VK κa v ((bd, i + 1, j + 1, pl, nv, vs, L, O, 1, 1) :: r) → ∀ k, HdA V a k → (∀ n, 1 ≤ n → n ≤ V → a = nI n → 2 ≤ st n) → KC' X 8 MX6_misuse [vR 79, vR (1002 + 8 * v), vR k] κa (kRV C)) → ∀ Q : Res → Km → Prop, (∀ κ', C κ' → K X d MX6_run 2 [(0, vR 79), (1, vI (nI (x + 1)))] [] κ' Q) → K X d MX6_run 2 [(0, vR 79), (1, vI (nI x))] [] κ Q := fun C q1 q2 q3 => h.ppc hx (by omega) (by decide) e69 (fun κ1 vo1 vk1 => ⟨10, by omega, by
    rw [e70]
    exact pp_inject (σ' := σ) (F0 := F0) (num := num) (j' := j + 1) (s' := 1) (md' := 1) vk1 (sf.kvo vo1) c14 (fl.vo vo1 (Ro.refl (p := 0))) (by omega) hnr (fun κa κb vo vk n hn ha hs1 fc => q1 κa κb (vo1.trans vo) vk n hn ha hs1 fc) (fun κa κb vo vk n hn ha hs1 fc => q2 κa κb (vo1.trans vo) vk n hn ha hs1 fc) (fun κa vo vk k hk hh => q3 κa (vo1.trans vo) vk k hk hh)⟩)
  rcases h.target a with ⟨n, hn, rfl, hs1⟩ | ⟨o, mis⟩
  · have hnv : n ≠ v := hnr n hn.1 hn.2 hs1
    have hne : ∀ n', 1 ≤ n' ∧ n' ≤ V → nI n = nI n' → n' = n := fun n' hn' ha' => by
      rw [eq_nI (by omega) (by omega)] at ha'
      exact ha'.symm
    by_cases c0 : st n = 0
    · -- it is not begun
      have hcl := abn.2.2.2.2.2.2 n hn.1 hn.2
      have hfn : fr n = [] := by
        rcases am n hn.1 hn.2 hnv with ⟨-, z⟩ | ⟨z, -⟩
        · exact z
        · omega
      have h58 : aI σ 58 n = -9 := (hcl.wid.1 hfn).2
      have hA := abn.al1 hn (by omega)
      have fx : FrX κ0 σ0 F0 b (bd, i + 1, j + 1, pl, nv, vs, L, O, 0, 0) := (fo.frx sta).to (by omega) hi9
      have vf : VR (flS σ2 F0 (nI num) y (nI v) pl (-9)) v (pt v) ((bd, i + 1, j + 1, pl, nv, vs, L, O, 0, 0) :: r) := (v2.gho (s' := 0) (md' := 0) (show i + 1 < 20000 by omega)).cg1 (fun k k1 k2 => flS_ne (by omega))
      refine rn_fail (v' := v) (g' := F0) (p' := pt v) (C := fun κ' => ∃ κa κb, Vo v κ κa ∧ VK κa v ((bd, i + 1, j + 1, pl, nv, vs, L, O, 0, 0) :: r) ∧ FmC κa κb F0 (nI num) y (nI v) pl 0 ∧ κ' = enK (cI κb 79 14 (nI (F0 + 1))) n sp 5) (D := fun σ1 => σ1 = enR (flS σ2 F0 (nI num) y (nI v) pl (-9)) n al 5) allx hx c12 (by omega) ⟨_, rfl, fun G hG => adv _ (ac_injectsN c14 hV60 h47' (h49' n hn.1 hn.2).1 hn c0 v2 h88' (by omega) (by rw [es 58 (by decide)]; exact h58) ((congrFun (es 48 (by decide)) 0).trans abn.2.1.2.1.2) hA hnv hG)⟩
        (cls _ (fun κa κb vo vk n' hn' ha' hs0 fc => ?_) (fun κa κb vo vk n' hn' ha' hs0 fc => ?_) (fun κa vo vk k hk hh => ?_)) ?_
      · have e := hne n' hn' ha'
        subst e
        obtain ⟨hR, -⟩ := h.fail (k := num) (f' := (bd, i + 1, j + 1, pl, nv, vs, L, O, 0, 0)) (ca := -9) (val := y) (vo := nI v) (pl := pl) hs vo ro vk.gho (v2.gho (by omega)) fx rfl rfl (by omega) (Or.inl rfl) fc
        exact kc_throwN (hR.bn0 vf) hn' c0 (by
          intro z
          exact absurd z (nI_ne0 (by omega) (by omega))) ⟨κa, κb, vo, vk.gho, fc, rfl⟩
      · have e := hne n' hn' ha'
        subst e
        omega
      · have := hh n hn.1 hn.2 rfl
        omega
      · rintro κ' σ' ⟨κa, κb, vo, vk, fc, rfl⟩ rfl
        obtain ⟨hR, hp⟩ := h.fail (k := num) (f' := (bd, i + 1, j + 1, pl, nv, vs, L, O, 0, 0)) (ca := -9) (val := y) (vo := nI v) (pl := pl) hs vo ro vk (v2.gho (by omega)) fx rfl rfl (by omega) (Or.inl rfl) fc
        obtain ⟨hR2, hp2⟩ := hR.endN (s := 5) vf hn c0 (by omega)
        exact ⟨_, _, _, _, _, _, _, _, _, _, _, _, _, _, hR2, rfl, by omega, by omega⟩
    · -- at its yield
      have c1 : st n = 1 := by omega
      obtain ⟨cr, hcr⟩ := ac.head c14.1
      subst hcr
      have hcl := abn.2.2.2.2.2.2 n hn.1 hn.2
      have hfn : fr n ≠ [] := fun y0 => by
        rcases am n hn.1 hn.2 hnv with ⟨q1, -⟩ | ⟨-, mm', q2, -⟩
        · omega
        · exact q2.ne y0
      obtain ⟨-, -, -, hpn, h58⟩ := hcl.wid.2 hfn
      obtain ⟨σh, hdr, hh⟩ := ac_injectsY (X := X) (u := nI num) (y := y) (F0 := F0) (pn := pt n) (HT := HT) (g := gg) c14 hV60 h47' (h49' n hn.1 hn.2).1 hn c1 v2 h88' (by omega) hpn (by rw [es 58 (by decide)]; exact h58) (pp2.fr (es 83 (by decide)) (es 84 (by decide)) (es 85 (by decide))) hB0
      refine rn_fail (v' := n) (g' := F0) (p' := pt n) (C := fun κ' => ∃ κa κb κh, Vo v κ κa ∧ VK κa v ((bd, i + 1, j + 1, pl, nv, vs, L, O, 1, 1) :: r) ∧ FmC (cI κa (1002 + 8 * v) 1 3) κb F0 (nI num) y (nI v) pl 0 ∧ HdC (cI κb 79 14 (nI (F0 + 1))) κh HT (nI v) (nI n) ∧ κ' = cI (cI (cI κh 79 13 (nI n)) (1002 + 8 * n) 5 (nI v)) (1002 + 8 * n) 1 2) (D := fun σ1 => σ1 = wI (wS σh 77 (nI n)) 49 n 2) allx hx c12 (by omega) ⟨_, rfl, fun G hG => adv _ (hh G hG)⟩
        (cls _ (fun κa κb vo vk n' hn' ha' hs0 fc => ?_) (fun κa κb vo vk n' hn' ha' hs0 fc => ?_) (fun κa vo vk k hk hh => ?_)) ?_
      · have e := hne n' hn' ha'
        subst e
        omega
      · have e := hne n' hn' ha'
        subst e
        have sfa := sf.kvo vo
        have eb : ∀ g, g ≠ 84 → g ≠ 85 → g ≠ 1002 + 8 * v → kI κb g = kI κa g ∧ kW κb g = kW κa g := fun g g1 g2 g3 => by
          obtain ⟨y1, y2, y3⟩ := fc.1.1.1 g (by omega)
          exact ⟨by rw [y1, kI_ne g3], y3⟩
        obtain ⟨s0, s1, s2, s3⟩ := sfa.2 n' hn'.1 hn'.2
        refine kc_throwY (HT := HT) (g := gg) hn'.1 (by rw [fc.1.1.2.2.2]; have := sfa.1.2.2.1; show n' ≤ kV κa; omega) (by rw [(eb _ (by omega) (by omega) (by omega)).1]; exact s0) (by rw [(eb _ (by omega) (by omega) (by omega)).1, s1, c1]; rfl) (pp1.fr ?_ ?_ ?_) hB0 (fun κh hd => ⟨κa, κb, κh, vo, vk, fc, hd, rfl⟩)
        · rw [(eb 82 (by omega) (by omega) (by omega)).1, (vo.h (h := 82) (by omega) (by omega)).1]
        · rw [(eb 83 (by omega) (by omega) (by omega)).1, (vo.h (h := 83) (by omega) (by omega)).1]
        · rw [(eb 83 (by omega) (by omega) (by omega)).2, (vo.h (h := 83) (by omega) (by omega)).2.2]
      · have := hh n hn.1 hn.2 rfl
        omega
      · rintro κ' σ' ⟨κa, κb, κh, vo, vk, fc, hd, rfl⟩ rfl
        obtain ⟨fr', f', r', hR, hp, hb⟩ := h.thrownY (k := num) (mm := 1) (cz := 0) hn c1 vo ro vk v2 ⟨rfl, Nat.le_refl _⟩ fo (by show 1 ≤ s; omega) rfl (by rw [fwt_e, fwt_e]; omega) (Or.inl ⟨rfl, rfl, rfl⟩) (by omega) fc hd hdr
        exact ⟨_, _, _, _, _, _, _, _, _, _, _, _, _, _, hR, rfl, hp, hb⟩
  · have hno : ∀ n, 1 ≤ n ∧ n ≤ V → a = nI n → st n ≤ 1 → False := fun n hn ha h1 => by
      rcases mis with ⟨hz, -⟩ | ⟨m, m1, m2, hc⟩
      · rw [ha, litI 1, lt_nI (by omega) (by omega), lt_nI (by omega) (by omega)] at hz
        omega
      · rw [ha, eq_nI (by omega) (by omega)] at m2
        subst m2
        rcases hc with ⟨c1, -⟩ | ⟨c1, -⟩ <;> omega
    obtain ⟨σr, rr, hA⟩ := ac_injects1 (X := X) (u := nI num) (y := y) (F0 := F0) c14 hV60 h47' h49' (mis.cg (es 54 (by decide))) v2 h88' (by omega)
    refine rn_misuse (i' := i + 1) (j' := j + 1) (O' := O) (o := o) h allx hx hs hi9 mis.len (cls (fun κ' => ∃ κa κb, Vo v κ κa ∧ VK κa v ((bd, i + 1, j + 1, pl, nv, vs, L, O, 0, 0) :: r) ∧ FmC κa κb F0 (nI 10) 0 (nI v) pl 0 ∧ RoC (cI κb 79 14 (nI (F0 + 1))) κ' o) (fun κa κb vo vk n hn ha h1 => absurd h1 (fun h1 => hno n hn ha (by omega))) (fun κa κb vo vk n hn ha h1 => absurd h1 (fun h1 => hno n hn ha (by omega))) (fun κa vo vk k hk _ => kc_misuse vk (sf.kvo vo) c14 (fl.vo vo (Ro.refl (p := 0))) (by omega) mis hk (fun κb κ' h1 h2 => ⟨κa, κb, vo, vk.gho, h1, h2⟩))) ⟨_, ⟨σ2, σr, ro, v2.gho (by omega), rr, rfl⟩, fun G hG => adv _ (hA G hG)⟩
end INJECTS2
