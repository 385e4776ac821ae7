/-! HAND: both -/
section HANDS3
variable {X : Cx} {d e er : Nat} {κ0 κ κa κb κc κ1 κ' : Km} {σ0 σ σa σc σr σ1 σ' : Rm} {b V al S T sp z LT HT F0 v p n x q g k s1 sc kn nw a0 j2 mm cl : Nat} {st : Nat → Nat} {fr fr' : Nat → List Frm} {pt : Nat → Nat} {fs fs0 r rr : List Frm} {ch cr : List Nat} {w rz : Nat → Nat} {y u a arg fm0 : Int32} {f f1 f' : Frm} {o : Option (List Nat)} {C : Km → Prop} {P : Rm → Prop}
variable {bd i j nv s md i' j' s' md' : Nat} {pl : Int32} {vs : Nat → Int32} {L L0 : List Ite} {O O1 O0 : List Int32}
theorem lc_hand (h : Rn κ0 σ0 κ σ b V al S LT HT sp F0 st fr pt ch w v (bd, i, j, pl, nv, vs, L, O ++ [a] ++ [y], s, md) r) (all : AllOK X d (e + 1) κ0 σ0 b (pot V S st fr)) (allx : AllX X d (e + 1) κ0 σ0 b (pot V S st fr)) (hx : x + pot V S st fr ≤ 199000000) (hd : 11 ≤ d) (he : 65 ≤ e) (hs : s = 1) (e69 : kI κ0 69 i = 28) (e13 : aI σ0 13 j = 19) (hj : j + 1 < 12000) (gd : Good2 κ0 σ0 (fun _ => False) (bd, i + 1, j + 1, L.map itm, O.length + 1, 1)) : RunOK X d (e + 1) κ0 σ0 κ σ b x (HT + 2 * pot V S st fr) := by
  obtain ⟨n1, n2, n3, n4, n5, n6, n7, n8, n9, vr⟩ := h.num
  obtain ⟨-, -, -, -, -, -, c12, c13, c14⟩ := h.cls
  obtain ⟨f88, fF, fl, sta⟩ := h.f88
  obtain ⟨⟨h47, hV60⟩, h49, sf, hal⟩ := h.sts
  have hb3 := h.2.1.2.2.1
  have fo : FrO κ0 σ0 F0 b (bd, i + 1, j + 1, pl, nv, vs, L, O, 1, 1) := ⟨n9.1, n9.2.1, Nat.le_refl _, n9.2.2.2.1, Or.inr (Or.inl ⟨rfl, rfl, ⟨i, rfl, by rw [e69]; decide, by rw [e69]; decide⟩, gd⟩)⟩
  have hi9 : i + 1 ≤ 9500 := (fo.frx sta).2.2.2.2.1.2
  obtain ⟨σ2, ⟨ro, v2⟩, adv⟩ := on_hand (X := X) (d := e) (i' := i + 1) (s' := 1) (md' := 1) (by omega) c12 vr hj (by rw [c13 13 (by omega) (by omega)]; exact e13) (by omega)
  have es : ∀ k, (k < 60 ∨ 74 < k) → aI σ2 k = aI σ k := fun k hk => ro.s hk
  have h47' : sI σ2 47 = nI V := (congrFun (es 47 (by decide)) 0).trans h47
  have h49' : ∀ n, 1 ≤ n → n ≤ V → aI σ2 49 n = nI (st n) ∧ st n ≤ 6 := fun n n1 n2 => by rw [es 49 (by decide)]; exact h49 n n1 n2
  have h88' : sI σ2 88 = nI F0 := (congrFun (es 88 (by decide)) 0).trans f88
  obtain ⟨abn, ac, am⟩ := h.bn (x := 0)
  obtain ⟨w1, w2, w3, w4, w5, ⟨w6, w6b⟩, w7, w8, ⟨cl, cl1, cl2, cl3⟩⟩ := abn.2.2.1 v c14.1 c14.2
  have e57 : aI σ2 57 v = nI cl := by rw [es 57 (by decide)]; exact cl3
  have hnr : ∀ n, 1 ≤ n → n ≤ V → st n ≤ 1 → n ≠ v := fun n _ _ h1 z => by rw [z, hb3] at h1; omega
  -- the class, up to the three ways
  have cls : ∀ C : Km → Prop, (cl = 0 → ∀ κa, Vo v κ κa → VK κa v ((bd, i + 1, j + 1, pl, nv, vs, L, O, 1, 1) :: r) → ∀ n, 1 ≤ n ∧ n ≤ V → a = nI n → st n ≤ 1 → KC' X 6 MX6_give [vR 79, vI (nI v), vR (1002 + 8 * n), vI y] (cI (cI κa (1002 + 8 * v) 1 1) (1002 + 8 * n) 5 (kI κ (1002 + 8 * v) 5)) (kRV C)) → (cl = 0 → ∀ κa, Vo v κ κa → VK κa v ((bd, i + 1, j + 1, pl, nv, vs, L, O, 1, 1) :: r) → ∀ k, HdA V a k → (∀ n, 1 ≤ n → n ≤ V → a = nI n → 2 ≤ st n) → KC' X 8 MX6_misuse [vR 79, vR (1002 + 8 * v), vR k] κa (kRV C)) → (cl = 1 → ∀ κa, Vo v κ κa → VK κa v ((bd, i + 1, j + 1, pl, nv, vs, L, O, 1, 1) :: r) → KC' X 4 MX6_raise [vR 79, vR (1002 + 8 * v), vI 10] κa (kRV C)) → ∀ Q : Res → Km → Prop, (∀ κ', C κ' → K X d MX6_run 2 [(0, vR 79), (1, vI (nI (x + 1)))] [] κ' Q) → K X d MX6_run 2 [(0, vR 79), (1, vI (nI x))] [] κ Q := fun C q1 q2 q3 => h.ppc hx (by omega) (by decide) e69 (fun κ1 vo1 vk1 => ⟨10, by omega, pp_hand (j' := j + 1) (s' := 1) (md' := 1) vk1 (sf.kvo vo1) c14 (by rw [vo1.2.2 11 (by decide) (by decide) (by decide) (by decide) (by decide)]; exact cl2) cl1 hnr (fun z κa vo vk n hn ha hs1 => by
      rw [vo1.2.2 5 (by decide) (by decide) (by decide) (by decide) (by decide)]
      exact q1 z κa (vo1.trans vo) vk n hn ha hs1) (fun z κa vo vk k hk hh => q2 z κa (vo1.trans vo) vk k hk hh) (fun z κa vo vk => q3 z κa (vo1.trans vo) vk)⟩)
  by_cases hcl : cl = 1
  · -- it is closing
    subst hcl
    refine rn_misuse (i' := i + 1) (j' := j + 1) (O' := O) (o := none) h allx hx hs hi9 (fun l z => nomatch z) (cls (fun κ' => ∃ κa κb, Vo v κ κa ∧ VK κa v ((bd, i + 1, j + 1, pl, nv, vs, L, O, 0, 0) :: r) ∧ FmC κa κb F0 (nI 10) 0 (nI v) pl 0 ∧ RoC (cI κb 79 14 (nI (F0 + 1))) κ' none) (fun z => by omega) (fun z => by omega) (fun _ κa vo vk => kc_raise vk ((sf.kvo vo).2 v c14.1 c14.2).1 (fl.vo vo (Ro.refl (p := 0))) (by omega) (fun κb fc => ⟨κa, κb, vo, vk.gho, fc, Or.inl ⟨rfl, rfl⟩⟩))) ⟨_, ⟨σ2, σ2, ro, v2.gho (by omega), Or.inl ⟨rfl, rfl⟩, rfl⟩, fun G hG => adv _ (ac_handsC c14 hV60 e57 v2 h88' (by omega) G hG)⟩
  · have hc0 : cl = 0 := by omega
    subst hc0
    have e57 : aI σ2 57 v = 0 := e57
    rcases h.target a with ⟨n, hn, rfl, hs1⟩ | ⟨o, mis⟩
    · have hnv : n ≠ v := hnr n hn.1 hn.2 hs1
      obtain ⟨sc, arg, kn, nw, a0, j2, p, gk, gr, gb, gf, gp1, gp0⟩ := giv_of abn hn hs1 hal (am n hn.1 hn.2 hnv)
      obtain ⟨fs, gf1, gn⟩ := gf y
      have hB0 : HT < 2000000000 := by have := h.2.2.2.2.1.2.2; omega
      obtain ⟨cr, hcr⟩ := ac.head c14.1
      subst hcr
      have hVRn : st n = 1 → VR σ2 n p (fr n) := fun z => by
        have hp := gp1 z
        have h5 := gr.2.2.2.1 z
        have hfn : fr n ≠ [] := fun y0 => by
          rcases am n hn.1 hn.2 hnv with ⟨q1, -⟩ | ⟨-, mm', q2, -⟩
          · omega
          · exact q2.ne y0
        refine h5.ro (fun e1 => ?_) ro
        exact abn.2.2.2.1.2.2.2.2.1 n v hn.1 hn.2 c14.1 c14.2 hnv hfn (by rw [h.2.1.2.2.2.1]; exact List.cons_ne_nil _ _) (by rw [← hp]; exact e1)
      refine rn_step (C := fun κ' => ∃ κa, Vo v κ κa ∧ VK κa v ((bd, i + 1, j + 1, pl, nv, vs, L, O, 1, 1) :: r) ∧ GvC (cI (cI κa (1002 + 8 * v) 1 1) (1002 + 8 * n) 5 (kI κ (1002 + 8 * v) 5)) κ' HT n sp (st n) (nI v) fs) (D := fun σ' => GvR (wI (wI σ2 49 v 1) 54 n (aI σ2 54 v)) σ' HT n p (st n) (nI v) fs) all hx
        (ref_ex c12 (by omega) ((adv _ (ac_hands0 c14 hV60 e57 h47' (h49' n hn.1 hn.2).1 hn hs1 (ac_goesTo ⟨hn.1, by omega⟩ (gr.tr (fun k k1 k2 k3 k4 k5 => by rw [aI_ne k2, aI_ne k1, es k k5]) (by rw [aI_ne (by decide), aI_ni hnv, es 49 (by decide)]) (fun z => (hVRn z).cg1 (fun k k1 k2 => by rw [aI_ne (by omega), aI_ne (by omega)]))) gb gf1 hB0 (fun σ' hg => hg)))).mono (fun r0 s0 hh => hh)))
        (cls _ (fun _ κa vo vk n' hn' ha' _ => ?_) (fun _ κa vo vk k hk hh => ?_) (fun z => by omega)) ?_
      · have hne : n' = n := by
          rw [eq_nI (by omega) (by omega)] at ha'
          exact ha'.symm
        subst hne
        refine kc_give (gk.tr (v := v) hnv (fun g g1 g2 g3 g4 => by rw [kI_ne g4, kI_ne g2, (vo.h g2 (by omega)).1]) (fun g g0 g1 => (vo.h g0 (by omega)).2.2) ?_ (fun k k1 k2 => ?_) ⟨vo.1.2.2.2, vo.1.2.2.1⟩) gb gf1 hB0 (fun κ' hg => ⟨κa, vo, vk, hg⟩)
        · rw [kI_ne (by omega), kI_ne (by omega), (vo.h (h := 79) (by omega) (by omega)).1]
        · rw [kI_nk k1, kI_ne (by omega), (vo.h (h := 1002 + 8 * n') (by omega) (by omega)).1]
      · have := hh n hn.1 hn.2 rfl
        omega
      · rintro κ' σ' ⟨κa, vo, vk, hgc⟩ hgr
        rw [es 54 (by decide)] at hgr
        obtain ⟨sp', st', fr', pt', f', r', hR, hp, hb⟩ := h.turnHand (y := aI σ 54 v) hn hs1 vo ro vk v2 rfl (by rw [cl3]; decide) rfl fo (by show 1 ≤ s; omega) rfl (by rw [fwt_e, fwt_e]; omega) gn gp1 (fun z => ⟨gp0 z, (gr.2.2.2.2 z).1, (gr.2.2.2.2 z).2.1⟩) (by rw [← w6]; exact hgc) hgr
        exact ⟨_, _, _, _, _, _, _, _, _, _, _, _, _, _, _, hR, hp, hb⟩
    · have hno : ∀ n, 1 ≤ n ∧ n ≤ V → a = nI n → st n ≤ 1 → False := fun n hn ha h1 => by
        rcases mis with ⟨hz, -⟩ | ⟨m, m1, m2, hc⟩
        · rw [ha, litI 1, lt_nI (by omega) (by omega), lt_nI (by omega) (by omega)] at hz
          omega
        · rw [ha, eq_nI (by omega) (by omega)] at m2
          subst m2
          rcases hc with ⟨c1, -⟩ | ⟨c1, -⟩ <;> omega
      obtain ⟨σr, rr, hA⟩ := ac_hands1 (X := X) (y := y) (F0 := F0) c14 hV60 e57 h47' h49' (mis.cg (es 54 (by decide))) v2 h88' (by omega)
      refine rn_misuse (i' := i + 1) (j' := j + 1) (O' := O) (o := o) h allx hx hs hi9 mis.len (cls (fun κ' => ∃ κa κb, Vo v κ κa ∧ VK κa v ((bd, i + 1, j + 1, pl, nv, vs, L, O, 0, 0) :: r) ∧ FmC κa κb F0 (nI 10) 0 (nI v) pl 0 ∧ RoC (cI κb 79 14 (nI (F0 + 1))) κ' o) (fun _ κa vo vk n hn ha h1 => absurd h1 (fun h1 => hno n hn ha h1)) (fun _ κa vo vk k hk _ => kc_misuse vk (sf.kvo vo) c14 (fl.vo vo (Ro.refl (p := 0))) (by omega) mis hk (fun κb κ' h1 h2 => ⟨κa, κb, vo, vk.gho, h1, h2⟩)) (fun z => by omega)) ⟨_, ⟨σ2, σr, ro, v2.gho (by omega), rr, rfl⟩, fun G hG => adv _ (hA G hG)⟩
end HANDS3
