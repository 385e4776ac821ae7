/-! RESUME: both -/
section RESUMES2
variable {X : Cx} {d e er : Nat} {κ0 κ κa κb κc κ1 κ' : Km} {σ0 σ σa σc σr σ1 σ' : Rm} {b V al S T sp z LT HT F0 v p n x q g k s1 sc kn nw a0 j2 mm : Nat} {st : Nat → Nat} {fr fr' : Nat → List Frm} {pt : Nat → Nat} {fs fs0 r rr : List Frm} {ch cr : List Nat} {w rz : Nat → Nat} {y u a arg fm0 : Int32} {f f1 f' : Frm} {o : Option (List Nat)} {C : Km → Prop} {P : Rm → Prop}
variable {bd i j nv s md i' j' s' md' : Nat} {pl : Int32} {vs : Nat → Int32} {L L0 : List Ite} {O O1 O0 : List Int32}
theorem Rn.sts (h : Rn κ0 σ0 κ σ b V al S LT HT sp F0 st fr pt ch w v f r) : (sI σ 47 = nI V ∧ V ≤ 60) ∧ (∀ n, 1 ≤ n → n ≤ V → aI σ 49 n = nI (st n) ∧ st n ≤ 6) ∧ StF κ σ V st ∧ ∀ n, 1 ≤ n → n ≤ V → fr n ≠ [] → st n < 4 := by
  obtain ⟨a, c, m⟩ := h.bn (x := 0)
  refine ⟨⟨a.2.1.1.2, a.2.1.2.2.2.2.2.2.2.1⟩, fun n n1 n2 => ?_, a.stf, fun n n1 n2 hf => ?_⟩
  · obtain ⟨-, ⟨-, v2, v3⟩, -⟩ := a.2.2.1 n n1 n2
    exact ⟨v2, v3⟩
  · by_cases c : n = v
    · rw [c, h.2.1.2.2.1]; omega
    · rcases m n n1 n2 c with ⟨-, z⟩ | ⟨z, -⟩
      · exact absurd z hf
      · omega
theorem lc_resumeG (h : Rn κ0 σ0 κ σ b V al S LT HT sp F0 st fr pt ch w v (bd, i, j, pl, nv, vs, L, O, s, md) r) (all : AllOK X d (e + 1) κ0 σ0 b (pot V S st fr)) (allx : AllX X d (e + 1) κ0 σ0 b (pot V S st fr)) (hx : x + pot V S st fr ≤ 199000000) (hs : s = 1) (hmm : 1 ≤ mm) (fo : FrO κ0 σ0 F0 b (bd, i + 1, j + 1, pl, nv, vs, L, O1, 1, mm))
    (cls : ∀ C : Km → Prop, (∀ κa, Vo v κ κa → VK κa v ((bd, i + 1, j + 1, pl, nv, vs, L, O1, 1, mm) :: r) → ∀ k, HdA V a k → KC' X 9 MX6_resumeBy [vR 79, vR (1002 + 8 * v), vR k, vI y] κa (kRV C)) → ∀ Q : Res → Km → Prop, (∀ κ', C κ' → K X d MX6_run 2 [(0, vR 79), (1, vI (nI (x + 1)))] [] κ' Q) → K X d MX6_run 2 [(0, vR 79), (1, vI (nI x))] [] κ Q)
    (refs : ∃ σ2, (Ro (pt v) σ σ2 ∧ VR σ2 v (pt v) ((bd, i + 1, j + 1, pl, nv, vs, L, O1, 1, mm) :: r)) ∧ ∀ P, AC X 92 63 MX13_resumes [vR 92, vI (nI v), vI a, vI y, vI (nI mm)] σ2 (aRV P) → A X 92 e MX13_goesOn 0 [(0, vR 92)] [] σ (aRV P)) : RunOK X d (e + 1) κ0 σ0 κ σ b x (HT + 2 * pot V S st fr) := by
  obtain ⟨n1, n2, n3, n4, n5, n6, n7, n8, n9, vr⟩ := h.num
  obtain ⟨-, -, -, -, -, -, c12, c13, c14⟩ := h.cls
  obtain ⟨f88, fF, fl, sta⟩ := h.f88
  obtain ⟨⟨h47, hV60⟩, h49, sf, hal⟩ := h.sts
  have hi9 : i + 1 ≤ 9500 := (fo.frx sta).2.2.2.2.1.2
  obtain ⟨σ2, ⟨ro, v2⟩, adv⟩ := refs
  have es : ∀ k, (k < 60 ∨ 74 < k) → aI σ2 k = aI σ k := fun k hk => ro.s hk
  have h47' : sI σ2 47 = nI V := (congrFun (es 47 (by decide)) 0).trans h47
  have h49' : ∀ n, 1 ≤ n → n ≤ V → aI σ2 49 n = nI (st n) ∧ st n ≤ 6 := fun n n1 n2 => by rw [es 49 (by decide)]; exact h49 n n1 n2
  rcases h.target a with ⟨n, hn, rfl, hs1⟩ | ⟨o, mis⟩
  · -- it is ready
    have hb3 := h.2.1.2.2.1
    have hnv : n ≠ v := fun z => by rw [z, hb3] at hs1; omega
    obtain ⟨abn, ac, am⟩ := h.bn (x := 0)
    obtain ⟨sc, arg, kn, nw, a0, j2, p, gk, gr, gb, gf, gp1, gp0⟩ := giv_of abn hn hs1 hal (am n hn.1 hn.2 hnv)
    obtain ⟨fs, gf1, gn⟩ := gf y
    have hB0 : HT < 2000000000 := by have := h.2.2.2.2.1.2.2; omega
    obtain ⟨cr, hcr⟩ := ac.head c14.1
    subst hcr
    have hVRn : st n = 1 → VR σ2 n p (fr n) := fun z => by
      have hp := gp1 z
      have h5 := gr.2.2.2.1 z
      have hfn : fr n ≠ [] := fun y0 => by
        rcases am n hn.1 hn.2 hnv with ⟨q1, -⟩ | ⟨-, mm', q2, -⟩
        · omega
        · exact q2.ne y0
      refine h5.ro (fun e1 => ?_) ro
      exact abn.2.2.2.1.2.2.2.2.1 n v hn.1 hn.2 c14.1 c14.2 hnv hfn (by rw [h.2.1.2.2.2.1]; exact List.cons_ne_nil _ _) (by rw [← hp]; exact e1)
    refine rn_step (C := fun κ' => ∃ κa, Vo v κ κa ∧ VK κa v ((bd, i + 1, j + 1, pl, nv, vs, L, O1, 1, mm) :: r) ∧ GvC (cI (cI κa (1002 + 8 * v) 1 3) (1002 + 8 * n) 5 (nI v)) κ' HT n sp (st n) (nI v) fs) (D := fun σ' => GvR (wI (wI (wI σ2 49 v 3) 56 v (nI mm)) 54 n (nI v)) σ' HT n p (st n) (nI v) fs) all hx
      (ref_ex c12 (by omega) ((adv _ (ac_resumes0 c14 hV60 h47' (h49' n hn.1 hn.2).1 hn hs1 (ac_goesTo ⟨hn.1, by omega⟩ (gr.tr (fun k k1 k2 k3 k4 k5 => by rw [aI_ne k2, aI_ne k3, aI_ne k1, es k k5]) (by rw [aI_ne (by decide), aI_ne (by decide), aI_ni hnv, es 49 (by decide)]) (fun z => (hVRn z).cg1 (fun k k1 k2 => by rw [aI_ne (by omega), aI_ne (by omega), aI_ne (by omega)]))) gb gf1 hB0 (fun σ' hg => hg)))).mono (fun r0 s0 hh => hh)))
      (cls _ (fun κa vo vk k hk => ?_)) ?_
    · have hke := hk.of hV60 hn
      subst hke
      refine kc_resumeY vk (sf.kvo vo) c14 hn hnv hs1 (kc_give (gk.tr (v := v) hnv (fun g g1 g2 g3 g4 => by rw [kI_ne g4, kI_ne g2, (vo.h g2 (by omega)).1]) (fun g g0 g1 => ?_) ?_ (fun k k1 k2 => ?_) ⟨vo.1.2.2.2, vo.1.2.2.1⟩) gb gf1 hB0 (fun κ' hg => ⟨κa, vo, vk, hg⟩))
      · show kW κa g = kW κ g
        exact (vo.h g0 (by omega)).2.2
      · rw [kI_ne (by omega), kI_ne (by omega), (vo.h (h := 79) (by omega) (by omega)).1]
      · rw [kI_nk k1, kI_ne (by omega), (vo.h (h := 1002 + 8 * n) (by omega) (by omega)).1]
    · rintro κ' σ' ⟨κa, vo, vk, hgc⟩ hgr
      obtain ⟨sp', st', fr', pt', f', r', hR, hp, hb⟩ := h.turnTo hn hs1 vo ro vk v2 ⟨rfl, hmm⟩ fo (by show 1 ≤ s; omega) rfl (by rw [fwt_e, fwt_e]; omega) gn gp1 (fun z => ⟨gp0 z, (gr.2.2.2.2 z).1, (gr.2.2.2.2 z).2.1⟩) hgc hgr
      exact ⟨_, _, _, _, _, _, _, _, _, _, _, _, _, _, _, hR, hp, hb⟩
  · -- a misuse
    obtain ⟨σr, rr, hA⟩ := ac_resumes1 (X := X) (y := y) (u := nI mm) (F0 := F0) c14 hV60 h47' h49' (mis.cg (es 54 (by decide))) v2 ((congrFun (es 88 (by decide)) 0).trans f88) (by omega)
    refine rn_misuse (i' := i + 1) (j' := j + 1) (O' := O1) (o := o) h allx hx hs hi9 mis.len (fun Q hQ => cls (fun κ' => ∃ κa κb, Vo v κ κa ∧ VK κa v ((bd, i + 1, j + 1, pl, nv, vs, L, O1, 0, 0) :: r) ∧ FmC κa κb F0 (nI 10) 0 (nI v) pl 0 ∧ RoC (cI κb 79 14 (nI (F0 + 1))) κ' o) (fun κa vo vk k hk => kc_resumeN vk (sf.kvo vo) c14 (fl.vo vo (Ro.refl (p := 0))) (by omega) mis hk (fun κb κ' h1 h2 => ⟨κa, κb, vo, vk.gho, h1, h2⟩)) Q hQ) ⟨_, ⟨σ2, σr, ro, v2.gho (by omega), rr, rfl⟩, fun G hG => adv _ (hA G hG)⟩
theorem lc_resume (h : Rn κ0 σ0 κ σ b V al S LT HT sp F0 st fr pt ch w v (bd, i, j, pl, nv, vs, L, O ++ [a] ++ [y], s, md) r) (all : AllOK X d (e + 1) κ0 σ0 b (pot V S st fr)) (allx : AllX X d (e + 1) κ0 σ0 b (pot V S st fr)) (hx : x + pot V S st fr ≤ 199000000) (hd : 11 ≤ d) (he : 65 ≤ e) (hs : s = 1) (e69 : kI κ0 69 i = 26) (e13 : aI σ0 13 j = 17) (hj : j + 1 < 12000) (gd : Good2 κ0 σ0 (fun _ => False) (bd, i + 1, j + 1, L.map itm, O.length + 1, 1)) : RunOK X d (e + 1) κ0 σ0 κ σ b x (HT + 2 * pot V S st fr) := by
  obtain ⟨n1, n2, n3, n4, n5, n6, n7, n8, n9, vr⟩ := h.num
  obtain ⟨-, -, -, -, -, -, c12, c13, c14⟩ := h.cls
  obtain ⟨-, -, sf, -⟩ := h.sts
  refine lc_resumeG (a := a) (y := y) (O1 := O) (mm := 1) h all allx hx hs (Nat.le_refl _) ⟨n9.1, n9.2.1, Nat.le_refl _, n9.2.2.2.1, Or.inr (Or.inl ⟨rfl, rfl, ⟨i, rfl, by rw [e69]; decide, by rw [e69]; decide⟩, gd⟩)⟩ (fun C hC => h.ppc hx (by omega) (by decide) e69 (fun κ1 vo1 vk1 => ⟨10, by omega, pp_resume (j' := j + 1) (s' := 1) (md' := 1) vk1 (sf.kvo vo1) (fun κa vo vk k hk => hC κa (vo1.trans vo) vk k hk)⟩)) (on_resume (X := X) (i' := i + 1) (s' := 1) (md' := 1) (by omega) c12 vr hj (by rw [c13 13 (by omega) (by omega)]; exact e13) (by omega))
end RESUMES2
