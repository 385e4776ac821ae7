/-! YIELD -/
section YIELDS
variable {X : Cx} {d e ec : Nat} {κ0 κ κa κb κ' : Km} {σ0 σ σa σ1 σ' : Rm} {b V al S T sp z LT HT F0 v p n x q k how cl : Nat} {st st1 : Nat → Nat} {fr fr1 : Nat → List Frm} {pt : Nat → Nat} {fs r rr : List Frm} {ch cr : List Nat} {w wc : Nat → Nat} {f f' f1 f1' : Frm} {y u : Int32} {C : Km → Prop} {D : Rm → Prop}
variable {bd i j nv s md i' j' s' md' t h0 ph c : Nat} {pl pl' : Int32} {vs vs' : Nat → Int32} {L L0 : List Ite} {O O' : List Int32}
/-- v leaves a statement of its own under way, and hands the turn back -/
theorem Rn.leaves1 (h : Rn κ0 σ0 κ σ b V al S LT HT sp F0 st fr pt (v :: cr) w v (bd, i, j, pl, nv, vs, L, O', s, md) r) (hs : s = 1) (ko : Vo v κ κa) (ro : Ro (pt v) σ σa) (vk : VK κa v ((bd, i + 1, j', pl, nv, vs, L, O, 1, 1) :: r)) (vr : VR σa v (pt v) ((bd, i + 1, j', pl, nv, vs, L, O, 1, 1) :: r)) (hcl : kI κ (1002 + 8 * v) 11 = 0) (h69 : kI κ0 69 i ≠ 29 ∧ kI κ0 69 i ≠ 30) (g : Good2 κ0 σ0 (fun _ => False) (bd, i + 1, j', L.map itm, O.length + 1, 1)) :
    (Bk κ0 σ0 (cI κa (1002 + 8 * v) 1 1) (wI σa 49 v 1) b V al S LT HT sp F0 (un st v 1) (un fr v ((bd, i + 1, j', pl, nv, vs, L, O, 1, 1) :: r)) pt cr w v 0 ∧ pot V S (un st v 1) (un fr v ((bd, i + 1, j', pl, nv, vs, L, O, 1, 1) :: r)) + 1 ≤ pot V S st fr) := by
  obtain ⟨n1, n2, n3, n4, n5, n6, n7, n8, n9, -⟩ := h.num
  obtain ⟨a, c, m⟩ := h.bn (x := 0)
  obtain ⟨-, ⟨b1, b2, b3, b4, b5⟩, ⟨c1, c2, c3⟩, ⟨d1, d2, d3⟩, acc, col⟩ := h
  have hne : fr v ≠ [] := by rw [b4]; exact List.cons_ne_nil _ _
  have fo : FrO κ0 σ0 F0 b (bd, i + 1, j', pl, nv, vs, L, O, 1, 1) := ⟨n9.1, n9.2.1, by show 1 ≤ 1; omega, n9.2.2.2.1, Or.inr (Or.inl ⟨rfl, rfl, ⟨i, rfl, h69.1, h69.2⟩, g⟩)⟩
  have e0 := acc.loc (fs := (bd, i + 1, j', pl, nv, vs, L, O, 1, 1) :: r) ⟨b1, b2⟩ (by rw [b4, arm_cons, arm_cons]; show 1 + arm r ≤ s + arm r; omega) (by rw [b4, fws_cons, fws_cons, fwt_e, fwt_e, hs]; omega)
  obtain ⟨hac, hp⟩ := e0
  rw [b4, fws_cons, fws_cons, fwt_e, fwt_e, hs] at hp
  have ct := cnt_st (V := V) (S := S) (n := v) (s := 1) (st := st) (fr := un fr v ((bd, i + 1, j', pl, nv, vs, L, O, 1, 1) :: r)) ⟨b1, b2⟩ (by omega) (by omega)
  have hB := (a.loc (x' := 0) (fs := (bd, i + 1, j', pl, nv, vs, L, O, 1, 1) :: r) ⟨b1, b2⟩ (Or.inl rfl) ko ro vk (Or.inl vr) c3 hne (List.cons_ne_nil _ _)).sst (n := v) (s := 1) (by omega) (by rw [b3]; exact ⟨fun _ => by omega, fun _ => by omega⟩)
  have e57 : aI σ 57 v ≠ 1 := by
    obtain ⟨cl, cl1, cl2, cl3⟩ := (a.2.2.1 v b1 b2).2.2.2.2.2.2.2.2
    rw [cl2] at hcl
    have : cl = 0 := (nI_eq (a := cl) (b := 0) (by omega) (by omega)).mp hcl
    rw [cl3, this]
    decide
  have es : ∀ k, k ≠ 49 → (k < 60 ∨ 74 < k) → aI (wI σa 49 v 1) k = aI σ k := fun k k1 k2 => by rw [aI_ne k1, ro.s k2]
  obtain ⟨r1, r2, r3, r4⟩ := c.res
  obtain ⟨ac1, ac2, ac3⟩ := hac
  have ac0 := acc.2.2
  refine ⟨⟨hB, ⟨b1, b2, by rw [kI_ne (by omega), (ko.h (h := 79) (by omega) (by omega)).1]; exact b5, by rw [kI_nk (by decide), ko.2.2 11 (by decide) (by decide) (by decide) (by decide) (by decide)]; exact hcl, by omega⟩, ⟨by rw [es 54 (by decide) (by decide)]; exact r1, r3, fun z => ?_⟩, ?_, fun n h1 h2 => ?_, ⟨by rw [ct.1]; exact ac1, by rw [ct.2]; exact ac2, by rw [ct.2]; omega⟩, ?_⟩, by rw [ct.2]; omega⟩
  · obtain ⟨q1, q2, q3⟩ := r4 z
    exact ⟨q3, q2, by rw [un_ne q2]; exact q1⟩
  · exact c.back (s := 1) (Or.inl rfl) (fun _ => e57) (fun x _ => congrFun (es 54 (by decide) (by decide)) x) (congrFun (es 54 (by decide) (by decide)) v) (es 56 (by decide) (by decide)) (es 57 (by decide) (by decide))
  · by_cases cv : n = v
    · rw [cv, un_eq, un_eq]
      exact Or.inr ⟨by omega, 1, ⟨rfl, fo, d3⟩, fun _ => rfl, fun z => by omega, fun z => by omega⟩
    · rw [un_ne cv, un_ne cv]
      exact (m n h1 h2 cv).cg (congrFun (es 56 (by decide) (by decide)) n) (Nat.le_refl _)
  · refine col.loc ((kI_ne (by omega)).trans (ko.h (h := 84) (by omega) (by omega)).1) (fun h h1 h2 => ⟨(kI_ne (by omega)).trans (ko.h (h := h) (by omega) (by omega)).1, (ko.h (h := h) (by omega) (by omega)).2.2⟩) (fun k k1 k2 => es k (by omega) (by omega)) (fun g => by rw [b4]; rfl) (fun f0 it hf hi i1 i2 => ?_) ⟨b1, b2⟩
    rw [b4]
    rcases List.mem_cons.mp hf with e | hf
    · rw [e] at hi
      exact ⟨_, List.mem_cons_self .., hi⟩
    · exact ⟨f0, List.mem_cons_of_mem _ hf, hi⟩
/-- the reference: yields -/
theorem on_yield {P : Rm → Prop} {gg : Nat → Int32} {rs : Nat} (hd : 4 ≤ d) (h77 : sI σ 77 = nI v) (hk : VR σ v p ((bd, i, j, pl, nv, vs, L, O ++ [y], s, md) :: r)) (hj : j + 1 < 12000) (h13 : aI σ 13 j = 15) (hi : i' < 20000) (h57 : aI σ 57 v = 0) (h54 : aI σ 54 v = nI rs) (pr : PRr σ 83 84 85 HT gg) (hT : HT < 2000000000) (q : ∀ σa σ2, Ro p σ σa → VR σa v p ((bd, i', j + 1, pl, nv, vs, L, O, s', md') :: r) → HdR (wI σa 49 v 1) σ2 HT (nI v) (nI rs) → AC X 92 1 MX13_comes [vR 92, vI (nI rs), vI y, vI 0, vI 0] σ2 (aRV P)) : A X 92 d MX13_goesOn 0 [(0, vR 92)] [] σ (aRV P) := by
  have hh := hk
  obtain ⟨⟨h1, h2, h3, h4⟩, h5, h6, h7, h8⟩ := hh
  have h4 : r.length + 1 ≤ 60 := h4
  obtain ⟨va, ra⟩ := hk.act (i' := i') (j' := j + 1) (s' := s) (md' := md) hi hj
  refine on_act (op := 15) (by omega) h77 hk.vx (by omega) h13 (by omega) ?_
  refine a_goesOn_124 _ _ _ _ _ _ ⟨fun z => absurd z (by decide), fun z => absurd z (by decide), fun z => absurd z (by decide), fun z => absurd z (by decide), fun z => absurd z (by decide), fun z => absurd z (by decide), fun z => absurd z (by decide), fun z => absurd z (by decide), fun _ => ⟨0, by omega, ?_⟩, fun z => absurd z (by decide), fun z => absurd z (by decide), fun z => absurd z (by decide), fun z => absurd z (by decide), fun z => absurd z (by decide), fun z => absurd (by decide) z⟩
  refine ac_pop (s' := s') (md' := md') va hi (fun σ3 r3 v3 => ⟨3, by omega, AC_of_A rfl (Nat.le_of_ble_eq_true rfl) rfl (a_yields_0 _ _ ?_)⟩)
  have rr := ra.trans r3
  rw [vpn (by omega), cl_nI (by omega), rr.s (by decide), h57]
  refine ⟨by omega, fun _ => ⟨by omega, ?_⟩, fun z => absurd rfl z⟩
  rintro s4 rfl
  have es : ∀ k, k ≠ 49 → (k < 60 ∨ 74 < k) → aI (wI σ3 49 v 1) k = aI σ k := fun k k1 k2 => by rw [aI_ne k1, rr.s k2]
  rw [es 54 (by decide) (by decide), h54]
  refine ⟨by omega, 0, by omega, ac_hand (pr.fr (es 83 (by decide) (by decide)) (es 84 (by decide) (by decide)) (es 85 (by decide) (by decide))) hT (fun σ2 hR => ?_)⟩
  rw [(hR.1 54 (by decide)).1, es 54 (by decide) (by decide), h54]
  refine ⟨by omega, 1, by omega, (q σ3 σ2 rr v3 hR).mono ?_⟩
  rintro r0 s0 ⟨rfl, h⟩
  exact ⟨rfl, rfl, a_goesOn_499 _ _ _ _ _ _ ⟨rfl, h⟩⟩
theorem lc_yield (h : Rn κ0 σ0 κ σ b V al S LT HT sp F0 st fr pt ch w v (bd, i, j, pl, nv, vs, L, O ++ [y], s, md) r) (all : AllOK X d (e + 1) κ0 σ0 b (pot V S st fr)) (allx : AllX X d (e + 1) κ0 σ0 b (pot V S st fr)) (hx : x + pot V S st fr ≤ 199000000) (hd : 9 ≤ d) (he : 66 ≤ e) (hs : s = 1) (e69 : kI κ0 69 i = 25) (e13 : aI σ0 13 j = 15) (g : Good2 κ0 σ0 (fun _ => False) (bd, i + 1, j + 1, L.map itm, O.length + 1, 1)) : RunOK X d (e + 1) κ0 σ0 κ σ b x (HT + 2 * pot V S st fr) := by
  obtain ⟨n1, n2, n3, n4, n5, n6, n7, n8, n9, vr⟩ := h.num
  obtain ⟨⟨q1, q2, q3⟩, -, -, -, -, -, c12, c13, c14⟩ := h.cls
  obtain ⟨f88, fF, fl, sta⟩ := h.f88
  obtain ⟨-, l2, -, l4, -, l6, -⟩ := g.loc
  have l4 : j + 1 + 1 < 12000 := l4
  obtain ⟨a, c, m⟩ := h.bn (x := 0)
  obtain ⟨v1, v2, v3, v4, v5, v6, v7, v8, ⟨cl, cl1, cl2, cl3⟩⟩ := a.2.2.1 v c14.1 c14.2
  obtain ⟨cr, hcr⟩ := c.head c14.1
  subst hcr
  have hres := c.res
  obtain ⟨gg, p1, p2⟩ := a.hp
  have hB0 : HT < 2000000000 := by have := h.2.2.2.2.1.2.2; omega
  have hvH : ∀ κ1, kV κ1 = kV κ → isH κ1 (1002 + 8 * v) 10 := fun κ1 hk => isH_voice c14.1 (by omega)
  by_cases c0 : cl = 0
  · -- it isn't being closed
    subst c0
    refine rn_back (how := 0) (cl := 0) (ec := 1) (y := y) (Cg := fun κg => ∃ κa, Vo v κ κa ∧ VK κa v ((bd, i + 1, j + 1, pl, nv, vs, L, O, 1, 1) :: r) ∧ κg = cI κa (1002 + 8 * v) 1 1) (Dg := fun σg => ∃ σa, Ro (pt v) σ σa ∧ VR σa v (pt v) ((bd, i + 1, j + 1, pl, nv, vs, L, O, 1, 1) :: r) ∧ σg = wI σa 49 v 1) h all (kk := 1) (by omega) hx (by omega) (Nat.le_refl _) (by omega) (by omega) (fun Q hQ => ?_) (fun P hP => ?_) ?_ ?_
    · refine h.ppc (a := 25) (C := fun κ' => K X d MX6_run 2 [(0, vR 79), (1, vI (nI (x + 1)))] [] κ' Q) hx (by omega) (by decide) e69 (fun κ1 vo1 vk1 => ⟨8, by omega, ?_⟩) Q (fun _ hq => hq)
      refine KC_of_K rfl (Nat.le_of_ble_eq_true rfl) rfl (k_6_playPart_0 _ _ _ ⟨fun z => absurd z (by decide), fun z => absurd z (by decide), fun z => absurd z (by decide), fun z => absurd z (by decide), fun z => absurd z (by decide), fun _ => ⟨vk1.v, 0, by omega, ?_⟩, fun z => absurd z (by decide), fun z => absurd z (by decide), fun z => absurd z (by decide), fun z => absurd z (by decide), fun z => absurd (by decide) z⟩)
      refine vk_pop (b' := bd) (j' := j + 1) (s' := 1) (md' := 1) vk1 (fun κ2 vo2 vk2 => ⟨7, by omega, ?_⟩)
      refine KC_of_K rfl (Nat.le_of_ble_eq_true rfl) rfl (k_6_yieldBy_0 _ _ ⟨vk2.v, fun _ => ?_, fun z => ?_⟩)
      · rintro κ3 rfl
        refine ⟨5, by omega, (hQ _ ⟨κ2, vo1.trans vo2, vk2, rfl⟩).mono ?_⟩
        rintro r0 κ4 ⟨rfl, hk4⟩
        exact ⟨rfl, k_6_yieldBy_29 _ _ ⟨rfl, k_6_playPart_213 _ _ _ ⟨rfl, hk4⟩⟩⟩
      · rw [vo2.2.2 11 (by decide) (by decide) (by decide) (by decide) (by decide), vo1.2.2 11 (by decide) (by decide) (by decide) (by decide) (by decide), cl2] at z
        exact absurd rfl z
    · exact ref_ex c12 (by omega) ((on_yield (P := P) (i' := i + 1) (s' := 1) (md' := 1) (by omega) c12 vr (by omega) (by rw [c13 13 (by omega) (by omega)]; exact e13) (by omega) cl3 hres.1 p2 hB0 (fun σa σ2 ro va hR => hP _ σ2 ⟨σa, ro, va, rfl⟩ hR)).mono (fun r0 s0 h => h))
    · rintro σg ⟨σa, ro, va, rfl⟩
      refine ⟨fun n hn h1 h2 hv => ?_, (aI_ne (by decide)).trans (ro.s (by decide)), fun k h1 h2 => by rw [aI_ne (by omega), ro.s (by omega), c13 k h1 h2]⟩
      have hp : fr n ≠ [] → pt n ≠ pt v := fun hf => a.2.2.2.1.2.2.2.2.1 n v h1 h2 c14.1 c14.2 hn hf (by rw [h.2.1.2.2.2.1]; exact List.cons_ne_nil _ _)
      by_cases hf : fr n = []
      · exfalso
        rw [hf] at hv
        have hcln := a.2.2.2.2.2.2 n h1 h2
        rcases hcln with ⟨-, -, z, -⟩ | ⟨z, -⟩
        · have := hv.2.1
          rw [z] at this
          exact absurd this.symm (neg9 (by have := hv.1.1; omega))
        · exact absurd hf z
      · exact (hv.ro (hp hf) ro).cg1 (fun k h1 h2 => aI_ne (by omega))
    · rintro κg σg ⟨κa, ko, vk, rfl⟩ ⟨σa, ro, va, rfl⟩
      obtain ⟨hb, hp⟩ := h.leaves1 hs ko ro vk va cl2 ⟨by rw [e69]; decide, by rw [e69]; decide⟩ g
      exact ⟨al, sp, _, _, w, hb, fun n hn => un_ne hn, hp⟩
  · -- it is being closed: MISUSE of its own
    have c1 : cl = 1 := by omega
    subst c1
    obtain ⟨σ2, ⟨ro, v2⟩, adv⟩ : ∃ σ2, (Ro (pt v) σ σ2 ∧ VR σ2 v (pt v) ((bd, i + 1, j + 1, pl, nv, vs, L, O, 0, 0) :: r)) ∧ ∀ G, RaG X 60 v F0 (pt v) (flS σ2 F0 (nI 10) 0 (nI v) pl (-9)) G → A X 92 e MX13_goesOn 0 [(0, vR 92)] [] σ (aRV G) := by
      obtain ⟨va, ra⟩ := vr.act (i' := i + 1) (j' := j + 1) (s' := s) (md' := md) (by omega) (by omega)
      obtain ⟨σ2, ⟨r2, v2⟩, p2⟩ := ac_popX (X := X) (i' := i + 1) (s' := 0) (md' := 0) va (by omega)
      have rr := ra.trans r2
      refine ⟨σ2, ⟨rr, v2⟩, fun G hG => ?_⟩
      refine on_act (op := 15) (by omega) c12 vr.vx (by omega) (by rw [c13 13 (by omega) (by omega)]; exact e13) (by omega) ?_
      refine a_goesOn_124 _ _ _ _ _ _ ⟨fun z => absurd z (by decide), fun z => absurd z (by decide), fun z => absurd z (by decide), fun z => absurd z (by decide), fun z => absurd z (by decide), fun z => absurd z (by decide), fun z => absurd z (by decide), fun z => absurd z (by decide), fun _ => ⟨0, by omega, p2 _ ⟨64, by omega, AC_of_A rfl (Nat.le_of_ble_eq_true rfl) rfl (a_yields_0 _ _ ?_)⟩⟩, fun z => absurd z (by decide), fun z => absurd z (by decide), fun z => absurd z (by decide), fun z => absurd z (by decide), fun z => absurd z (by decide), fun z => absurd (by decide) z⟩
      rw [vpn (by omega), cl_nI (by omega), rr.s (by decide), cl3]
      refine ⟨by omega, fun z => absurd z (by decide), fun _ => ⟨62, by omega, ?_⟩⟩
      refine (ac_arises v2.vx (k := 10) (F0 := F0) (by rw [show sI σ2 88 = sI σ 88 from congrFun (rr.s (by decide)) 0]; exact f88) (by omega) (by omega) hG).mono ?_
      rintro r0 s0 ⟨rfl, hg⟩
      exact ⟨rfl, rfl, a_goesOn_499 _ _ _ _ _ _ ⟨rfl, hg⟩⟩
    refine rn_fail (C := fun κ' => ∃ κa κb, Vo v κ κa ∧ VK κa v ((bd, i + 1, j + 1, pl, nv, vs, L, O, 0, 0) :: r) ∧ FmC κa κb F0 (nI 10) 0 (nI v) pl 0 ∧ κ' = cI κb 79 14 (nI (F0 + 1))) (D := fun σ' => σ' = flS σ2 F0 (nI 10) 0 (nI v) pl (-9)) allx hx c12 (by omega) ⟨_, rfl, fun G hG => adv G hG⟩
      (h.ppc hx (by omega) (by decide) e69 (fun κ1 vo1 vk1 => ⟨8, by omega, ?_⟩)) ?_
    · refine KC_of_K rfl (Nat.le_of_ble_eq_true rfl) rfl (k_6_playPart_0 _ _ _ ⟨fun z => absurd z (by decide), fun z => absurd z (by decide), fun z => absurd z (by decide), fun z => absurd z (by decide), fun z => absurd z (by decide), fun _ => ⟨vk1.v, 0, by omega, ?_⟩, fun z => absurd z (by decide), fun z => absurd z (by decide), fun z => absurd z (by decide), fun z => absurd z (by decide), fun z => absurd (by decide) z⟩)
      refine vk_pop (b' := bd) (j' := j + 1) (s' := 0) (md' := 0) vk1 (fun κ2 vo2 vk2 => ⟨7, by omega, ?_⟩)
      have vo := vo1.trans vo2
      refine KC_of_K rfl (Nat.le_of_ble_eq_true rfl) rfl (k_6_yieldBy_0 _ _ ⟨vk2.v, fun z => ?_, fun _ => ⟨4, by omega, ?_⟩⟩)
      · rw [vo.2.2 11 (by decide) (by decide) (by decide) (by decide) (by decide), cl2] at z
        exact absurd z (by decide)
      · exact kc_raise vk2 (by rw [vo.2.2 0 (by decide) (by decide) (by decide) (by decide) (by decide)]; exact v1) (fl.vo vo (Ro.refl (p := 0))) (by omega) (fun κb fc => k_6_yieldBy_29 _ _ ⟨rfl, k_6_playPart_213 _ _ _ ⟨rfl, κ2, κb, vo, vk2, fc, rfl⟩⟩)
    · rintro κ' σ' ⟨κa, κb, vo, vka, fc, rfl⟩ rfl
      obtain ⟨hR, hp⟩ := h.fail (k := 10) (f' := (bd, i + 1, j + 1, pl, nv, vs, L, O, 0, 0)) (ca := -9) (val := 0) (vo := nI v) (pl := pl) hs vo ro vka v2 ((n9.frx sta).to (by omega) (by omega)) rfl rfl (by omega) (Or.inl rfl) fc
      exact ⟨_, _, _, _, _, _, _, _, _, _, _, _, _, _, hR, rfl, hp, by omega⟩
end YIELDS
