/-! END_FINALLY: the failure that it keeps is raised anew -/
section ENDR
variable {X : Cx} {d e er : Nat} {κ0 κ κa κb κ' : Km} {σ0 σ σa σ1 σ' : Rm} {b V al S T sp z LT HT F0 v p n x q g k : Nat} {st : Nat → Nat} {fr fr' : Nat → List Frm} {pt : Nat → Nat} {fs r : List Frm} {ch cr : List Nat} {w : Nat → Nat} {f f' : Frm} {y u val vo ca : Int32} {C : Km → Prop} {D : Rm → Prop} {G : Rm → Prop}
variable {bd i j nv s md i' j' s' md' t h0 ph c jb : Nat} {pl pl' : Int32} {vs vs' : Nat → Int32} {L L0 : List Ite} {O O' : List Int32}
theorem Rn.reraise (h : Rn κ0 σ0 κ σ b V al S LT HT sp F0 st fr pt ch w v (bd, i, j, pl, nv, vs, L0 ++ [(1, t, h0, 3, nI (g + 1))], [], s, md) r) (hg : g < F0) (ko : Vo v κ κa) (ro : Ro (pt v) σ σ') (vk : VK κa v ((bd, i', j', pl, nv, vs, L0, [], 0, 0) :: r)) (vr : VR σ' v (pt v) ((bd, i', j', pl, nv, vs, L0, [], 0, 0) :: r)) (hi : i < i') (hi' : i' ≤ 9500) (fx : FrX κ0 σ0 F0 b (bd, i', j', pl, nv, vs, L0, [], 0, 0)) :
    Rx κ0 σ0 (cI κa 79 14 (nI (g + 1))) σ' b V al S LT HT sp F0 st (un fr v ((bd, i', j', pl, nv, vs, L0, [], 0, 0) :: r)) pt ch w v (bd, i', j', pl, nv, vs, L0, [], 0, 0) r g ∧ pot V S st (un fr v ((bd, i', j', pl, nv, vs, L0, [], 0, 0) :: r)) < pot V S st fr := by
  obtain ⟨a, c, m⟩ := h.bn (x := 0)
  obtain ⟨-, ⟨b1, b2, b3, b4, b5⟩, ⟨c1, c2, c3⟩, ⟨d1, d2, d3⟩, acc, col⟩ := h
  have hne : fr v ≠ [] := by rw [b4]; exact List.cons_ne_nil _ _
  have hF9 := a.2.2.2.2.2.1.1.2.2
  have hkp : kps g ((bd, i, j, pl, nv, vs, L0 ++ [(1, t, h0, 3, nI (g + 1))], [], s, md) :: r) = kps g ((bd, i', j', pl, nv, vs, L0, [], 0, 0) :: r) + 1 := by
    rw [kps_cons, kps_cons]
    show kpl g (L0 ++ [(1, t, h0, 3, nI (g + 1))]) + kps g r = kpl g L0 + kps g r + 1
    rw [kpl_last]
    have e : kp1 g (1, t, h0, 3, nI (g + 1)) = 1 := if_pos ⟨by show (1 : Nat) ≠ 0; decide, rfl, rfl⟩
    have e2 : kpl g ([] : List Ite) = 0 := rfl
    omega
  have hkq : ∀ y, kps y ((bd, i', j', pl, nv, vs, L0, [], 0, 0) :: r) ≤ kps y ((bd, i, j, pl, nv, vs, L0 ++ [(1, t, h0, 3, nI (g + 1))], [], s, md) :: r) := fun y => by
    rw [kps_cons, kps_cons]
    show kpl y L0 + kps y r ≤ kpl y (L0 ++ [(1, t, h0, 3, nI (g + 1))]) + kps y r
    rw [kpl_last]
    omega
  have ew : fws ((bd, i', j', pl, nv, vs, L0, [], 0, 0) :: r) < fws (fr v) := by
    rw [b4, fws_cons, fws_cons, fwt_e, fwt_e, gws_last]
    omega
  have hac := acc.loc (fs := (bd, i', j', pl, nv, vs, L0, [], 0, 0) :: r) ⟨b1, b2⟩ (by rw [b4, arm_cons, arm_cons]; show 0 + arm r ≤ s + arm r; omega) (Nat.le_of_lt ew)
  have aB := a.loc (x' := v) ⟨b1, b2⟩ (Or.inl rfl) ko ro vk (Or.inl vr) c3 hne (List.cons_ne_nil _ _)
  have aD : Bn κ0 σ0 (cI κa 79 14 (nI (g + 1))) σ' b V al S v sp 0 LT HT F0 st _ pt v := aB.kx (g := 79) (k := 14) (y := nI (g + 1)) (Or.inl ⟨rfl, Or.inl rfl⟩)
  refine ⟨⟨aD, c.cg (ro.s (by decide)) (ro.s (by decide)) (ro.s (by decide)), fun n n1 n2 hn => ?_, ⟨b1, b2, b3, un_eq, kI_eq, hg⟩, ⟨fx, d3⟩, hac.1, ?_⟩, ?_⟩
  · rw [un_ne hn]
    exact (m n n1 n2 hn).cg (congrFun (ro.s (by decide)) n) (Nat.le_refl _)
  · refine col.sub ?_ (fun h h1 h2 => ⟨?_, ?_⟩) (fun k k1 k2 => ro.s (by omega)) (fun y hy => ?_) (fun n f0 it n1 n2 hf hi i1 i2 => ?_)
    · funext k
      rw [kI_ne (by omega)]
      exact congrFun (ko.h (h := 84) (by omega) (by omega)).1 k
    · funext k
      rw [kI_ne (by omega)]
      exact congrFun (ko.h (h := h) (by omega) (by omega)).1 k
    · exact (ko.h (h := h) (by omega) (by omega)).2.2
    · have e := kps_un (g := y) (fr := fr) (fs := (bd, i', j', pl, nv, vs, L0, [], 0, 0) :: r) (V := V) (v := v) ⟨b1, b2⟩
      rw [b4] at e
      by_cases cy : y = g
      · subst cy
        rw [if_pos rfl]
        omega
      · rw [if_neg cy]
        have := hkq y
        omega
    · by_cases cw : n = v
      · rw [cw, un_eq] at hf
        rcases List.mem_cons.mp hf with e | hf
        · rw [e] at hi; exact ⟨v, _, b1, b2, by rw [b4]; exact List.mem_cons_self .., List.mem_append_left _ hi⟩
        · exact ⟨v, f0, b1, b2, by rw [b4]; exact List.mem_cons_of_mem _ hf, hi⟩
      · rw [un_ne cw] at hf
        exact ⟨n, f0, n1, n2, hf, hi⟩
  · have hp := hac.2
    omega
/-- the reference: END_FINALLY raises what it keeps -/
theorem on_end3 (hd : 62 ≤ d) (h77 : sI σ 77 = nI v) (hk : VR σ v p ((bd, i, j, pl, nv, vs, L0 ++ [(1, t, h0, 3, nI (g + 1))], [], s, md) :: r)) (hg : g < 8000) (hj : j + 1 < 12000) (h13 : aI σ 13 j = 30) (h14 : aI σ 14 j = nI t) (ht : t < 1000) (h28 : aI σ 28 t = nI jb) (hjb : jb < 12000) (hi : i' < 20000) :
    ∃ σ2, (Ro p σ σ2 ∧ VR σ2 v p ((bd, i', jb, pl, nv, vs, L0, [], 0, 0) :: r)) ∧ ∀ G, RaG X 60 v g p σ2 G → A X 92 (d + 1) MX13_goesOn 0 [(0, vR 92)] [] σ (aRV G) := by
  have hh := hk
  obtain ⟨⟨h1, h2, h3, h4⟩, h5, h6, h7, h8⟩ := hh
  have h4 : r.length + 1 ≤ 60 := h4
  obtain ⟨va, ra⟩ := hk.act (i' := i') (j' := j + 1) (s' := s) (md' := md) hi hj
  have hbd : gcs r + gcn (L0 ++ [(1, t, h0, 3, nI (g + 1))]) ≤ 1440 := va.bd.1
  rw [gcn_app] at hbd
  have e58 := va.2.1
  obtain ⟨g1, -, g3, g4, -, g6, g7, g8⟩ := va.vx.gd noG_nil
  obtain ⟨vd, rd⟩ := va.drop (i' := i') (s' := s) (md' := md) hi
  have e28 : aI (wI (wI σ 62 (60 * p + r.length) (nI (j + 1))) 68 p (nI (gcs r + gcn L0))) 28 t = nI jb := by rw [aI_ne (by decide), aI_ne (by decide)]; exact h28
  obtain ⟨v4, r4⟩ := vd.act (i' := i') (j' := jb) (s' := 0) (md' := 0) hi hjb
  refine ⟨_, ⟨(ra.trans rd).trans r4, v4⟩, fun G hG => ?_⟩
  refine on_ctl (op := 30) (dc := d) (by omega) h77 hk.vx (by omega) h13 (Nat.le_refl _) (AC_of_A rfl (Nat.le_of_ble_eq_true rfl) rfl (a_controls_0 _ _ _ _ _ ?_))
  rw [vpn (a := v) (by omega)]
  refine ⟨by omega, fun z => absurd z (by decide), fun z => absurd z (by decide), fun z => absurd z (by decide), fun z => absurd z (by decide), fun z => absurd z (by decide), fun z => absurd z (by decide), fun z => absurd z (by decide), fun z => absurd z (by decide), fun z => absurd z (by decide), fun _ => ?_, fun z => absurd z (by decide), fun z => absurd (by decide) z⟩
  rw [cl_nI (show v < 2147483648 by omega), e58, vpn (by omega), cl_nI (by omega), g1, litI 1500, pk_mul, nI_add, litI 1, nI_sb (by omega), show 1500 * p + (gcs r + gcn L0 + 1) - 1 = 1500 * p + (gcs r + gcn L0) by omega, vpn (by omega), cl_nI (by omega), nI_sb (by omega), show gcs r + gcn L0 + 1 - 1 = gcs r + gcn L0 by omega, h14]
  refine ⟨h1, by omega, by omega, h1, h1, ?_⟩
  rintro s89 rfl
  rw [vpn (by omega), vpn (by omega), cl_nI (by omega), cl_nI (by omega)]
  refine ⟨ht, by omega, ?_⟩
  rintro s92 rfl
  rw [e28, (g7 rfl).1, (g7 rfl).2]
  refine ⟨fun _ => ⟨61, by omega, ?_⟩, fun z => absurd rfl z⟩
  rw [litI 1, nI_sb (by omega), show g + 1 - 1 = g by omega]
  refine (ac_raise (X := X) (e := 60) (v := v) (g := g) (p := p) (d := 61) (G := G) ⟨h2, h3⟩ v4.2.1 (by omega) hG).mono ?_
  rintro r0 s0 ⟨rfl, hG⟩
  exact ⟨rfl, a_controls_449 _ _ _ _ _ _ ⟨rfl, rfl, hG⟩⟩
theorem lc_end3 (h : Rn κ0 σ0 κ σ b V al S LT HT sp F0 st fr pt ch w v (bd, i, j, pl, nv, vs, L0 ++ [(1, t, h0, 3, u)], [], s, md) r) (allx : AllX X d (e + 2) κ0 σ0 b (pot V S st fr)) (hx : x + pot V S st fr ≤ 199000000) (hd : 7 ≤ d) (he : 62 ≤ e) (hj : j + 1 < 12000) (e69 : kI κ0 69 i = 45) (e13 : aI σ0 13 j = 30) (e14 : aI σ0 14 j = nI t) (ht : t < 1000) (e28 : aI σ0 28 t = nI jb) (gd : Good2 κ0 σ0 (fun _ => False) (bd, i + 1, jb, L0.map itm, 0, 0)) : RunOK X d (e + 2) κ0 σ0 κ σ b x (HT + 2 * pot V S st fr) := by
  obtain ⟨n1, n2, n3, n4, n5, n6, n7, n8, n9, vr⟩ := h.num
  obtain ⟨-, -, -, -, -, -, c12, c13, c14⟩ := h.cls
  obtain ⟨f88, fF, fl, sta⟩ := h.f88
  obtain ⟨-, l2, -, l4, l5, l6, -⟩ := gd.loc
  have l4 : jb + 1 < 12000 := l4
  obtain ⟨g, hg, rfl⟩ : ∃ g, g < F0 ∧ u = nI (g + 1) := by
    rcases n9.2.2.2.1 _ (List.mem_append_right _ (List.mem_cons_self ..)) with z | ⟨z1, z2, z3⟩
    · exact absurd z (show ¬ (1 : Nat) = 0 by decide)
    · exact z3 (Or.inr rfl)
  have fo : FrO κ0 σ0 F0 b (bd, i + 1, jb, pl, nv, vs, L0, [], 0, 0) := ⟨n9.1, n9.2.1, by show 0 ≤ 1; omega, fun x hx => n9.2.2.2.1 x (List.mem_append.mpr (Or.inl hx)), Or.inl ⟨rfl, gd⟩⟩
  have fx := fo.frx sta
  obtain ⟨σ2, ⟨ro, v2⟩, adv⟩ := on_end3 (X := X) (d := e) (i' := i + 1) (by omega) c12 vr (by omega) hj (by rw [c13 13 (by omega) (by omega)]; exact e13) (by rw [c13 14 (by omega) (by omega)]; exact e14) ht (by rw [c13 28 (by omega) (by omega)]; exact e28) (by omega) (by omega)
  refine rn_fail (g' := g) (C := fun κ' => ∃ κa, Vo v κ κa ∧ VK κa v ((bd, i + 1, jb, pl, nv, vs, L0, [], 0, 0) :: r) ∧ κ' = cI κa 79 14 (nI (g + 1))) (D := fun σ' => σ' = σ2) allx hx c12 (by omega) ⟨_, rfl, fun G hG => adv G hG⟩
    (h.pgc (C := fun κ' => ∃ κa, Vo v κ κa ∧ VK κa v ((bd, i + 1, jb, pl, nv, vs, L0, [], 0, 0) :: r) ∧ κ' = cI κa 79 14 (nI (g + 1))) hx (by omega) (by decide) e69 (fun κ1 vo1 vk1 => ⟨5, by omega, ?_⟩)) ?_
  · refine KC_of_K rfl (Nat.le_of_ble_eq_true rfl) rfl (k_6_passGuards_0 _ _ _ ⟨fun z => absurd z (by decide), fun z => absurd z (by decide), fun z => absurd z (by decide), fun _ => ⟨vk1.v, 4, by omega, ?_⟩, fun z => absurd z (by decide), fun z => absurd (by decide) z⟩)
    exact kc_endFinally (j' := jb) (s' := 0) (md' := 0) vk1 (by omega) (by omega) (fun c => absurd c (by omega)) (fun _ κ' vo vk => k_6_passGuards_130 _ _ _ ⟨rfl, κ', vo1.trans vo, vk, rfl⟩) (fun c => absurd c (by omega))
  · rintro κ' σ' ⟨κa, vo, vka, rfl⟩ rfl
    obtain ⟨hR, hp⟩ := h.reraise hg vo ro vka v2 (by omega) fx.2.2.2.2.1.2 fx
    exact ⟨_, _, _, _, _, _, _, _, _, _, _, _, _, _, hR, rfl, hp, by omega⟩
end ENDR
