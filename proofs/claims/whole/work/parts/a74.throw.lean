/-! THROW -/
section THROWS
variable {X : Cx} {d e er : Nat} {κ0 κ κa κb κ' : Km} {σ0 σ σa σ1 σ' : Rm} {b V al S T sp z LT HT F0 v p n x q g k : Nat} {st : Nat → Nat} {fr fr' : Nat → List Frm} {pt : Nat → Nat} {fs r : List Frm} {ch cr : List Nat} {w : Nat → Nat} {f f' : Frm} {y u val vo ca : Int32} {C : Km → Prop} {D : Rm → Prop} {G : Rm → Prop}
variable {bd i j nv s md i' j' s' md' t h0 ph c : Nat} {pl pl' : Int32} {vs vs' : Nat → Int32} {L L0 : List Ite} {O O' : List Int32}
theorem vk_caughtG {F : Int32 → Km → Prop} (hk : VK κ n ((bd, i, j, pl, nv, vs, L, O, s, md) :: r)) (hz : tsz 0 ((bd, i, j, pl, nv, vs, L, O, s, md) :: r) ≤ 17000) (hl : L.length ≤ 24) (hph : ∀ y, y ∈ L → y.1 ≠ 0 → y.2.2.2.1 < 5) (q : F (cau 0 L) κ) : KC' X 1 MX10_caught [vR (1002 + 8 * n)] κ (kRI F) := by
  obtain ⟨c, o, h1, ⟨h2, y1, y5, y6, y7⟩, h3⟩ := id hk
  have ez : tsz o ((bd, i, j, pl, nv, vs, L, O, s, md) :: r) = tsz o r + (4 + nv + psz L + O.length) := rfl
  have t1 := tsz_o (o := o) ((bd, i, j, pl, nv, vs, L, O, s, md) :: r)
  have eb : kI κ (1002 + 8 * n) 14 = nI (tsz o r) := h3.2.1.2.1
  have loop : ∀ (m : Nat) (M : List Ite) (u : Nat), M.length ≤ m → u + M.length ≤ 24 → psz M ≤ psz L → ItsC c (tsz o r + 4 + nv) (tgd o r) M → (∀ y, y ∈ M → y.1 ≠ 0 → y.2.2.2.1 < 5) → F (cau 0 M) κ → K X 1 MX10_caught 7 [(0, vR (1002 + 8 * n)), (1, vI (gdo (tsz o r + 4 + nv) (tgd o r) M)), (2, vI (nI u))] [] κ (kRI F) := by
    intro m
    induction m with
    | zero =>
      intro M u hM hu hp hi h5 hF
      have e : M = [] := List.length_eq_zero_iff.mp (by omega)
      subst e
      refine k_10_caught_7 _ _ _ ?_
      rw [litI 24, le_nI (by omega) (by omega), eb]
      exact ⟨fun _ => k_10_caught_52 _ _ _ ⟨_, rfl, hF⟩, fun _ => ⟨hk.v, fun _ => k_10_caught_52 _ _ _ ⟨_, rfl, hF⟩, fun z => absurd (g9_le (by omega)) z⟩⟩
    | succ m ih =>
      intro M u hM hu hp hi h5 hF
      refine k_10_caught_7 _ _ _ ?_
      rw [litI 24, le_nI (by omega) (by omega), eb]
      rcases split_G M with hn | ⟨M0, y, E1, e1, hy, he⟩
      · have e0 : cau 0 M = 0 := cau_noG _ _ hn
        rw [e0] at hF
        rw [gdo_noG _ _ _ hn]
        exact ⟨fun _ => k_10_caught_52 _ _ _ ⟨_, rfl, hF⟩, fun _ => ⟨hk.v, fun _ => k_10_caught_52 _ _ _ ⟨_, rfl, hF⟩, fun z => absurd (g9_le (by omega)) z⟩⟩
      · subst e1
        have hlen : (M0 ++ y :: E1).length = M0.length + (E1.length + 1) := by rw [List.length_append]; rfl
        have hpz : psz (M0 ++ y :: E1) = psz M0 + (isz y + psz E1) := by rw [psz_app]; rfl
        have hiz : isz y = 4 := if_neg hy
        have hi2 := (ItsC_app _ _ _ _).mp hi
        have hc := hi2.2.1.2 hy
        rw [cau_last hy he] at hF
        rw [gdo_last hy he, le_nI (by omega) (by omega)]
        refine ⟨fun z => absurd z (by omega), fun _ => ⟨hk.v, fun z => absurd z (by omega), fun _ => ⟨0, by omega, ?_⟩⟩⟩
        rw [litI 2, nI_add]
        refine kc_vcell h3 (by omega) ?_
        rw [hc.2.2.1]
        by_cases z1 : y.2.2.2.1 = 1
        · rw [if_pos z1] at hF
          refine ⟨fun _ => ⟨0, by omega, ?_⟩, fun z => absurd (by rw [z1]; rfl) z⟩
          rw [litI 3, nI_add]
          refine kc_vcell h3 (by omega) ?_
          rw [hc.2.2.2]
          exact ⟨_, rfl, hF⟩
        · rw [if_neg z1] at hF
          refine ⟨fun z => ?_, fun _ => ⟨0, by omega, ?_⟩⟩
          · have hb := h5 y (List.mem_append_right _ (List.mem_cons_self ..)) hy
            exact absurd ((nI_eq (b := 1) (by omega) (by omega)).mp z) z1
          · refine kc_vcell h3 (by omega) ?_
            rw [hc.1, nI_1]
            exact ih M0 (u + 1) (by omega) (by omega) (by omega) hi2.1 (fun z hz => h5 z (List.mem_append_left _ hz)) hF
  refine KC_of_K rfl (Nat.le_of_ble_eq_true rfl) rfl (k_10_caught_0 _ ⟨hk.v, ?_⟩)
  rw [h3.2.1.2.2.1]
  exact loop L.length L 0 (Nat.le_refl _) (by omega) (Nat.le_refl _) y6 hph q
/-- the reference: an act of the second half -/
theorem on_ctl {Q : Res → Rm → Prop} {op dc : Nat} (ho : 21 ≤ op ∧ op < 40) (h77 : sI σ 77 = nI v) (hk : VRx σ v p ((bd, i, j, pl, nv, vs, L, O, s, md) :: r)) (hj : j < 12000) (h13 : aI σ 13 j = nI op) (hdc : dc + 1 ≤ d) (q : AC X 92 dc MX13_controls [vR 92, vI (nI v), vI (nI (60 * p + r.length)), vI (nI op), vI (aI σ 14 j), vI (aI σ 15 j)] (wI σ 62 (60 * p + r.length) (nI (j + 1))) (aRV fun s => Q (.inl none) s)) : A X 92 d MX13_goesOn 0 [(0, vR 92)] [] σ Q := by
  have ne : ∀ a, a < 21 → nI op ≠ nI a := fun a ha => nI_ne (by omega) (by omega) (by omega)
  refine on_act (op := op) (by omega) h77 hk hj h13 (by omega) ?_
  refine a_goesOn_124 _ _ _ _ _ _ ⟨fun z => absurd z (ne 0 (by decide)), fun z => absurd z (ne 1 (by decide)), fun z => absurd z (ne 2 (by decide)), fun z => absurd z (ne 3 (by decide)), fun z => absurd z (ne 11 (by decide)), fun z => absurd z (ne 12 (by decide)), fun z => absurd z (ne 13 (by decide)), fun z => absurd z (ne 14 (by decide)), fun z => absurd z (ne 15 (by decide)), fun z => absurd z (ne 16 (by decide)), fun z => absurd z (ne 17 (by decide)), fun z => absurd z (ne 18 (by decide)), fun z => absurd z (ne 19 (by decide)), fun z => absurd z (ne 20 (by decide)), fun _ => ⟨dc, hdc, q.mono ?_⟩⟩
  rintro r0 s0 ⟨rfl, h⟩
  exact ⟨rfl, a_goesOn_499 _ _ _ _ _ _ h⟩
theorem on_throw (hd : 63 ≤ d) (h77 : sI σ 77 = nI v) (hv : VR σ v p ((bd, i, j, pl, nv, vs, L, [] ++ [y], s, md) :: r)) (hj : j + 1 < 12000) (h13 : aI σ 13 j = 25) (h14 : aI σ 14 j = nI k) (h15 : aI σ 15 j = nI (ccI L) - 1) (hi : i' < 20000) (h88 : sI σ 88 = nI F0) (hF : F0 < 8000) (hca : (ccI L = 0 ∧ ca = -9) ∨ (1 ≤ ccI L ∧ ∀ σ' i' s' md', VR σ' v p ((bd, i', j + 1, pl, nv, vs, L, [], s', md') :: r) → aI σ' 67 (25 * (60 * p + r.length) + (ccI L - 1)) = ca)) :
    ∃ σ2, (Ro p σ σ2 ∧ VR σ2 v p ((bd, i', j + 1, pl, nv, vs, L, [], s', md') :: r)) ∧ ∀ G, RaG X 60 v F0 p (flS σ2 F0 (nI k) y (nI v) pl ca) G → A X 92 d MX13_goesOn 0 [(0, vR 92)] [] σ (aRV G) := by
  have hh := hv
  obtain ⟨⟨h1, h2, h3, h4⟩, h5, h6, h7, h8⟩ := hh
  have h4 : r.length + 1 ≤ 60 := h4
  obtain ⟨va, ra⟩ := hv.act (i' := i') (j' := j + 1) (s' := s) (md' := md) hi hj
  obtain ⟨σ2, ⟨r2, v2⟩, p2⟩ := ac_popX (X := X) (i' := i') (s' := s') (md' := md') va hi
  have rr := ra.trans r2
  have hl : L.length ≤ 24 := h8.1.2.1
  have hcc := ccI_le L
  refine ⟨σ2, ⟨rr, v2⟩, fun G hG => ?_⟩
  refine on_ctl (op := 25) (dc := 62) (by omega) h77 hv.vx (by omega) h13 (by omega) ?_
  rw [h14, h15]
  refine AC_of_A rfl (Nat.le_of_ble_eq_true rfl) rfl (a_controls_0 _ _ _ _ _ ?_)
  rw [vpn (a := v) (by omega), vpn (a := 60 * p + r.length) (by omega), cl_nI (show 60 * p + r.length < 2147483648 by omega)]
  have e63 : aI σ2 63 (60 * p + r.length) = pl := v2.2.2.2.2.2.1.2.2.1
  have fin : ∀ c0 x6, c0 = ca → A X 92 62 MX13_controls 169 [(0, vR 92), (1, vI (nI v)), (2, vI (nI (60 * p + r.length))), (3, vI (nI 25)), (4, vI (nI k)), (5, vI (nI (ccI L) - 1)), (6, vI x6)] [vI c0, vI pl, vI (nI v), vI y, vI (nI k), vR 92, vI (nI v), vR 92] σ2 (aRV fun s => aRV G (.inl none) s) := fun c0 x6 e0 => by
    subst e0
    refine a_controls_169 _ _ _ _ _ _ _ _ _ _ _ _ ⟨0, by omega, ac_failure (by rw [show sI σ2 88 = sI σ 88 from congrFun (rr.s (by decide)) 0]; exact h88) hF ⟨61, by omega, ?_⟩⟩
    refine (ac_raise (X := X) (e := 60) (v := v) (g := F0) (p := p) (d := 61) (G := G) ⟨h2, h3⟩ (by rw [flS_ne (by omega)]; exact v2.2.1) (by omega) hG).mono ?_
    rintro r0 s0 ⟨rfl, hG⟩
    exact ⟨rfl, a_controls_449 _ _ _ _ _ _ ⟨rfl, rfl, hG⟩⟩
  refine ⟨by omega, fun z => absurd z (by decide), fun z => absurd z (by decide), fun z => absurd z (by decide), fun z => absurd z (by decide), fun _ => ⟨0, by omega, p2 _ ⟨by omega, fun z => ?_, fun z => ?_⟩⟩, fun z => absurd z (by decide), fun z => absurd z (by decide), fun z => absurd z (by decide), fun z => absurd z (by decide), fun z => absurd z (by decide), fun z => absurd z (by decide), fun z => absurd (by decide) z⟩
  · rcases hca with ⟨c1, -⟩ | ⟨c1, c2⟩
    · rw [c1] at z
      exact absurd z (by decide)
    · have e1 : nI (ccI L) - 1 = nI (ccI L - 1) := by rw [litI 1, nI_sb (by omega)]
      rw [e63]
      have e2 : (25 : Int32) * nI (60 * p + r.length) + (nI (ccI L) - 1) = nI (25 * (60 * p + r.length) + (ccI L - 1)) := by rw [e1, litI 25, pk_mul, nI_add]
      rw [e2, vpn (by omega), cl_nI (show 25 * (60 * p + r.length) + (ccI L - 1) < 2147483648 by omega)]
      exact ⟨by omega, fin _ _ (c2 σ2 i' s' md' v2)⟩
  · rcases hca with ⟨c1, c2⟩ | ⟨c1, -⟩
    · rw [e63]
      exact fin _ _ c2.symm
    · exact absurd (by rw [litI 1, nI_sb (by omega)]; exact nI_pos' (by omega)) z
theorem pg_throw (hk : VK κ v ((bd, i, j, pl, nv, vs, L, [] ++ [y], s, md) :: r)) (h0 : kI κ (1002 + 8 * v) 0 = nI v) (hz : tsz 0 r + (4 + nv + psz L + 0) ≤ 16000) (hl : L.length ≤ 24) (hph : ∀ it, it ∈ L → it.1 ≠ 0 → it.2.2.2.1 < 5) (fl : FRl κ σ F0) (hF : F0 < 7900) (q : ∀ κa κb, Vo v κ κa → VK κa v ((bd, i, j', pl, nv, vs, L, [], s', md') :: r) → FmC κa κb F0 (nI k) y (nI v) pl (cau 0 L) → C (cI κb 79 14 (nI (F0 + 1)))) : KC' X 5 MX6_passGuards [vR 79, vR (1002 + 8 * v), vI (nI 47), vI (nI k)] κ (kRV C) := by
  refine KC_of_K rfl (Nat.le_of_ble_eq_true rfl) rfl (k_6_passGuards_0 _ _ _ ⟨fun z => absurd z (by decide), fun z => absurd z (by decide), fun z => absurd z (by decide), fun z => absurd z (by decide), fun z => absurd z (by decide), fun _ => ⟨hk.v, 0, by omega, ?_⟩⟩)
  refine vk_pop (b' := bd) (j' := j') (s' := s') (md' := md') hk (fun κa vo vk => ⟨0, by omega, vk_place vk ⟨1, by omega, vk_caughtG vk (by show tsz 0 r + (4 + nv + psz L + 0) ≤ 17000; omega) hl hph ⟨3, by omega, ?_⟩⟩⟩)
  rw [vo.2.2 0 (by decide) (by decide) (by decide) (by decide) (by decide), h0]
  have fl2 : FRl κa σ F0 := fl.vo vo (Ro.refl (p := 0))
  refine kc_fmake fl2.1.1 hF fl2.2.1 (fun κb fc => ?_)
  rintro κ28 rfl
  exact k_6_passGuards_130 _ _ _ ⟨rfl, q κa κb vo vk fc⟩
theorem lc_throw (h : Rn κ0 σ0 κ σ b V al S LT HT sp F0 st fr pt ch w v (bd, i, j, pl, nv, vs, L, [] ++ [y], s, md) r) (allx : AllX X d (e + 1) κ0 σ0 b (pot V S st fr)) (hx : x + pot V S st fr ≤ 199000000) (hd : 7 ≤ d) (he : 63 ≤ e) (hs : s = 1) (e69 : kI κ0 69 i = 47) (e13 : aI σ0 13 j = 25) (hk : k < 10) (e70 : kI κ0 70 i = nI k) (e14 : aI σ0 14 j = nI k) (e15 : aI σ0 15 j = nI (ccI L) - 1) (hj : j + 1 < 12000) : RunOK X d (e + 1) κ0 σ0 κ σ b x (HT + 2 * pot V S st fr) := by
  obtain ⟨n1, n2, n3, n4, n5, n6, n7, n8, n9, vr⟩ := h.num
  obtain ⟨⟨c1, c2, c3⟩, c4, c5, c6, ⟨m, c7, c8, c9, -⟩, ⟨c10, c11⟩, c12, c13, c14⟩ := h.cls
  have c8 : i < m := c8
  obtain ⟨f88, fF, fl, sta⟩ := h.f88
  have h0 : kI κ (1002 + 8 * v) 0 = nI v := (h.1.1.2.2.1 v c14.1 c14.2).1
  have b4 := h.2.1.2.2.2.1
  have n2 : tsz 0 r + (4 + nv + psz L + 1) ≤ 15720 := n2
  have hl : L.length ≤ 24 := vr.2.2.2.2.1.2.1
  have hit : ∀ it, it ∈ L → ItO F0 it := n9.2.2.2.1
  have hph : ∀ it, it ∈ L → it.1 ≠ 0 → it.2.2.2.1 < 5 := fun it hi hn => by
    rcases hit it hi with z | ⟨z1, z2, z3⟩
    · exact absurd z hn
    · omega
  have fx : FrX κ0 σ0 F0 b (bd, i + 1, j + 1, pl, nv, vs, L, [], 0, 0) := (n9.frx sta).to (by omega) (by omega)
  -- the cause
  obtain ⟨ca, hcau, hca, hcaw⟩ : ∃ ca : Int32, cau 0 L = fm ca ∧ ((ccI L = 0 ∧ ca = -9) ∨ (1 ≤ ccI L ∧ ∀ σ' i' s' md', VR σ' v (pt v) ((bd, i', j + 1, pl, nv, vs, L, [], s', md') :: r) → aI σ' 67 (25 * (60 * pt v + r.length) + (ccI L - 1)) = ca)) ∧ (ca = -9 ∨ ∃ c, c < F0 ∧ ca = nI c ∧ w c = 0) := by
    have hits : ∀ σ' i' s' md', VR σ' v (pt v) ((bd, i', j + 1, pl, nv, vs, L, [], s', md') :: r) → ItsR σ' (pt v) (60 * pt v + r.length) (gcs r) 0 0 L := fun σ' i' s' md' hv => hv.2.2.2.2.2.2.2.1
    by_cases c0 : ccI L = 0
    · refine ⟨-9, ?_, Or.inl ⟨c0, rfl⟩, Or.inl rfl⟩
      rw [fmN9]
      exact (cau_ref L 0 _ _ _ (vr.2.2.2.2.2.2.2.1)).1 c0
    · obtain ⟨it, t1, t2, t3, t4, t5⟩ := (cau_ref L 0 _ _ _ (vr.2.2.2.2.2.2.2.1)).2 (by omega)
      rcases hit it t1 with z | ⟨z1, z2, z3⟩
      · exact absurd z t2
      obtain ⟨f0, f1, f2⟩ := z3 (Or.inl t3)
      refine ⟨nI f0, by rw [fm_nI (by omega), t4, f2], Or.inr ⟨by omega, fun σ' i' s' md' hv => ?_⟩, Or.inr ⟨f0, f1, rfl, ?_⟩⟩
      · obtain ⟨it', t1', t2', t3', t4', t5'⟩ := (cau_ref L 0 _ _ _ (hits σ' i' s' md' hv)).2 (by omega)
        rw [show ccI L - 1 = 0 + ccI L - 1 by omega, t5', ← t4', t4, f2, litI 1, nI_sb (by omega), show f0 + 1 - 1 = f0 by omega]
      · exact h.2.2.2.2.2.2.2.1 v _ it c14.1 c14.2 (by rw [b4]; exact List.mem_cons_self ..) t1 t2 t3 f0 f1 f2
  obtain ⟨σ2, ⟨ro, v2⟩, adv⟩ := on_throw (X := X) (d := e) (F0 := F0) (k := k) (ca := ca) (i' := i + 1) (s' := 0) (md' := 0) (by omega) c12 vr hj (by rw [c13 13 (by omega) (by omega)]; exact e13) (by rw [c13 14 (by omega) (by omega)]; exact e14) (by rw [c13 15 (by omega) (by omega)]; exact e15) (by omega) f88 (by omega) hca
  refine rn_fail (C := fun κ' => ∃ κa κb, Vo v κ κa ∧ VK κa v ((bd, i + 1, j + 1, pl, nv, vs, L, [], 0, 0) :: r) ∧ FmC κa κb F0 (nI k) y (nI v) pl (fm ca) ∧ κ' = cI κb 79 14 (nI (F0 + 1))) (D := fun σ' => σ' = flS σ2 F0 (nI k) y (nI v) pl ca) allx hx c12 (by omega) ⟨_, rfl, fun G hG => adv G hG⟩
    (h.pgc (C := fun κ' => ∃ κa κb, Vo v κ κa ∧ VK κa v ((bd, i + 1, j + 1, pl, nv, vs, L, [], 0, 0) :: r) ∧ FmC κa κb F0 (nI k) y (nI v) pl (fm ca) ∧ κ' = cI κb 79 14 (nI (F0 + 1))) hx (by omega) (by decide) e69 (fun κ1 vo1 vk1 => ⟨5, by omega, ?_⟩)) ?_
  · rw [e70]
    exact pg_throw (j' := j + 1) (s' := 0) (md' := 0) vk1 (by rw [vo1.2.2 0 (by decide) (by decide) (by decide) (by decide) (by decide)]; exact h0) (by omega) hl hph (fl.vo vo1 (Ro.refl (p := 0))) (by omega) (fun κa κb vo vk fc => ⟨κa, κb, vo1.trans vo, vk, by rw [← hcau]; exact fc, rfl⟩)
  · rintro κ' σ' ⟨κa, κb, vo, vka, fc, rfl⟩ rfl
    obtain ⟨hR, hp⟩ := h.fail (k := k) (f' := (bd, i + 1, j + 1, pl, nv, vs, L, [], 0, 0)) (ca := ca) (val := y) (vo := nI v) (pl := pl) hs vo ro vka v2 fx rfl rfl (by omega) hcaw fc
    exact ⟨_, _, _, _, _, _, _, _, _, _, _, _, _, _, hR, rfl, hp, by omega⟩
end THROWS
