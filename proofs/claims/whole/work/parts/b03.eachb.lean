/-! EACH: both -/
section EACHS2
variable {X : Cx} {d e er : Nat} {κ0 κ κa κb κc κ1 κ' : Km} {σ0 σ σa σc σr σ1 σ' : Rm} {b V al S T sp z LT HT F0 v p n x q g k : Nat} {st : Nat → Nat} {fr fr' : Nat → List Frm} {pt : Nat → Nat} {fs fs0 r rr : List Frm} {ch cr : List Nat} {w rz : Nat → Nat} {y u0 a arg fm0 : Int32} {f f1 f' : Frm} {o : Option (List Nat)} {C : Km → Prop} {P : Rm → Prop}
variable {bd i j nv s md i' j' s' md' u i2 j2 : Nat} {pl : Int32} {vs : Nat → Int32} {L L0 : List Ite} {O O1 O0 : List Int32}
theorem pp_each (hk : VK κ v ((bd, i, j, pl, nv, vs, L0 ++ [(0, 0, 0, 0, a)], [], s, md) :: r)) (sf : StF κ σ V st) {y0 : Int32} (q : ∀ k, HdA V a k → KC' X 9 MX6_resumeBy [vR 79, vR (1002 + 8 * v), vR k, vI 0] κ (kRV C)) : KC' X 10 MX6_playPart [vR 79, vR (1002 + 8 * v), vI (nI 30), vI y0] κ (kRV C) := by
  refine KC_of_K rfl (Nat.le_of_ble_eq_true rfl) rfl (k_6_playPart_0 _ _ _ ⟨fun z => absurd z (by decide), fun z => absurd z (by decide), fun z => absurd z (by decide), fun z => absurd z (by decide), fun z => absurd z (by decide), fun z => absurd z (by decide), fun z => absurd z (by decide), fun z => absurd z (by decide), fun z => absurd z (by decide), fun _ => ⟨hk.v, 1, by omega, ?_⟩, fun z => absurd (by decide) z⟩)
  refine vk_peekE hk ⟨0, by omega, kc_findA sf (fun k hk2 => ⟨9, by omega, (q k hk2).mono ?_⟩)⟩
  rintro r0 κ3 ⟨rfl, hC⟩
  exact ⟨rfl, k_6_playPart_213 _ _ _ ⟨rfl, hC⟩⟩
theorem on_each (hd : 65 ≤ d) (h77 : sI σ 77 = nI v) (hk : VR σ v p ((bd, i, j, pl, nv, vs, L0 ++ [(0, 0, 0, 0, a)], O, s, md) :: r)) (hj : j + 1 < 12000) (h13 : aI σ 13 j = 32) (h15 : aI σ 15 j = nI (12 + ecI L0)) (hi : i' < 20000) : ∃ σ2, (Ro p σ σ2 ∧ VR σ2 v p ((bd, i', j + 1, pl, nv, vs, L0 ++ [(0, 0, 0, 0, a)], O, s', md') :: r)) ∧ ∀ P, AC X 92 63 MX13_resumes [vR 92, vI (nI v), vI a, vI 0, vI (nI 2)] σ2 (aRV P) → A X 92 d MX13_goesOn 0 [(0, vR 92)] [] σ (aRV P) := by
  have hh := hk
  obtain ⟨⟨h1, h2, h3, h4⟩, -⟩ := hh
  have h4 : r.length + 1 ≤ 60 := h4
  obtain ⟨va, ra⟩ := hk.act (i' := i') (j' := j + 1) (s' := s') (md' := md') hi hj
  have hl : (L0 ++ [((0, 0, 0, 0, a) : Ite)]).length ≤ 24 := va.2.2.2.2.1.2.1
  rw [List.length_append] at hl
  have hl : L0.length + 1 ≤ 24 := hl
  have he := ecI_le L0
  refine ⟨_, ⟨ra, va⟩, fun P hP => ?_⟩
  refine on_ctl (op := 32) (dc := 64) (by omega) h77 hk.vx (by omega) h13 (by omega) (AC_of_A rfl (Nat.le_of_ble_eq_true rfl) rfl (a_controls_0 _ _ _ _ _ ?_))
  rw [h15]
  have e40 : (40 : Int32) * nI (60 * p + r.length) + nI (12 + ecI L0) = nI (40 * (60 * p + r.length) + (12 + ecI L0)) := by rw [litI 40, pk_mul, nI_add]
  rw [vpn (a := v) (by omega), e40, vpn (a := 40 * (60 * p + r.length) + (12 + ecI L0)) (by omega), cl_nI (show 40 * (60 * p + r.length) + (12 + ecI L0) < 2147483648 by omega), va.vx.eachv]
  refine ⟨by omega, fun z => absurd z (by decide), fun z => absurd z (by decide), fun z => absurd z (by decide), fun z => absurd z (by decide), fun z => absurd z (by decide), fun z => absurd z (by decide), fun z => absurd z (by decide), fun z => absurd z (by decide), fun z => absurd z (by decide), fun z => absurd z (by decide), fun z => absurd z (by decide), fun _ => ⟨by omega, 63, by omega, hP.mono ?_⟩⟩
  rintro r0 s0 ⟨rfl, h⟩
  exact ⟨rfl, a_controls_449 _ _ _ _ _ _ ⟨rfl, rfl, h⟩⟩
theorem lc_each (h : Rn κ0 σ0 κ σ b V al S LT HT sp F0 st fr pt ch w v (bd, i, j, pl, nv, vs, L0 ++ [(0, 0, 0, 0, a)], [], s, md) r) (all : AllOK X d (e + 1) κ0 σ0 b (pot V S st fr)) (allx : AllX X d (e + 1) κ0 σ0 b (pot V S st fr)) (hx : x + pot V S st fr ≤ 199000000) (hd : 11 ≤ d) (he : 65 ≤ e) (hs : s = 1) (e69 : kI κ0 69 i = 30) (e13 : aI σ0 13 j = 32) (e15 : aI σ0 15 j = nI (12 + ecI L0)) (hj : j + 1 < 12000) (hu : u < nvB σ0 bd) (e14 : aI σ0 14 j = nI u) (f69 : kI κ0 69 (i + 1) = 3) (f70 : kI κ0 70 (i + 1) = nI u) (gd : Good2 κ0 σ0 (fun _ => False) (bd, i + 2, j + 1, (L0 ++ [(0, 0, 0, 0, a)]).map itm, 0, 0)) (e70 : kI κ0 70 i = nI i2) (e16 : aI σ0 16 j = nI j2) (hi2 : i < i2) (gd2 : Good2 κ0 σ0 (fun _ => False) (bd, i2, j2, L0.map itm, 0, 0)) : RunOK X d (e + 1) κ0 σ0 κ σ b x (HT + 2 * pot V S st fr) := by
  obtain ⟨n1, n2, n3, n4, n5, n6, n7, n8, n9, vr⟩ := h.num
  obtain ⟨-, -, -, -, -, -, c12, c13, c14⟩ := h.cls
  obtain ⟨-, -, sf, -⟩ := h.sts
  have fo : FrO κ0 σ0 F0 b (bd, i + 1, j + 1, pl, nv, vs, L0 ++ [(0, 0, 0, 0, a)], [], 1, 2) := ⟨n9.1, n9.2.1, Nat.le_refl _, n9.2.2.2.1, Or.inr (Or.inr (Or.inl ⟨rfl, rfl, rfl, i, j, L0, a, u, i2, j2, rfl, rfl, rfl, e69, e13, e15, ⟨by show u < nv; omega, e14, f69, f70⟩, gd, e70, e16, hi2, gd2⟩))⟩
  refine lc_resumeG (a := a) (y := 0) (O1 := []) (mm := 2) h all allx hx hs (by omega) fo (fun C hC => h.ppc hx (by omega) (by decide) e69 (fun κ1 vo1 vk1 => ⟨10, by omega, pp_each vk1 (sf.kvo vo1) (fun k hk => hC κ1 vo1 vk1.gho k hk)⟩)) (on_each (X := X) (i' := i + 1) (s' := 1) (md' := 2) he c12 vr hj (by rw [c13 13 (by omega) (by omega)]; exact e13) (by rw [c13 15 (by omega) (by omega)]; exact e15) (by omega))
/-- the reference alone: the voice of an each is kept -/
theorem on_store {Q : Res → Rm → Prop} (hd : 2 ≤ d) (h77 : sI σ 77 = nI v) (hk : VR σ v p ((bd, i, j, pl, nv, vs, L, [] ++ [a], s, md) :: r)) (hl : L.length < 24) (hj : j + 1 < 12000) (h13 : aI σ 13 j = 31) (h14 : aI σ 14 j = nI (12 + ecI L)) (hi : i' < 20000) (q : ∀ σ', Ro p σ σ' → VR σ' v p ((bd, i', j + 1, pl, nv, vs, L ++ [(0, 0, 0, 0, a)], [], s', md') :: r) → Q (.inl none) σ') : A X 92 d MX13_goesOn 0 [(0, vR 92)] [] σ Q := by
  have hh := hk
  obtain ⟨⟨h1, h2, h3, h4⟩, -⟩ := hh
  have h4 : r.length + 1 ≤ 60 := h4
  obtain ⟨va, ra⟩ := hk.act (i' := i') (j' := j + 1) (s' := s) (md' := md) hi hj
  have he := ecI_le L
  refine on_act (op := 31) (by omega) h77 hk.vx (by omega) h13 (by omega) ?_
  rw [h14]
  refine a_goesOn_124 _ _ _ _ _ _ ⟨fun z => absurd z (by decide), fun z => absurd z (by decide), fun z => absurd z (by decide), fun z => absurd z (by decide), fun z => absurd z (by decide), fun z => absurd z (by decide), fun z => absurd z (by decide), fun z => absurd z (by decide), fun z => absurd z (by decide), fun z => absurd z (by decide), fun z => absurd z (by decide), fun z => absurd z (by decide), fun z => absurd z (by decide), fun z => absurd z (by decide), fun _ => ⟨1, by omega, AC_of_A rfl (Nat.le_of_ble_eq_true rfl) rfl (a_controls_0 _ _ _ _ _ ?_)⟩⟩
  have e40 : (40 : Int32) * nI (60 * p + r.length) + nI (12 + ecI L) = nI (40 * (60 * p + r.length) + (12 + ecI L)) := by rw [litI 40, pk_mul, nI_add]
  rw [vpn (a := v) (by omega), e40, vpn (a := 40 * (60 * p + r.length) + (12 + ecI L)) (by omega), cl_nI (show 40 * (60 * p + r.length) + (12 + ecI L) < 2147483648 by omega)]
  refine ⟨by omega, fun z => absurd z (by decide), fun z => absurd z (by decide), fun z => absurd z (by decide), fun z => absurd z (by decide), fun z => absurd z (by decide), fun z => absurd z (by decide), fun z => absurd z (by decide), fun z => absurd z (by decide), fun z => absurd z (by decide), fun z => absurd z (by decide), fun _ => ⟨0, by omega, ac_pop (i' := i') (s' := s) (md' := md) va hi (fun σ2 r2 v2 => ⟨by omega, ?_⟩)⟩, fun z => absurd (by decide) z⟩
  rintro s34 rfl
  obtain ⟨v3, r3⟩ := v2.vx.each (i' := i') (s' := s') (md' := md') (x := a) hi hl
  have v4 : VR (wI σ2 66 (40 * (60 * p + r.length) + (12 + ecI L)) a) v p ((bd, i', j + 1, pl, nv, vs, L ++ [(0, 0, 0, 0, a)], [], s', md') :: r) := v3.vr (by rw [aI_ne (by decide)]; exact v2.2.2.1.2.2)
  exact a_controls_449 _ _ _ _ _ _ ⟨rfl, a_goesOn_499 _ _ _ _ _ _ (q _ ((ra.trans r2).trans r3) v4)⟩
theorem lc_keep (h : Rn κ0 σ0 κ σ b V al S LT HT sp F0 st fr pt ch w v (bd, i, j, pl, nv, vs, L, [] ++ [a], s, md) r) (he : 2 ≤ e) (hs : s = 1) (e13 : aI σ0 13 j = 31) (e14 : aI σ0 14 j = nI (12 + ecI L)) (hj : j + 1 < 12000) (gd : Good2 κ0 σ0 (fun _ => False) (bd, i, j + 1, L.map itm ++ [(0, 0, 0, 0)], 0, 1)) : ∃ σ1 fr', Rn κ0 σ0 κ σ1 b V al S LT HT sp F0 st fr' pt ch w v (bd, i, j + 1, pl, nv, vs, L ++ [(0, 0, 0, 0, a)], [], 1, 0) r ∧ pot V S st fr' = pot V S st fr ∧ ∀ Q' : Res → Rm → Prop, A X 92 (e + 1) MX13_goes 0 [(0, vR 92)] [] σ1 Q' → A X 92 (e + 1) MX13_goes 0 [(0, vR 92)] [] σ Q' := by
  obtain ⟨n1, n2, n3, n4, n5, n6, n7, n8, n9, vr⟩ := h.num
  obtain ⟨-, -, -, -, -, -, c12, c13, c14⟩ := h.cls
  have b4 := h.2.1.2.2.2.1
  have acc := h.2.2.2.2.1
  have ei : (L ++ [((0, 0, 0, 0, a) : Ite)]).map itm = L.map itm ++ [(0, 0, 0, 0)] := by rw [List.map_append]; rfl
  have hl : L.length < 24 := by
    obtain ⟨-, -, -, -, l5, -⟩ := gd.loc
    have l5 : (L.map itm ++ [((0, 0, 0, 0) : Itm)]).length ≤ 24 := l5
    rw [List.length_append, List.length_map] at l5
    have l5 : L.length + 1 ≤ 24 := l5
    omega
  obtain ⟨σ1, ⟨ro, v2⟩, adv⟩ := ref_ex (X := X) (e := e) (Pp := fun σ' => Ro (pt v) σ σ' ∧ VR σ' v (pt v) ((bd, i, j + 1, pl, nv, vs, L ++ [(0, 0, 0, 0, a)], [], 1, 0) :: r)) c12 (by omega) (on_store (i' := i) (s' := 1) (md' := 0) he c12 vr hl hj (by rw [c13 13 (by omega) (by omega)]; exact e13) (by rw [c13 14 (by omega) (by omega)]; exact e14) (by omega) (fun σ' ro vr' => ⟨rfl, ro, vr'⟩))
  have eg : gws (L ++ [((0, 0, 0, 0, a) : Ite)]) = gws L := by rw [gws_app]; rfl
  have ek : ∀ g, kpl g (L ++ [((0, 0, 0, 0, a) : Ite)]) = kpl g L := fun g => by
    rw [kpl_app]
    have e1 : kp1 g ((0, 0, 0, 0, a) : Ite) = 0 := if_neg (fun z => z.1 rfl)
    show kpl g L + (kp1 g ((0, 0, 0, 0, a) : Ite) + 0) = kpl g L
    rw [e1]
    rfl
  have ea := arm_un (st := st) (fr := fr) (fs := (bd, i, j + 1, pl, nv, vs, L ++ [(0, 0, 0, 0, a)], [], 1, 0) :: r) c14
  have ep := pot_un (S := S) (st := st) (fr := fr) (fs := (bd, i, j + 1, pl, nv, vs, L ++ [(0, 0, 0, 0, a)], [], 1, 0) :: r) c14
  rw [b4, arm_cons, arm_cons] at ea
  rw [b4, fws_cons, fws_cons, fwt_e, fwt_e, eg, hs] at ep
  have ea : cn (vArm st (un fr v ((bd, i, j + 1, pl, nv, vs, L ++ [(0, 0, 0, 0, a)], [], 1, 0) :: r))) V + (s + arm r) = cn (vArm st fr) V + (1 + arm r) := ea
  obtain ⟨ac1, ac2, ac3⟩ := acc
  have vk : VK κ v ((bd, i, j + 1, pl, nv, vs, L ++ [(0, 0, 0, 0, a)], [], 1, 0) :: r) := VK.each h.2.2.1.1
  refine ⟨σ1, _, h.locA (f' := (bd, i, j + 1, pl, nv, vs, L ++ [(0, 0, 0, 0, a)], [], 1, 0)) (rr := r) Vo.refl ro vk v2 ⟨rfl, ⟨n9.1, n9.2.1, Nat.le_refl _, fun x hx => ?_, Or.inl ⟨rfl, ?_⟩⟩, h.2.2.2.1.2.2⟩ ⟨by omega, by omega, by omega⟩ (fun g _ => ?_) (fun f0 it hf hi i1 i2 => ?_), by omega, adv⟩
  · rcases List.mem_append.mp hx with hx | hx
    · exact n9.2.2.2.1 x hx
    · rw [List.mem_singleton.mp hx]
      exact Or.inl rfl
  · show Good2 κ0 σ0 (fun _ => False) (bd, i, j + 1, (L ++ [((0, 0, 0, 0, a) : Ite)]).map itm, 0, 1)
    rw [ei]
    exact gd
  · rw [kps_cons, kps_cons]
    show kpl g (L ++ [((0, 0, 0, 0, a) : Ite)]) + kps g r ≤ kpl g L + kps g r
    rw [ek]
    exact Nat.le_refl _
  · rcases List.mem_cons.mp hf with e | hf
    · rw [e] at hi
      have hi : it ∈ L ++ [((0, 0, 0, 0, a) : Ite)] := hi
      rcases List.mem_append.mp hi with hi | hi
      · exact ⟨_, List.mem_cons_self .., hi⟩
      · rw [List.mem_singleton.mp hi] at i1
        exact absurd rfl i1
    · exact ⟨f0, List.mem_cons_of_mem _ hf, hi⟩
end EACHS2
