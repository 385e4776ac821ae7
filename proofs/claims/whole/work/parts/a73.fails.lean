/-! division by 0; THROW -/
section FAILS
variable {X : Cx} {d e er : Nat} {κ0 κ κa κb κ' : Km} {σ0 σ σa σ1 σ' : Rm} {b V al S T sp z LT HT F0 v p n x q g k : Nat} {st : Nat → Nat} {fr fr' : Nat → List Frm} {pt : Nat → Nat} {fs r : List Frm} {ch cr : List Nat} {w : Nat → Nat} {f f' : Frm} {y u val vo ca : Int32} {C : Km → Prop} {D : Rm → Prop} {G : Rm → Prop}
variable {bd i j nv s md i' j' s' md' t h0 ph c : Nat} {pl pl' : Int32} {vs vs' : Nat → Int32} {L L0 : List Ite} {O O' : List Int32}
theorem ac_exI {M : MI} {as : List AV} {P : Int32 → Rm → Prop} (h : AC X 92 d M as σ (aRI P)) : ∃ x σ', P x σ' ∧ ∀ F : Int32 → Rm → Prop, F x σ' → AC X 92 d M as σ (aRI F) := by
  obtain ⟨r0, σ', hr, ⟨x, rfl, hP⟩⟩ := h
  exact ⟨x, σ', hP, fun F hF => ⟨_, σ', hr, x, rfl, hF⟩⟩
theorem ac_popX (h : VR σ n p ((bd, i, j, pl, nv, vs, L, O ++ [y], s, md) :: r)) (hi : i' < 20000) : ∃ σ', (Ro p σ σ' ∧ VR σ' n p ((bd, i', j, pl, nv, vs, L, O, s', md') :: r)) ∧ ∀ F : Int32 → Rm → Prop, F y σ' → AC X 92 0 MX13_pop [vR 92, vI (nI n)] σ (aRI F) := by
  obtain ⟨x0, σ', ⟨rfl, h2⟩, h3⟩ := ac_exI (X := X) (ac_pop (i' := i') (s' := s') (md' := md') (F := fun x s => x = y ∧ (Ro p σ s ∧ VR s n p ((bd, i', j, pl, nv, vs, L, O, s', md') :: r))) h hi (fun σ' a c => ⟨rfl, a, c⟩))
  exact ⟨σ', h2, h3⟩
theorem FrX.to (h : FrX κ0 σ0 F0 b (bd, i, j, pl, nv, vs, L, O, s, md)) (hs : s' ≤ 1) (hi : i' ≤ 9500) : FrX κ0 σ0 F0 b (bd, i', j', pl', nv, vs', L, O', s', md') := ⟨h.1, h.2.1, hs, h.2.2.2.1, ⟨h.2.2.2.2.1.1, hi⟩, h.2.2.2.2.2⟩
/-- the reference divides by 0 -/
theorem on_nought (hd : 63 ≤ d) (hk : k = 3 ∨ k = 4) (h77 : sI σ 77 = nI v) (hv : VR σ v p ((bd, i, j, pl, nv, vs, L, O ++ [y] ++ [0], s, md) :: r)) (hj : j + 1 < 12000) (h13 : aI σ 13 j = nI (4 + k)) (hi : i' < 20000) (h88 : sI σ 88 = nI F0) (hF : F0 < 8000) :
    ∃ σ2, (Ro p σ σ2 ∧ VR σ2 v p ((bd, i', j + 1, pl, nv, vs, L, O, s', md') :: r)) ∧ ∀ G, RaG X 60 v F0 p (flS σ2 F0 (nI 11) 0 (nI v) pl (-9)) G → A X 92 d MX13_goesOn 0 [(0, vR 92)] [] σ (aRV G) := by
  have hh := hv
  obtain ⟨⟨h1, h2, h3, h4⟩, h5, h6, h7, h8⟩ := hh
  have h4 : r.length + 1 ≤ 60 := h4
  have e62 : aI σ 62 (60 * p + r.length) = nI j := h8.2.1.2.1
  obtain ⟨va, ra⟩ := hv.act (i' := i') (j' := j + 1) (s' := s) (md' := md) hi hj
  obtain ⟨σ1, ⟨r1, v1⟩, p1⟩ := ac_popX (X := X) (i' := i') (s' := s) (md' := md) va hi
  obtain ⟨σ2, ⟨r2, v2⟩, p2⟩ := ac_popX (X := X) (i' := i') (s' := s') (md' := md') v1 hi
  refine ⟨σ2, ⟨(ra.trans r1).trans r2, v2⟩, fun G hG => ?_⟩
  refine a_goesOn_0 ⟨0, by omega, ?_⟩
  rw [h77]
  refine ac_call hv.vx ?_
  rw [vpn (by omega), cl_nI (by omega), e62, vpn (by omega), cl_nI (by omega), nI_1]
  refine ⟨by omega, by omega, by omega, by omega, by omega, ?_⟩
  rintro s11 rfl
  rw [aI_ne (by decide), h13, litI 4, litI 10, lt_nI (by omega) (by omega), lt_nI (by omega) (by omega)]
  refine ⟨by omega, fun z => absurd z (by omega), fun _ => ⟨fun z => absurd z (by omega), fun _ => ⟨0, by omega, p1 _ ⟨0, by omega, p2 _ ?_⟩⟩⟩⟩
  have fail : A X 92 d MX13_goesOn 93 [(0, vR 92), (1, vI (nI v)), (2, vI (nI (60 * p + r.length))), (3, vI (nI j)), (4, vI (aI σ 14 j)), (5, vI (aI σ 15 j)), (6, vI (nI (4 + k))), (7, vI 0), (8, vI y)] [] σ2 (aRV G) := by
    refine a_goesOn_93 _ _ _ _ _ _ _ _ ⟨fun _ => ⟨62, by omega, (ac_arises v2.vx (k := 11) (F0 := F0) ?_ hF (by omega) hG).mono ?_⟩, fun z => absurd rfl z⟩
    · rw [show sI σ2 88 = sI σ 88 from congrFun (((ra.trans r1).trans r2).s (by decide)) 0]; exact h88
    · rintro r0 s0 ⟨rfl, h⟩
      exact ⟨rfl, a_goesOn_123 _ _ _ _ _ _ _ _ ⟨rfl, h⟩⟩
  rw [litI 7, litI 8, eq_nI (by omega) (by omega), eq_nI (by omega) (by omega)]
  exact ⟨fun _ => fail, fun z => ⟨fun _ => fail, fun z2 => absurd hk (by omega)⟩⟩
theorem Rn.f88 (h : Rn κ0 σ0 κ σ b V al S LT HT sp F0 st fr pt ch w v f r) : sI σ 88 = nI F0 ∧ F0 ≤ 6060 ∧ FRl κ σ F0 ∧ Sta b κ0 σ0 := by
  have fl := h.1.1.2.2.2.2.2.2
  have ac := h.2.2.2.2.1.1
  have hst := h.1.1.2.1
  have hS := hst.2.2.2.2.2.2.2.2.2.2.2.1
  have hV := hst.2.2.2.2.2.2.2.1
  exact ⟨fl.1.2.1, by omega, fl, h.1.1.1.2.1⟩
theorem lc_nought (h : Rn κ0 σ0 κ σ b V al S LT HT sp F0 st fr pt ch w v (bd, i, j, pl, nv, vs, L, O ++ [y] ++ [0], s, md) r) (allx : AllX X d (e + 1) κ0 σ0 b (pot V S st fr)) (hx : x + pot V S st fr ≤ 199000000) (hd : 7 ≤ d) (he : 63 ≤ e) (hs : s = 1) (hk : k = 3 ∨ k = 4) (e69 : kI κ0 69 i = nI (8 + k)) (e13 : aI σ0 13 j = nI (4 + k)) (hj : j + 1 < 12000) : RunOK X d (e + 1) κ0 σ0 κ σ b x (HT + 2 * pot V S st fr) := by
  obtain ⟨n1, n2, n3, n4, n5, n6, n7, n8, n9, vr⟩ := h.num
  obtain ⟨⟨c1, c2, c3⟩, c4, c5, c6, ⟨m, c7, c8, c9, -⟩, ⟨c10, c11⟩, c12, c13, c14⟩ := h.cls
  have c8 : i < m := c8
  obtain ⟨f88, fF, fl, sta⟩ := h.f88
  have vk := h.2.2.1.1
  have h0 : kI κ (1002 + 8 * v) 0 = nI v := (h.1.1.2.2.1 v c14.1 c14.2).1
  rw [List.length_append, List.length_append] at n2
  obtain ⟨σ2, ⟨ro, v2⟩, adv⟩ := on_nought (X := X) (d := e) (F0 := F0) (i' := i + 1) (s' := 0) (md' := 0) (by omega) hk c12 vr hj (by rw [c13 13 (by omega) (by omega)]; exact e13) (by omega) f88 (by omega)
  refine rn_fail (C := fun κ' => ∃ κa κb, Vo v κ κa ∧ VK κa v ((bd, i + 1, j + 1, pl, nv, vs, L, O, 0, 0) :: r) ∧ FmC κa κb F0 (nI 11) 0 (nI v) pl 0 ∧ κ' = cI κb 79 14 (nI (F0 + 1))) (D := fun σ' => σ' = flS σ2 F0 (nI 11) 0 (nI v) pl (-9)) allx hx c12 (by omega) ⟨_, rfl, fun G hG => adv G hG⟩ (fun Q hQ => ?_) ?_
  · refine run_act (m := m) (V := V) (v := v) (by omega) (by omega) c1 c2 c3 c4 c14 c5 c6 vk.pc9 c7 c8 ?_
    rw [c10, c11, e69, litI 20, litI 40, lt_nI (by omega) (by omega), lt_nI (by omega) (by omega)]
    refine ⟨fun _ => ⟨5, by omega, ?_⟩, fun z => absurd (show 8 + k < 20 by omega) z, fun z => absurd (show 8 + k < 40 by omega) z⟩
    refine (wk_duo (X := X) (F := fun y1 κ' => y1 = 0 ∧ Vo v (cI κ (1002 + 8 * v) 9 (nI (i + 1))) κ' ∧ VK κ' v ((bd, i + 1, j + 1, pl, nv, vs, L, O, 0, 0) :: r)) (j' := j + 1) (s' := 0) (md' := 0) (k := k) (z := kI κ0 70 i) (by omega) (VK.pc (b' := bd) (j' := j) (s' := s) (md' := md) vk) (by omega) (fun c => absurd ⟨hk, rfl⟩ c) (fun _ κ' vo vk => ⟨rfl, vo, vk⟩)).mono ?_
    rintro r' κa ⟨y1, rfl, rfl, vo, vka⟩
    have voa := (Vo.reg (n := v) (κ := κ) (k := 9) (x := nI (i + 1)) (by decide)).trans vo
    refine ⟨_, rfl, fun _ => ⟨4, by omega, ?_⟩, fun z => absurd rfl z⟩
    exact kc_raise vka (by rw [voa.2.2 0 (by decide) (by decide) (by decide) (by decide) (by decide)]; exact h0) (fl.vo voa (Ro.refl (p := 0))) (by omega) (fun κb fc => hQ _ ⟨κa, κb, voa, vka, fc, rfl⟩)
  · rintro κ' σ' ⟨κa, κb, vo, vka, fc, rfl⟩ rfl
    obtain ⟨hR, hp⟩ := h.fail (k := 11) (f' := (bd, i + 1, j + 1, pl, nv, vs, L, O, 0, 0)) (ca := -9) (val := 0) (vo := nI v) (pl := pl) hs vo ro vka v2 ((n9.frx sta).to (by omega) (by omega)) rfl rfl (by omega) (Or.inl rfl) fc
    exact ⟨_, _, _, _, _, _, _, _, _, _, _, _, _, _, hR, rfl, hp, by omega⟩
/-- the innermost catch that runs, of both -/
theorem cau_ref : ∀ (L : List Ite) (a : Int32) (gi e cc : Nat), ItsR σ p c gi e cc L → (ccI L = 0 → cau a L = a) ∧ (1 ≤ ccI L → ∃ it, it ∈ L ∧ it.1 ≠ 0 ∧ it.2.2.2.1 = 1 ∧ cau a L = it.2.2.2.2 ∧ aI σ 67 (25 * c + (cc + ccI L - 1)) = it.2.2.2.2 - 1) := by
  intro L
  induction L with
  | nil => intro a gi e cc _; exact ⟨fun _ => rfl, fun z => absurd z (by decide)⟩
  | cons x r ih =>
    intro a gi e cc h
    have h1 : ItR σ p c gi e cc x := h.1
    obtain ⟨i1, i2⟩ := ih (if x.1 ≠ 0 ∧ x.2.2.2.1 = 1 then x.2.2.2.2 else a) _ _ _ h.2
    have ec : cau a (x :: r) = cau (if x.1 ≠ 0 ∧ x.2.2.2.1 = 1 then x.2.2.2.2 else a) r := rfl
    rw [ccI_cons, ec]
    by_cases c1 : x.1 ≠ 0 ∧ x.2.2.2.1 = 1
    · have ct : cct x = 1 := if_pos c1
      rw [if_pos c1] at i1 i2 ⊢
      rw [ct] at i2 ⊢
      refine ⟨fun z => by omega, fun _ => ?_⟩
      by_cases c2 : ccI r = 0
      · refine ⟨x, List.mem_cons_self .., c1.1, c1.2, i1 c2, ?_⟩
        have := (h1.2 c1.1).2.2.1 c1.2
        rw [show cc + (1 + ccI r) - 1 = cc by omega]
        exact this
      · obtain ⟨it, t1, t2, t3, t4, t5⟩ := i2 (by omega)
        refine ⟨it, List.mem_cons_of_mem _ t1, t2, t3, t4, ?_⟩
        rw [show cc + (1 + ccI r) - 1 = cc + 1 + ccI r - 1 by omega]
        exact t5
    · have ct : cct x = 0 := if_neg c1
      rw [if_neg c1] at i1 i2 ⊢
      rw [ct] at i2 ⊢
      refine ⟨fun z => i1 (by omega), fun z => ?_⟩
      obtain ⟨it, t1, t2, t3, t4, t5⟩ := i2 (by omega)
      refine ⟨it, List.mem_cons_of_mem _ t1, t2, t3, t4, ?_⟩
      rw [show cc + (0 + ccI r) - 1 = cc + 0 + ccI r - 1 by omega]
      exact t5
end FAILS
