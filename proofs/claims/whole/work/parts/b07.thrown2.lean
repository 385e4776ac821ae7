/-! a failure is thrown into another voice: what it comes to -/
section THROWN2
variable {X : Cx} {d e er : Nat} {κ0 κ κa κb κh κw κ1 κ' : Km} {σ0 σ σa σh σr σw σ1 σ' : Rm} {b V al S T sp z LT HT F0 v p n x q g k s by0 mm cz : Nat} {st : Nat → Nat} {fr fr' : Nat → List Frm} {pt : Nat → Nat} {fs fs0 r rr : List Frm} {ch cr : List Nat} {w rz : Nat → Nat} {y y' u a num val vo pl ca : Int32} {f f1 f' : Frm} {C : Km → Prop} {P : Rm → Prop}
/-- what both have set before a failure is thrown into n -/
def ThW (κa κw : Km) (σa σw : Rm) (v n mm cz : Nat) : Prop := (cz = 0 ∧ κw = cI κa (1002 + 8 * v) 1 3 ∧ σw = wI (wI σa 49 v 3) 56 v (nI mm)) ∨ (cz = 1 ∧ mm = 3 ∧ κw = cI (cI κa (1002 + 8 * v) 1 3) (1002 + 8 * n) 11 1 ∧ σw = wI (wI (wI σa 49 v 3) 56 v (nI mm)) 57 n 1)
theorem ThW.frm (h : ThW κa κw σa σw v n mm cz) (hnv : n ≠ v) : (∀ g, g ≠ 1002 + 8 * v → g ≠ 1002 + 8 * n → kI κw g = kI κa g) ∧ κw.2 = κa.2 ∧ (∀ k, k ≠ 11 → kI κw (1002 + 8 * n) k = kI κa (1002 + 8 * n) k) ∧ (∀ k, k ≠ 1 → kI κw (1002 + 8 * v) k = kI κa (1002 + 8 * v) k) ∧ (∀ k, k ≠ 49 → k ≠ 56 → k ≠ 57 → aI σw k = aI σa k) ∧ (∀ m, m ≠ v → aI σw 49 m = aI σa 49 m) ∧ (∀ m, m ≠ v → aI σw 56 m = aI σa 56 m) ∧ aI σw 56 v = nI mm ∧ (∀ m, m ≠ n → aI σw 57 m = aI σa 57 m) ∧ (aI σw 57 n = 1 → aI σa 57 n = 1 ∨ mm = 3) := by
  rcases h with ⟨-, rfl, rfl⟩ | ⟨-, rfl, rfl, rfl⟩
  · refine ⟨fun g h1 h2 => kI_ne h1, rfl, fun k hk => by rw [kI_ne (by omega)], fun k hk => kI_nk hk, fun k h1 h2 h3 => by rw [aI_ne h2, aI_ne h1], fun m hm => by rw [aI_ne (by decide), aI_ni hm], fun m hm => by rw [aI_ni hm, aI_ne (by decide)], aI_eq, fun m hm => by rw [aI_ne (by decide), aI_ne (by decide)], fun z => Or.inl ?_⟩
    rw [aI_ne (by decide), aI_ne (by decide)] at z
    exact z
  · exact ⟨fun g h1 h2 => by rw [kI_ne h2, kI_ne h1], rfl, fun k hk => by rw [kI_nk hk, kI_ne (by omega)], fun k hk => by rw [kI_ne (by omega), kI_nk hk], fun k h1 h2 h3 => by rw [aI_ne h3, aI_ne h2, aI_ne h1], fun m hm => by rw [aI_ne (by decide), aI_ne (by decide), aI_ni hm], fun m hm => by rw [aI_ne (by decide), aI_ni hm, aI_ne (by decide)], by rw [aI_ne (by decide), aI_eq], fun m hm => by rw [aI_ni hm, aI_ne (by decide), aI_ne (by decide)], fun _ => Or.inr rfl⟩
theorem Rn.thrownY {k : Nat} (h : Rn κ0 σ0 κ σ b V al S LT HT sp F0 st fr pt (v :: cr) w v f r) (hn : 1 ≤ n ∧ n ≤ V) (hs : st n = 1) (ko : Vo v κ κa) (ro : Ro (pt v) σ σa) (vk : VK κa v (f1 :: r)) (vr : VR σa v (pt v) (f1 :: r)) (hm1 : frM f1 = mm ∧ 1 ≤ mm) (fo : FrO κ0 σ0 F0 b f1) (hfs : frS f1 ≤ frS f) (hL : frL f1 = frL f) (hw : fwt f1 ≤ fwt f) (tw : ThW κa κw σa σw v n mm cz) (hk : k ≤ 14) (fc : FmC κw κb F0 (nI k) val (nI v) pl (fm (-9))) (hd : HdC (cI κb 79 14 (nI (F0 + 1))) κh HT (nI v) (nI n)) (hr : HdR (wI (flS σw F0 (nI k) val (nI v) pl (-9)) 54 n (nI v)) σh HT (nI v) (nI n)) :
    ∃ fr' f' r', Rx κ0 σ0 (cI (cI (cI κh 79 13 (nI n)) (1002 + 8 * n) 5 (nI v)) (1002 + 8 * n) 1 2) (wI (wS σh 77 (nI n)) 49 n 2) b V al S LT (HT + 1) sp (F0 + 1) (un (un st v 3) n 2) fr' pt (n :: v :: cr) (un w F0 (F0 + 1)) n f' r' F0 ∧ pot V S (un (un st v 3) n 2) fr' < pot V S st fr ∧ HT + 1 + 2 * pot V S (un (un st v 3) n 2) fr' ≤ HT + 2 * pot V S st fr := by
  obtain ⟨f88, hF, fl, sta⟩ := h.f88
  obtain ⟨a, c, m⟩ := h.bn (x := 0)
  obtain ⟨-, ⟨b1, b2, b3, b4, b5⟩, ⟨c1, c2, c3⟩, ⟨d1, d2, d3⟩, acc, col⟩ := h
  have hne : fr v ≠ [] := by rw [b4]; exact List.cons_ne_nil _ _
  have hnv : n ≠ v := fun z => by rw [z, b3] at hs; omega
  have hV60 : V ≤ 60 := a.2.1.2.2.2.2.2.2.2.1
  obtain ⟨t1, t2, t3, t4, t5, t6, t7, t8, t9, t10⟩ := tw.frm hnv
  have esn : un st v 3 n = st n := un_ne hnv
  have efn : un fr v (f1 :: r) n = fr n := un_ne hnv
  -- the relation before it is thrown
  have a1 := a.loc (x' := 0) (fs := f1 :: r) ⟨b1, b2⟩ (Or.inl rfl) ko ro vk (Or.inl vr) c3 hne (List.cons_ne_nil _ _)
  have a2 := (a1.sst (n := v) (s := 3) (by omega) (by rw [b3]; omega)).rx (k := 56) (i := v) (y := nI mm) (Or.inl rfl)
  have aw : Bn κ0 σ0 κw σw b V al S v sp 0 LT HT F0 (un st v 3) (un fr v (f1 :: r)) pt 0 := by
    rcases tw with ⟨-, rfl, rfl⟩ | ⟨-, rfl, rfl, rfl⟩
    · exact a2
    · exact a2.clo
  have a3 := aw.thrown hn (by rw [esn]; exact hs) (by omega) hk b2 fc hd hr
  -- the calls of n
  have hcl := a3.2.2.2.2.2.2 n hn.1 hn.2
  rw [efn] at hcl
  rcases m n hn.1 hn.2 hnv with ⟨q1, -⟩ | ⟨-, mn, q2, q3, -⟩
  · omega
  have em := q3 hs
  subst em
  rcases hcl with ⟨z, -⟩ | ⟨z1, vkn, vrn, z4⟩
  · exact absurd z q2.ne
  have vrn := vrn.elim id (fun z => absurd z.1 (by omega))
  cases hfn : fr n with
  | nil => exact absurd hfn z1
  | cons f0 r0 =>
    rw [hfn] at q2 vkn vrn
    obtain ⟨bd, i, j, pln, nv, vs, L, O, sn, md0⟩ := f0
    obtain ⟨e1, fon, e3⟩ := q2
    have e1 : md0 = 1 := e1
    subst e1
    have hsn : sn = 1 := by
      rcases fon.2.2.2.2 with ⟨z, _⟩ | ⟨_, hs1, _, gd⟩ | ⟨z, _⟩ | ⟨z, _⟩
      · exact absurd z (show ¬ (1 : Nat) = 0 by decide)
      · exact hs1
      · exact absurd z (show ¬ (1 : Nat) = 2 by decide)
      · exact absurd z (show ¬ (1 : Nat) = 3 by decide)
    subst hsn
    have fxn : FrX κ0 σ0 (F0 + 1) b (bd, i, j, pln, nv, vs, L, O, 0, 0) := ((fon.frx sta).to (by omega) (fon.frx sta).2.2.2.2.1.2).up (by omega)
    have hi9 : i ≤ 9500 := (fon.frx sta).2.2.2.2.1.2
    have a4 := a3.loc (x' := n) (fs := (bd, i, j, pln, nv, vs, L, O, 0, 0) :: r0) hn (Or.inl rfl) Vo.refl Ro.refl vkn.gho (Or.inl (vrn.gho (by omega))) z4 (by rw [efn, hfn]; exact List.cons_ne_nil _ _) (List.cons_ne_nil _ _)
    -- what stays
    have ew : ∀ k, k ≠ 49 → k ≠ 54 → k ≠ 77 → k < 83 → aI (wI (wS σh 77 (nI n)) 49 n 2) k = aI σw k := fun k k1 k2 k3 k4 => by rw [aI_ne k1, aI_ne k3, (hr.1 k (by omega)).1, aI_ne k2, flS_ne (by omega)]
    have e54 : ∀ x, aI (wI (wS σh 77 (nI n)) 49 n 2) 54 x = if x = n then nI v else aI σw 54 x := fun x => by
      rw [aI_ne (by decide), aI_ne (by decide), (hr.1 54 (by decide)).1]
      by_cases cx : x = n
      · rw [if_pos cx, cx, aI_eq]
      · rw [if_neg cx, aI_ni cx, flS_ne (by decide)]
    have e56 := ew 56 (by decide) (by decide) (by decide) (by decide)
    have e57 := ew 57 (by decide) (by decide) (by decide) (by decide)
    have h57 : aI σ 57 n ≠ 1 := fun z => by
      have := c.2.2.2.2.2.2 n hn.1 hn.2 z
      omega
    have cc := c.push (σ' := wI (wS σh 77 (nI n)) 49 n 2) hV60 hn (by omega) (fun x hx => by rw [e54, if_neg hx, t5 54 (by decide) (by decide) (by decide), ro.s (by decide)]) (by rw [e54, if_pos rfl]) (fun x hx => by rw [e56, t7 x hx, ro.s (by decide)]) (fun x hx => by rw [e57, t9 x hx, ro.s (by decide)]) (fun z => by
      rw [e57] at z
      rw [e56, t8]
      rcases t10 z with y | y
      · rw [ro.s (by decide)] at y
        exact absurd y h57
      · rw [y]; rfl)
    -- counts
    have ea1 := arm_un2 (V := V) (st := st) (fr := fr) (n := v) (s := 3) (fs := f1 :: r) ⟨b1, b2⟩
    have ep1 := pot_un2 (V := V) (S := S) (st := st) (fr := fr) (n := v) (s := 3) (fs := f1 :: r) ⟨b1, b2⟩
    have ea2 := arm_un2 (V := V) (st := un st v 3) (fr := un fr v (f1 :: r)) (n := n) (s := 2) (fs := (bd, i, j, pln, nv, vs, L, O, 0, 0) :: r0) hn
    have ep2 := pot_un2 (V := V) (S := S) (st := un st v 3) (fr := un fr v (f1 :: r)) (n := n) (s := 2) (fs := (bd, i, j, pln, nv, vs, L, O, 0, 0) :: r0) hn
    rw [b4, vA_pos (by omega), vA_pos (by omega), arm_cons, arm_cons] at ea1
    rw [b4, vW_pos (by omega), vW_pos (by omega), fws_cons, fws_cons] at ep1
    rw [esn, efn, hfn, hs, vA_pos (by omega), vA_pos (by omega), arm_cons, arm_cons] at ea2
    rw [esn, efn, hfn, hs, vW_pos (by omega), vW_pos (by omega), fws_cons, fws_cons, fwt_e, fwt_e] at ep2
    have ea2 : cn (vArm (un (un st v 3) n 2) (un (un fr v (f1 :: r)) n ((bd, i, j, pln, nv, vs, L, O, 0, 0) :: r0))) V + (1 + arm r0) = cn (vArm (un st v 3) (un fr v (f1 :: r))) V + (0 + arm r0) := ea2
    obtain ⟨ac1, ac2, ac3⟩ := acc
    -- items and colours
    have kw : ∀ g, 80 ≤ g → g ≤ 91 → kI κw g = kI κ g ∧ kW κw g = kW κ g := fun g g1 g2 => by
      obtain ⟨z1, z2, z3⟩ := ko.h (h := g) (by omega) (by omega)
      exact ⟨by rw [t1 g (by omega) (by omega), z1], by show κw.2.2.1 g = κ.2.2.1 g; rw [t2]; exact z3⟩
    have allI : AllI F0 V (un (un fr v (f1 :: r)) n ((bd, i, j, pln, nv, vs, L, O, 0, 0) :: r0)) := fun m' q1 q2 f0 hf it hi => by
      by_cases cn' : m' = n
      · rw [cn', un_eq] at hf
        rcases List.mem_cons.mp hf with e | hf
        · rw [e] at hi; exact fon.2.2.2.1 it hi
        · exact (e3 f0 hf).2.2.2.2.1 it hi
      · rw [un_ne cn'] at hf
        by_cases cv : m' = v
        · rw [cv, un_eq] at hf
          rcases List.mem_cons.mp hf with e | hf
          · rw [e] at hi; exact fo.2.2.2.1 it hi
          · exact (d3 f0 hf).2.2.2.2.1 it hi
        · rw [un_ne cv] at hf
          exact (m m' q1 q2 cv).items f0 hf it hi
    have col1 : Col κw σw V F0 (un (un fr v (f1 :: r)) n ((bd, i, j, pln, nv, vs, L, O, 0, 0) :: r0)) w (fun _ => 0) := by
      refine col.sub (kw 84 (by omega) (by omega)).1 (fun h h1 h2 => kw h (by omega) (by omega)) (fun k k1 k2 => by rw [t5 k (by omega) (by omega) (by omega), ro.s (by omega)]) (fun y _ => ?_) (fun m' f0 it q1 q2 hf hi i1 i2 => ?_)
      · have e1 := kps_un (g := y) (fr := fr) (fs := f1 :: r) (V := V) (v := v) ⟨b1, b2⟩
        have e2 := kps_un (g := y) (fr := un fr v (f1 :: r)) (fs := (bd, i, j, pln, nv, vs, L, O, 0, 0) :: r0) (V := V) (v := n) hn
        rw [b4, kps_cons, kps_cons, hL] at e1
        rw [efn, hfn, kps_cons, kps_cons] at e2
        have e2 : cn (fun n' => kps y (un (un fr v (f1 :: r)) n ((bd, i, j, pln, nv, vs, L, O, 0, 0) :: r0) n')) V + (kpl y L + kps y r0) = cn (fun n' => kps y (un fr v (f1 :: r) n')) V + (kpl y L + kps y r0) := e2
        omega
      · by_cases cn' : m' = n
        · rw [cn', un_eq] at hf
          rcases List.mem_cons.mp hf with e | hf
          · rw [e] at hi
            exact ⟨n, (bd, i, j, pln, nv, vs, L, O, 1, 1), hn.1, hn.2, by rw [hfn]; exact List.mem_cons_self .., hi⟩
          · exact ⟨n, f0, hn.1, hn.2, by rw [hfn]; exact List.mem_cons_of_mem _ hf, hi⟩
        · rw [un_ne cn'] at hf
          by_cases cv : m' = v
          · rw [cv, un_eq] at hf
            rcases List.mem_cons.mp hf with e | hf
            · rw [e, hL] at hi
              exact ⟨v, f, b1, b2, by rw [b4]; exact List.mem_cons_self .., hi⟩
            · exact ⟨v, f0, b1, b2, by rw [b4]; exact List.mem_cons_of_mem _ hf, hi⟩
          · rw [un_ne cv] at hf
            exact ⟨m', f0, q1, q2, hf, hi⟩
    have fcf := fc.1
    have col2 := col1.make (num := nI k) (val := val) (vo := nI v) (pl := pl) (κ' := cI κb 79 14 (nI (F0 + 1))) aw.2.2.2.2.2.1 (by omega) allI (fun q hq => by rw [kI_ne (by decide)]; exact fcf.2.2 q hq) (fun h h1 h2 => ⟨(kI_ne (by omega)).trans (fcf.1.1 h (by omega)).1, (fcf.1.1 h (by omega)).2.2⟩) (Or.inl rfl)
    have kf : ∀ g, 84 ≤ g → g ≤ 91 → kI (cI (cI (cI κh 79 13 (nI n)) (1002 + 8 * n) 5 (nI v)) (1002 + 8 * n) 1 2) g = kI (cI κb 79 14 (nI (F0 + 1))) g ∧ kW (cI (cI (cI κh 79 13 (nI n)) (1002 + 8 * n) 5 (nI v)) (1002 + 8 * n) 1 2) g = kW (cI κb 79 14 (nI (F0 + 1))) g := fun g g1 g2 => by
      obtain ⟨z1, z2, z3⟩ := hd.1.1.1 g (by omega)
      exact ⟨by rw [kI_ne (by omega), kI_ne (by omega), kI_ne (by omega), z1], z3⟩
    refine ⟨_, (bd, i, j, pln, nv, vs, L, O, 0, 0), r0, ⟨a4, cc, fun m' q1 q2 q3 => ?_, ⟨hn.1, hn.2, un_eq, un_eq, ?_, by omega⟩, ⟨fxn, fun h0 hh => ⟨(e3 h0 hh).1, (e3 h0 hh).2.up (by omega)⟩⟩, ⟨by omega, by omega, by omega⟩, ?_⟩, by omega, by omega⟩
    · rw [un_ne q3, un_ne q3]
      by_cases cv : m' = v
      · rw [cv, un_eq, un_eq]
        exact Or.inr ⟨by omega, mm, ⟨hm1.1, fo.up (by omega), fun h0 hh => ⟨(d3 h0 hh).1, (d3 h0 hh).2.up (by omega)⟩⟩, fun z => by omega, fun z => by omega, fun _ => ⟨by rw [e56, t8], hm1.2⟩⟩
      · rw [un_ne cv, un_ne cv]
        exact (m m' q1 q2 cv).cg (by rw [e56, t7 m' cv, ro.s (by decide)]) (by omega)
    · rw [kI_ne (by omega), kI_ne (by omega), kI_nk (by decide), (hd.1.1.1 79 (by omega)).1, kI_eq]
    · refine col2.cg (kf 84 (by omega) (by omega)).1 (fun h h1 h2 => kf h (by omega) (by omega)) (fun k' k1 k2 => ?_)
      rw [aI_ne (by omega), aI_ne (by omega), (hr.1 k' (by omega)).1, aI_ne (by omega)]
end THROWN2
