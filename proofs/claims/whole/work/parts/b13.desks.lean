/-! FROM THE DESK: a voice is resumed, a failure is thrown in; both run -/
section DESKS
variable {X : Cx} {d e er : Nat} {κ0 κ κa κb κh κw κ1 κ' : Km} {σ0 σ σa σh σr σw σ1 σ' : Rm} {b V al S T sp z LT HT F0 v p n x q g k s s0 num pn : Nat} {st : Nat → Nat} {fr fr' : Nat → List Frm} {pt : Nat → Nat} {fs fs0 r rr : List Frm} {ch cr : List Nat} {w rz : Nat → Nat} {y y' u a val vo pl ca fm0 : Int32} {f f1 f' : Frm} {C : Km → Prop} {P G : Rm → Prop} {o : Option (List Nat)}
theorem Chan.one (h : Chan σ V 0 st []) (hn : 1 ≤ n ∧ n ≤ V) (e54 : aI σ' 54 n = nI 0) (e57 : ∀ x, x ≠ n → aI σ' 57 x = aI σ 57 x) : Chan σ' V n (un st n 2) [n] := by
  obtain ⟨h1, h2, h3, h4, h5, h6, h7⟩ := h
  refine ⟨rfl, List.nodup_cons.mpr ⟨List.not_mem_nil, List.nodup_nil⟩, fun x hx => ?_, fun x x1 x2 hx => ?_, fun x hx => ?_, ⟨e54, trivial⟩, fun x x1 x2 hx => ?_⟩
  · rw [List.mem_singleton.mp hx, un_eq]
    exact ⟨hn.1, hn.2, Or.inl rfl⟩
  · by_cases c : x = n
    · rw [c]; exact List.mem_cons_self ..
    · rw [un_ne c] at hx
      exact absurd (h4 x x1 x2 hx) List.not_mem_nil
  · rw [List.mem_singleton.mp hx, un_eq]
    exact ⟨fun _ => rfl, fun _ => rfl⟩
  · by_cases c : x = n
    · rw [c, un_eq]
      exact ⟨by decide, by decide, fun _ => Or.inl e54⟩
    · rw [e57 x c] at hx
      obtain ⟨g1, g2, g3⟩ := h7 x x1 x2 hx
      rw [un_ne c]
      refine ⟨g1, g2, fun z => ?_⟩
      have : st x = 2 ∨ st x = 3 := by omega
      exact absurd (h4 x x1 x2 this) List.not_mem_nil
theorem Desk.hal (h : Desk κ0 σ0 κ σ b V al S LT HT sp F0 z st fr pt w) : (∀ n, 1 ≤ n → n ≤ V → fr n ≠ [] → st n < 4) ∧ (∀ n, 1 ≤ n → n ≤ V → st n ≠ 2 ∧ st n ≠ 3 ∧ st n ≤ 6) := by
  obtain ⟨a, c, m⟩ := h.bn (x := 0)
  refine ⟨fun n n1 n2 hf => ?_, fun n n1 n2 => ⟨fun y => ?_, fun y => ?_, (a.2.2.1 n n1 n2).2.1.2.2⟩⟩
  · rcases m n n1 n2 with ⟨-, z⟩ | ⟨z, -⟩
    · exact absurd z hf
    · omega
  · exact absurd (c.2.2.2.1 n n1 n2 (Or.inl y)) List.not_mem_nil
  · exact absurd (c.2.2.2.1 n n1 n2 (Or.inr y)) List.not_mem_nil
theorem Desk.f88 (h : Desk κ0 σ0 κ σ b V al S LT HT sp F0 z st fr pt w) : sI σ 88 = nI F0 ∧ F0 ≤ 6060 ∧ FRl κ σ F0 ∧ Sta b κ0 σ0 := by
  obtain ⟨a, -, -⟩ := h.bn (x := 0)
  have acc := h.2.2.1.1
  have hS := a.2.1.2.2.2.2.2.2.2.2.2.2.2.1
  have hV := a.2.1.2.2.2.2.2.2.2.1
  exact ⟨a.2.2.2.2.2.1.1.2.1, by omega, a.2.2.2.2.2.1, a.1.2.1⟩
/-- the desk resumes one -/
theorem Desk.turnTo (h : Desk κ0 σ0 κ σ b V al S LT HT sp F0 0 st fr pt w) (hn : 1 ≤ n ∧ n ≤ V) (hs : st n ≤ 1) (gn : GvN κ0 σ0 F0 b (st n) (fr n) fs) (h1 : st n = 1 → p = pt n) (h0 : st n = 0 → (fr n = [] ∧ cn (hasF fr) V < 12) ∧ p < 12 ∧ aI σ 59 p = 0) (hB : HT + 1 + 2 * pot V S st fr ≤ 400000000)
    (gk : GvC (cI κ (1002 + 8 * n) 5 (nI 0)) κ' HT n sp (st n) fm0 fs) (gr : GvR (wI σ 54 n (nI 0)) σ' HT n p (st n) fm0 fs) :
    ∃ sp' st' fr' pt' f' r', Rn κ0 σ0 κ' σ' b V al S LT (HT + 1) sp' F0 st' fr' pt' [n] w n f' r' ∧ pot V S st' fr' ≤ pot V S st fr := by
  obtain ⟨a, c, m⟩ := h.bn (x := 0)
  obtain ⟨-, b5, acc, col⟩ := h
  have a2 := a.res (n := n) (y := nI 0) (Or.inr ⟨0, Nat.zero_le _, rfl⟩)
  have hV60 : V ≤ 60 := a.2.1.2.2.2.2.2.2.2.1
  obtain ⟨f', r', rfl, ⟨m0, fo', hr'⟩, vA1, vW1, hkp, hit⟩ := gn
  have hfn1 : st n = 1 → fr n ≠ [] := fun z y => by
    rcases m n hn.1 hn.2 with ⟨q1, -⟩ | ⟨-, mm', q2, -⟩
    · omega
    · exact q2.ne y
  obtain ⟨sp', a3⟩ := a2.give (κ' := κ') (σ' := σ') (n := n) (p := p) (fm0 := fm0) (fs := f' :: r') hn hs gk gr (fun z => ⟨h1 z, hfn1 z⟩) (fun z => by
    rw [aI_ne (by decide)]
    exact h0 z) (List.cons_ne_nil _ _)
  have es : ∀ k, k ≠ 49 → k ≠ 54 → k ≠ 58 → k ≠ 59 → k ≠ 77 → k ≠ 83 → k ≠ 84 → k ≠ 85 → (k < 60 ∨ 74 < k) → aI σ' k = aI σ k := fun k k1 k2 k4 k5 k6 k7 k8 k9 k10 => by rw [gr.eqv ⟨k1, k4, k5, k6, k7, k8, k9⟩ k10, aI_ne k2]
  have e54 : aI σ' 54 = aI (wI σ 54 n (nI 0)) 54 := gr.eqv (by decide) (by decide)
  have e54a : aI σ' 54 n = nI 0 := by rw [e54, aI_eq]
  have e56 : aI σ' 56 = aI σ 56 := es 56 (by decide) (by decide) (by decide) (by decide) (by decide) (by decide) (by decide) (by decide) (by decide)
  have e57 : aI σ' 57 = aI σ 57 := es 57 (by decide) (by decide) (by decide) (by decide) (by decide) (by decide) (by decide) (by decide) (by decide)
  have cc := c.one (σ' := σ') hn e54a (fun x _ => by rw [e57])
  have ea2 := arm_un2 (V := V) (st := st) (fr := fr) (n := n) (s := 2) (fs := f' :: r') hn
  have ep2 := pot_un2 (V := V) (S := S) (st := st) (fr := fr) (n := n) (s := 2) (fs := f' :: r') hn
  obtain ⟨ac1, ac2, ac3⟩ := acc
  have ek : ∀ g, 84 ≤ g → g ≤ 91 → kI κ' g = kI κ g ∧ kW κ' g = kW κ g := fun g g1 g2 => by
    obtain ⟨y1, y2⟩ := gk.frm (g := g) (by omega) (by omega) (by omega) (by omega)
    exact ⟨by rw [y1, kI_ne (by omega)], by rw [y2 (by omega)]; rfl⟩
  refine ⟨sp', _, _, _, f', r', Rn.of a3 cc (fun m' q1 q2 q3 => ?_) ⟨hn.1, hn.2, un_eq, un_eq, ?_⟩ ⟨m0, fo', hr'⟩ ⟨by omega, by omega, by omega⟩ ?_, by omega⟩
  · rw [un_ne q3, un_ne q3]
    exact (m m' q1 q2).cg (by rw [e56]) (Nat.le_refl _)
  · rw [gk.k14, kI_ne (by omega)]
    exact b5
  · refine col.sub (ek 84 (by omega) (by omega)).1 (fun h h1 h2 => ek h (by omega) (by omega)) (fun k k1 k2 => es k (by omega) (by omega) (by omega) (by omega) (by omega) (by omega) (by omega) (by omega) (by omega)) (fun y _ => ?_) (fun m' f0 it q1 q2 hf hi i1 i2 => ?_)
    · have e2 := kps_un (g := y) (fr := fr) (fs := f' :: r') (V := V) (v := n) hn
      rw [hkp y] at e2
      omega
    · by_cases cn' : m' = n
      · rw [cn', un_eq] at hf
        obtain ⟨f2, g1, g2⟩ := hit f0 it hf hi
        exact ⟨n, f2, hn.1, hn.2, g1, g2⟩
      · rw [un_ne cn'] at hf
        exact ⟨m', f0, q1, q2, hf, hi⟩
/-- the desk throws a failure into one at its yield -/
theorem Desk.thrownY {k : Nat} (h : Desk κ0 σ0 κ σ b V al S LT HT sp F0 0 st fr pt w) (hn : 1 ≤ n ∧ n ≤ V) (hs : st n = 1) (tw : (κw = κ ∧ σw = σ) ∨ (κw = cI κ (1002 + 8 * n) 11 1 ∧ σw = wI σ 57 n 1)) (hk : k ≤ 14) (hB : HT + 1 + 2 * pot V S st fr ≤ 400000000) (fc : FmC κw κb F0 (nI k) val (nI 0) pl (fm (-9))) (hd : HdC (cI κb 79 14 (nI (F0 + 1))) κh HT (nI 0) (nI n)) (hr : HdR (wI (flS σw F0 (nI k) val (nI 0) pl (-9)) 54 n (nI 0)) σh HT (nI 0) (nI n)) :
    ∃ fr' f' r', Rx κ0 σ0 (cI (cI (cI κh 79 13 (nI n)) (1002 + 8 * n) 5 (nI 0)) (1002 + 8 * n) 1 2) (wI (wS σh 77 (nI n)) 49 n 2) b V al S LT (HT + 1) sp (F0 + 1) (un st n 2) fr' pt [n] (un w F0 (F0 + 1)) n f' r' F0 ∧ pot V S (un st n 2) fr' ≤ pot V S st fr := by
  obtain ⟨f88, hF, fl, sta⟩ := h.f88
  obtain ⟨a, c, m⟩ := h.bn (x := 0)
  obtain ⟨-, b5, acc, col⟩ := h
  have hV60 : V ≤ 60 := a.2.1.2.2.2.2.2.2.2.1
  have aw : Bn κ0 σ0 κw σw b V al S 0 sp 0 LT HT F0 st fr pt 0 := by
    rcases tw with ⟨rfl, rfl⟩ | ⟨rfl, rfl⟩
    · exact a
    · exact a.clo
  have t1 : ∀ g, g ≠ 1002 + 8 * n → kI κw g = kI κ g := fun g hg => by
    rcases tw with ⟨rfl, -⟩ | ⟨rfl, -⟩
    · rfl
    · exact kI_ne hg
  have t2 : kW κw = kW κ := by
    rcases tw with ⟨rfl, -⟩ | ⟨rfl, -⟩ <;> rfl
  have t3 : ∀ k, k ≠ 57 → aI σw k = aI σ k := fun k hk => by
    rcases tw with ⟨-, rfl⟩ | ⟨-, rfl⟩
    · rfl
    · exact aI_ne hk
  have t4 : ∀ x, x ≠ n → aI σw 57 x = aI σ 57 x := fun x hx => by
    rcases tw with ⟨-, rfl⟩ | ⟨-, rfl⟩
    · rfl
    · exact aI_ni hx
  have a3 := aw.thrown (by0 := 0) hn hs (by omega) hk (Nat.zero_le _) fc hd hr
  have hcl := a3.2.2.2.2.2.2 n hn.1 hn.2
  rcases m n hn.1 hn.2 with ⟨q1, -⟩ | ⟨-, mn, q2, q3, -⟩
  · omega
  have em := q3 hs
  subst em
  rcases hcl with ⟨z, -⟩ | ⟨z1, vkn, vrn, z4⟩
  · exact absurd z q2.ne
  have vrn := vrn.elim id (fun z => absurd z.1 (by omega))
  cases hfn : fr n with
  | nil => exact absurd hfn z1
  | cons f0 r0 =>
    rw [hfn] at q2 vkn vrn
    obtain ⟨bd, i, j, pln, nv, vs, L, O, sn, md0⟩ := f0
    obtain ⟨e1, fon, e3⟩ := q2
    have e1 : md0 = 1 := e1
    subst e1
    have hsn : sn = 1 := by
      rcases fon.2.2.2.2 with ⟨z, _⟩ | ⟨_, hs1, _, gd⟩ | ⟨z, _⟩ | ⟨z, _⟩
      · exact absurd z (show ¬ (1 : Nat) = 0 by decide)
      · exact hs1
      · exact absurd z (show ¬ (1 : Nat) = 2 by decide)
      · exact absurd z (show ¬ (1 : Nat) = 3 by decide)
    subst hsn
    have fxn : FrX κ0 σ0 (F0 + 1) b (bd, i, j, pln, nv, vs, L, O, 0, 0) := ((fon.frx sta).to (by omega) (fon.frx sta).2.2.2.2.1.2).up (by omega)
    have hi9 : i ≤ 9500 := (fon.frx sta).2.2.2.2.1.2
    have a4 := a3.loc (x' := n) (fs := (bd, i, j, pln, nv, vs, L, O, 0, 0) :: r0) hn (Or.inl rfl) Vo.refl Ro.refl vkn.gho (Or.inl (vrn.gho (by omega))) z4 (by rw [hfn]; exact List.cons_ne_nil _ _) (List.cons_ne_nil _ _)
    have ew : ∀ k, k ≠ 49 → k ≠ 54 → k ≠ 77 → k < 83 → aI (wI (wS σh 77 (nI n)) 49 n 2) k = aI σw k := fun k k1 k2 k3 k4 => by rw [aI_ne k1, aI_ne k3, (hr.1 k (by omega)).1, aI_ne k2, flS_ne (by omega)]
    have e54 : aI (wI (wS σh 77 (nI n)) 49 n 2) 54 n = nI 0 := by
      rw [aI_ne (by decide), aI_ne (by decide), (hr.1 54 (by decide)).1, aI_eq]
    have e56 := ew 56 (by decide) (by decide) (by decide) (by decide)
    have e57 := ew 57 (by decide) (by decide) (by decide) (by decide)
    have cc := c.one (σ' := wI (wS σh 77 (nI n)) 49 n 2) hn e54 (fun x hx => by rw [e57, t4 x hx])
    have ea2 := arm_un2 (V := V) (st := st) (fr := fr) (n := n) (s := 2) (fs := (bd, i, j, pln, nv, vs, L, O, 0, 0) :: r0) hn
    have ep2 := pot_un2 (V := V) (S := S) (st := st) (fr := fr) (n := n) (s := 2) (fs := (bd, i, j, pln, nv, vs, L, O, 0, 0) :: r0) hn
    rw [hfn, hs, vA_pos (by omega), vA_pos (by omega), arm_cons, arm_cons] at ea2
    rw [hfn, hs, vW_pos (by omega), vW_pos (by omega), fws_cons, fws_cons, fwt_e, fwt_e] at ep2
    have ea2 : cn (vArm (un st n 2) (un fr n ((bd, i, j, pln, nv, vs, L, O, 0, 0) :: r0))) V + (1 + arm r0) = cn (vArm st fr) V + (0 + arm r0) := ea2
    obtain ⟨ac1, ac2, ac3⟩ := acc
    have kw : ∀ g, 80 ≤ g → g ≤ 91 → kI κw g = kI κ g ∧ kW κw g = kW κ g := fun g g1 g2 => ⟨t1 g (by omega), by rw [t2]⟩
    have allI : AllI F0 V (un fr n ((bd, i, j, pln, nv, vs, L, O, 0, 0) :: r0)) := fun m' q1 q2 f0 hf it hi => by
      by_cases cn' : m' = n
      · rw [cn', un_eq] at hf
        rcases List.mem_cons.mp hf with e | hf
        · rw [e] at hi; exact fon.2.2.2.1 it hi
        · exact (e3 f0 hf).2.2.2.2.1 it hi
      · rw [un_ne cn'] at hf
        exact (m m' q1 q2).items f0 hf it hi
    have col1 : Col κw σw V F0 (un fr n ((bd, i, j, pln, nv, vs, L, O, 0, 0) :: r0)) w (fun _ => 0) := by
      refine col.sub (kw 84 (by omega) (by omega)).1 (fun h h1 h2 => kw h (by omega) (by omega)) (fun k k1 k2 => by rw [t3 k (by omega)]) (fun y _ => ?_) (fun m' f0 it q1 q2 hf hi i1 i2 => ?_)
      · have e2 := kps_un (g := y) (fr := fr) (fs := (bd, i, j, pln, nv, vs, L, O, 0, 0) :: r0) (V := V) (v := n) hn
        rw [hfn, kps_cons, kps_cons] at e2
        have e2 : cn (fun n' => kps y (un fr n ((bd, i, j, pln, nv, vs, L, O, 0, 0) :: r0) n')) V + (kpl y L + kps y r0) = cn (fun n' => kps y (fr n')) V + (kpl y L + kps y r0) := e2
        omega
      · by_cases cn' : m' = n
        · rw [cn', un_eq] at hf
          rcases List.mem_cons.mp hf with e | hf
          · rw [e] at hi
            exact ⟨n, (bd, i, j, pln, nv, vs, L, O, 1, 1), hn.1, hn.2, by rw [hfn]; exact List.mem_cons_self .., hi⟩
          · exact ⟨n, f0, hn.1, hn.2, by rw [hfn]; exact List.mem_cons_of_mem _ hf, hi⟩
        · rw [un_ne cn'] at hf
          exact ⟨m', f0, q1, q2, hf, hi⟩
    have fcf := fc.1
    have col2 := col1.make (num := nI k) (val := val) (vo := nI 0) (pl := pl) (κ' := cI κb 79 14 (nI (F0 + 1))) aw.2.2.2.2.2.1 (by omega) allI (fun q hq => by rw [kI_ne (by decide)]; exact fcf.2.2 q hq) (fun h h1 h2 => ⟨(kI_ne (by omega)).trans (fcf.1.1 h (by omega)).1, (fcf.1.1 h (by omega)).2.2⟩) (Or.inl rfl)
    have kf : ∀ g, 84 ≤ g → g ≤ 91 → kI (cI (cI (cI κh 79 13 (nI n)) (1002 + 8 * n) 5 (nI 0)) (1002 + 8 * n) 1 2) g = kI (cI κb 79 14 (nI (F0 + 1))) g ∧ kW (cI (cI (cI κh 79 13 (nI n)) (1002 + 8 * n) 5 (nI 0)) (1002 + 8 * n) 1 2) g = kW (cI κb 79 14 (nI (F0 + 1))) g := fun g g1 g2 => by
      obtain ⟨z1, z2, z3⟩ := hd.1.1.1 g (by omega)
      exact ⟨by rw [kI_ne (by omega), kI_ne (by omega), kI_ne (by omega), z1], z3⟩
    refine ⟨_, (bd, i, j, pln, nv, vs, L, O, 0, 0), r0, ⟨a4, cc, fun m' q1 q2 q3 => ?_, ⟨hn.1, hn.2, un_eq, un_eq, ?_, by omega⟩, ⟨fxn, fun h0 hh => ⟨(e3 h0 hh).1, (e3 h0 hh).2.up (by omega)⟩⟩, ⟨by omega, by omega, by omega⟩, ?_⟩, by omega⟩
    · rw [un_ne q3, un_ne q3]
      exact (m m' q1 q2).cg (by rw [e56, t3 56 (by decide)]) (by omega)
    · rw [kI_ne (by omega), kI_ne (by omega), kI_nk (by decide), (hd.1.1.1 79 (by omega)).1, kI_eq]
    · refine col2.cg (kf 84 (by omega) (by omega)).1 (fun h h1 h2 => kf h (by omega) (by omega)) (fun k' k1 k2 => ?_)
      rw [aI_ne (by omega), aI_ne (by omega), (hr.1 k' (by omega)).1, aI_ne (by omega)]
/-- both run until the desk has the turn -/
theorem run_both {F : Km → Prop} (h : Rn κ0 σ0 κ σ b V al S LT HT sp F0 st fr pt ch w v f r) (hx : pot V S st fr ≤ 199000000) (q : ∀ κ' σ' V' al' S' LT' HT' sp' F0' z' st' fr' pt' w', Desk κ0 σ0 κ' σ' b V' al' S' LT' HT' sp' F0' z' st' fr' pt' w' → kI κ' 79 15 = sI σ' 78 → HT' + 2 * pot V' S' st' fr' ≤ HT + 2 * pot V S st fr → (∀ G : Int32 → Rm → Prop, G (sI σ' 78) σ' → AC X 92 72 MX13_goes [vR 92] σ (aRI G)) → F κ') : KC' X 11 MX6_run [vR 79] κ (kRV F) := by
  refine KC_of_K rfl (Nat.le_of_ble_eq_true rfl) rfl (k_6_run_0 ?_)
  refine rn_ok (X := X) (d := 11) (e := 70) (by omega) (by omega) (pot V S st fr + 1) _ _ _ _ _ _ _ _ _ _ _ _ _ _ _ _ _ 0 h (by omega) (by omega) _ (fun κ' σ' V' al' S' LT' HT' sp' F0' z' st' fr' pt' w' dk e15 hb adv => ⟨rfl, q κ' σ' V' al' S' LT' HT' sp' F0' z' st' fr' pt' w' dk e15 hb (fun G hG => AC_of_A rfl (Nat.le_of_ble_eq_true rfl) rfl (adv _ (a_goes_0 ?_)))⟩)
  rw [(dk.bn (x := 0)).1.2.1.2.2.2.1.2]
  exact ⟨fun _ => ⟨_, rfl, hG⟩, fun z => absurd (Int32.le_refl _) z⟩
theorem run_bothX {F : Km → Prop} (h : Rx κ0 σ0 κ σ b V al S LT HT sp F0 st fr pt [v] w v f r g) (hx : pot V S st fr ≤ 199000000) (q : ∀ κ' σ' V' al' S' LT' HT' sp' F0' z' st' fr' pt' w', Desk κ0 σ0 κ' σ' b V' al' S' LT' HT' sp' F0' z' st' fr' pt' w' → kI κ' 79 15 = sI σ' 78 → HT' + 2 * pot V' S' st' fr' ≤ HT + 2 * pot V S st fr → (∀ G : Int32 → Rm → Prop, G (sI σ' 78) σ' → RaG X 60 v g (pt v) σ (fun s => AC X 92 72 MX13_goes [vR 92] s (aRI G))) → F κ') : KC' X 11 MX6_run [vR 79] κ (kRV F) := by
  have ax := allx_ok (X := X) (d := 11) (e := 72) (κ0 := κ0) (σ0 := σ0) (b := b) (by omega) (pot V S st fr + 1) (rn_ok (X := X) (d := 11) (e := 70) (by omega) (by omega) (pot V S st fr + 1))
  refine KC_of_K rfl (Nat.le_of_ble_eq_true rfl) rfl (k_6_run_0 ?_)
  refine ax _ _ _ _ _ _ _ _ _ _ _ _ _ _ _ _ _ _ 0 60 h (by omega) (by omega) (by show 5 * 1 ≤ 60; omega) _ (fun κ' σ' V' al' S' LT' HT' sp' F0' z' st' fr' pt' w' dk e15 hb adv => ⟨rfl, q κ' σ' V' al' S' LT' HT' sp' F0' z' st' fr' pt' w' dk e15 hb (fun G hG => ?_)⟩)
  have h77 := (dk.bn (x := 0)).1.2.1.2.2.2.1.2
  refine (adv (aRI G) (a_goes_0 ?_)).mono ?_
  · rw [h77]
    exact ⟨fun _ => ⟨_, rfl, hG⟩, fun z => absurd (Int32.le_refl _) z⟩
  · rintro r0 s0 ⟨rfl, hh⟩
    exact ⟨rfl, AC_of_A rfl (Nat.le_of_ble_eq_true rfl) rfl hh⟩
end DESKS
