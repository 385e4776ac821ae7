/-! the turn is given: to one at a yield, to one that begins -/
section GIVES2
variable {X : Cx} {d e er : Nat} {κ0 κ κa κb κc κ1 κ' : Km} {σ0 σ σa σc σr σ1 σ' : Rm} {b V al S T sp z LT HT F0 v p n x q g k s1 sc kn nw a0 j2 from0 : Nat} {st : Nat → Nat} {fr fr' : Nat → List Frm} {pt : Nat → Nat} {fs fs0 r rr : List Frm} {y u arg : Int32} {f1 : Frm}
variable {bd i j nv s md i' j' s' md' : Nat} {pl : Int32} {vs : Nat → Int32} {L : List Ite} {O : List Int32}
/-- the call with which a voice begins -/
def cal0 (sc a0 j2 nw kn : Nat) (arg : Int32) : Frm := (sc, a0, j2, -9, nw, fun k => if k < kn then arg else 0, [], [], 0, 0)
/-- the body of a voice -/
def BdA (κ0 : Km) (σ0 : Rm) (b sc kn nw a0 j2 : Nat) : Prop := (sc < b ∧ b ≤ 12 ∧ kn ≤ 1 ∧ nw ≤ 12 ∧ a0 < 9500 ∧ j2 < 9500) ∧ (kI κ0 67 2 = nI b ∧ kI κ0 (1000 + 8 * sc) 4 = nI kn ∧ kI κ0 (1000 + 8 * sc) 5 = nI nw ∧ kI κ0 (1000 + 8 * sc) 6 = nI a0) ∧ (aI σ0 20 sc = nI kn ∧ aI σ0 21 sc = nI nw ∧ aI σ0 23 sc = nI j2) ∧ Good2 κ0 σ0 (fun _ => False) (sc, a0, j2, [], 0, 0)
/-- what the class looks at when the turn is given to n -/
def GivK (κ0 κ : Km) (b HT n sp s1 sc : Nat) (arg : Int32) (fs0 : List Frm) : Prop := (∃ g, PrC κ 82 HT g) ∧ (kI κ (1002 + 8 * n) 0 = nI n ∧ kI κ (1002 + 8 * n) 1 = nI s1 ∧ kI κ (1002 + 8 * n) 2 = nI sc ∧ kI κ (1002 + 8 * n) 3 = arg) ∧ (kI κ 67 2 = kI κ0 67 2 ∧ b ≤ kB κ ∧ ∀ k, kI κ (1000 + 8 * sc) k = kI κ0 (1000 + 8 * sc) k) ∧ (1 ≤ n ∧ n ≤ 60 ∧ n ≤ kV κ) ∧ (s1 = 1 → VK κ n fs0) ∧ (s1 = 0 → kW κ (1003 + 8 * n) = 0 ∧ kI κ (1002 + 8 * n) 8 = 0 ∧ kI κ 79 8 = nI sp ∧ sp ≤ 12 ∧ (sp ≠ 0 → 40 ≤ kW κ (1004 + 8 * (sp - 1)) ∧ kW κ (1004 + 8 * (sp - 1)) ≤ 40000))
/-- and the reference -/
def GivR (σ0 σ : Rm) (HT n p s1 sc : Nat) (arg : Int32) (fs0 : List Frm) : Prop := (∃ g, PRr σ 83 84 85 HT g) ∧ (aI σ 49 n = nI s1 ∧ aI σ 50 n = nI sc ∧ aI σ 51 n = arg) ∧ (aI σ 20 = aI σ0 20 ∧ aI σ 23 = aI σ0 23) ∧ (s1 = 1 → VR σ n p fs0) ∧ (s1 = 0 → p < 12 ∧ aI σ 59 p = 0 ∧ ∀ k, k < p → aI σ 59 k ≠ 0)
theorem GivK.tr (h : GivK κ0 κ b HT n sp s1 sc arg fs0) (hv : n ≠ v) (e : ∀ g, g ≠ 79 → g ≠ 1002 + 8 * v → g ≠ 1003 + 8 * v → g ≠ 1002 + 8 * n → kI κ' g = kI κ g) (ew : ∀ g, g ≠ 1002 + 8 * v → g ≠ 1003 + 8 * v → kW κ' g = kW κ g) (e79 : kI κ' 79 8 = kI κ 79 8) (en : ∀ k, k ≠ 5 → k ≠ 11 → kI κ' (1002 + 8 * n) k = kI κ (1002 + 8 * n) k) (eV : kV κ' = kV κ ∧ kB κ' = kB κ) : GivK κ0 κ' b HT n sp s1 sc arg fs0 := by
  obtain ⟨⟨g, h1⟩, ⟨h2, h3, h4, h5⟩, ⟨h6, h7, h8⟩, h9, h10, h11⟩ := h
  refine ⟨⟨g, h1.fr (e 82 (by omega) (by omega) (by omega) (by omega)) (e 83 (by omega) (by omega) (by omega) (by omega)) (ew 83 (by omega) (by omega))⟩, ⟨?_, ?_, ?_, ?_⟩, ⟨?_, ?_, fun k => ?_⟩, ?_, fun z => ?_, fun z => ?_⟩
  · rw [en 0 (by decide) (by decide)]; exact h2
  · rw [en 1 (by decide) (by decide)]; exact h3
  · rw [en 2 (by decide) (by decide)]; exact h4
  · rw [en 3 (by decide) (by decide)]; exact h5
  · rw [e 67 (by omega) (by omega) (by omega) (by omega)]; exact h6
  · rw [eV.2]; exact h7
  · rw [e (1000 + 8 * sc) (by omega) (by omega) (by omega) (by omega)]; exact h8 k
  · rw [eV.1]; exact h9
  · exact (h10 z).cg5 (fun k hk => en k (by omega) (by omega)) (e _ (by omega) (by omega) (by omega) (by omega)) (ew _ (by omega) (by omega)) (by rw [eV.1]; exact Nat.le_refl _)
  · obtain ⟨g1, g2, g3, g4, g5⟩ := h11 z
    rw [ew (1003 + 8 * n) (by omega) (by omega), en 8 (by decide) (by decide), e79, ew (1004 + 8 * (sp - 1)) (by omega) (by omega)]
    exact ⟨g1, g2, g3, g4, g5⟩
theorem GivR.tr (h : GivR σ0 σ HT n p s1 sc arg fs0) (e : ∀ k, k ≠ 49 → k ≠ 54 → k ≠ 56 → k ≠ 57 → (k < 60 ∨ 74 < k) → aI σ' k = aI σ k) (e49 : aI σ' 49 n = aI σ 49 n) (hv : s1 = 1 → VR σ' n p fs0) : GivR σ0 σ' HT n p s1 sc arg fs0 := by
  obtain ⟨⟨g, h1⟩, ⟨h2, h3, h4⟩, ⟨h5, h6⟩, h7, h8⟩ := h
  refine ⟨⟨g, h1.fr (e 83 (by decide) (by decide) (by decide) (by decide) (by decide)) (e 84 (by decide) (by decide) (by decide) (by decide) (by decide)) (e 85 (by decide) (by decide) (by decide) (by decide) (by decide))⟩, ⟨by rw [e49]; exact h2, ?_, ?_⟩, ⟨?_, ?_⟩, hv, ?_⟩
  · rw [e 50 (by decide) (by decide) (by decide) (by decide) (by decide)]; exact h3
  · rw [e 51 (by decide) (by decide) (by decide) (by decide) (by decide)]; exact h4
  · rw [e 20 (by decide) (by decide) (by decide) (by decide) (by decide)]; exact h5
  · rw [e 23 (by decide) (by decide) (by decide) (by decide) (by decide)]; exact h6
  · rw [e 59 (by decide) (by decide) (by decide) (by decide) (by decide)]; exact h8
/-- the class, behind the giving -/
def GvC (κ κ' : Km) (HT n sp s1 : Nat) (fm0 : Int32) (fs : List Frm) : Prop := ∃ κ1 κ3, HdC κ κ1 HT fm0 (nI n) ∧ ((s1 = 1 ∧ Vo n (cI κ1 79 13 (nI n)) κ3) ∨ (s1 = 0 ∧ BegF (cI κ1 79 13 (nI n)) κ3 n sp)) ∧ VK κ3 n fs ∧ κ' = cI κ3 (1002 + 8 * n) 1 2
/-- the reference, behind it -/
def GvR (σ σ' : Rm) (HT n p s1 : Nat) (fm0 : Int32) (fs : List Frm) : Prop := ∃ σ1, HdR σ σ1 HT fm0 (nI n) ∧ ((s1 = 1 ∧ Ro p (wI (wS σ1 77 (nI n)) 49 n 2) σ') ∨ (s1 = 0 ∧ Ro p (wI (wI (wI (wS σ1 77 (nI n)) 49 n 2) 59 p 1) 58 n (nI p)) σ')) ∧ VR σ' n p fs
/-- the calls behind it -/
def GvF (s1 : Nat) (fs0 : List Frm) (y : Int32) (fN : Frm) (fs : List Frm) : Prop := (s1 = 0 ∧ fs = [fN]) ∨ (s1 = 1 ∧ ∃ bd i j pl nv vs L O r, fs0 = (bd, i, j, pl, nv, vs, L, O, 1, 1) :: r ∧ fs = (bd, i, j, pl, nv, vs, L, O ++ [y], 1, 0) :: r ∧ i < 9500 ∧ O.length < 150 ∧ r.length < 60 ∧ tsz 0 fs0 ≤ 16000)
theorem kc_give {F : Km → Prop} {fm0 : Int32} (h : GivK κ0 κ b HT n sp s1 sc arg fs0) (hb : BdA κ0 σ0 b sc kn nw a0 j2) (hf : GvF s1 fs0 y (cal0 sc a0 j2 nw kn arg) fs) (hT : HT < 2000000000) (q : ∀ κ', GvC κ κ' HT n sp s1 fm0 fs → F κ') : KC' X 6 MX6_give [vR 79, vI fm0, vR (1002 + 8 * n), vI y] κ (kRV F) := by
  obtain ⟨⟨g, h1⟩, ⟨h2, h3, h4, h5⟩, ⟨h6, h7, h8⟩, ⟨h9, h9b, h9c⟩, h10, h11⟩ := h
  obtain ⟨⟨t1, t2, t3, t4, t5, t6⟩, ⟨u0, u1, u2, u3⟩, -, -⟩ := hb
  have hH : isH κ (1002 + 8 * n) 10 := isH_voice h9 (by omega)
  refine KC_of_K rfl (Nat.le_of_ble_eq_true rfl) rfl (k_6_give_0 _ _ _ ⟨hH, 3, by omega, ?_⟩)
  rw [h2]
  refine kc_hand h1 hT (fun κ1 hk => ?_)
  have ek : ∀ g, g ≠ 82 → g ≠ 83 → kI κ1 g = kI κ g ∧ kW κ1 g = kW κ g := fun g g1 g2 => by
    obtain ⟨y1, y2, y3⟩ := hk.1.1.1 g (by omega)
    exact ⟨y1, y3⟩
  have eV : kV κ1 = kV κ := hk.1.1.2.2.2
  have eB : kB κ1 = kB κ := hk.1.1.2.2.1
  rintro κ7 rfl
  rw [(ek (1002 + 8 * n) (by omega) (by omega)).1, h2]
  have e7 : ∀ g, g ≠ 79 → g ≠ 82 → g ≠ 83 → kI (cI κ1 79 13 (nI n)) g = kI κ g := fun g g0 g1 g2 => by rw [kI_ne g0, (ek g g1 g2).1]
  rw [e7 (1002 + 8 * n) (by omega) (by omega) (by omega), h4]
  have hH7 : isH (cI κ1 79 13 (nI n)) (1002 + 8 * n) 10 := isH_voice h9 (show n ≤ kV κ1 by omega)
  have hbd : isH (cI κ1 79 13 (nI n)) (1000 + 8 * sc) 0 := isH_body (show sc < kB κ1 by omega)
  refine ⟨0, by omega, kc_sat (n := b) (by rw [e7 67 (by omega) (by omega) (by omega), h6]; exact u0) t2 t1 (show b ≤ kB κ1 by omega) ?_⟩
  rw [e7 (1002 + 8 * n) (by omega) (by omega) (by omega), h3]
  rcases hf with ⟨rfl, rfl⟩ | ⟨rfl, bd, i, j, pl, nv, vs, L, O, r, rfl, rfl, f1, f2, f3, f4⟩
  · -- it begins
    obtain ⟨g1, g2, g3, g4, g5⟩ := h11 rfl
    rw [litI 1, eq_nI (by omega) (by omega)]
    have w0 : kW (cI κ1 79 13 (nI n)) (1003 + 8 * n) = 0 := by
      show kW κ1 (1003 + 8 * n) = 0
      rw [(ek _ (by omega) (by omega)).2]; exact g1
    have w8 : kI (cI κ1 79 13 (nI n)) 79 8 = nI sp := by rw [kI_nk (by decide), (ek 79 (by omega) (by omega)).1]; exact g3
    have wr : sp ≠ 0 → 40 ≤ kW (cI κ1 79 13 (nI n)) (1004 + 8 * (sp - 1)) ∧ kW (cI κ1 79 13 (nI n)) (1004 + 8 * (sp - 1)) ≤ 40000 := fun z => by
      show 40 ≤ kW κ1 _ ∧ kW κ1 _ ≤ 40000
      rw [(ek _ (by omega) (by omega)).2]; exact g5 z
    obtain ⟨bf, vc, va⟩ := begK_f (κ := cI κ1 79 13 (nI n)) (n := n) (sp := sp) ⟨h9, h9b⟩ (show n ≤ kV κ1 by omega) w0 w8 g4 wr (by rw [e7 _ (by omega) (by omega) (by omega)]; exact g2)
    refine ⟨fun z => absurd z (by omega), fun _ => ⟨Or.inr hbd.1, fun z => absurd z (by omega), fun _ => ⟨by omega, hbd, n, sp, rfl, h9, show n ≤ kV κ1 by omega, w0, w8, g4, fun z => by have := wr z; omega, ?_⟩⟩⟩
    rintro κ34 rfl
    have e34 : ∀ k, kI (begK (cI κ1 79 13 (nI n)) n sp) (1000 + 8 * sc) k = kI κ0 (1000 + 8 * sc) k := fun k => by
      rw [(bf.1 (1000 + 8 * sc) (by omega) (by omega) (by omega) (by omega)).1, e7 _ (by omega) (by omega) (by omega)]
      exact h8 k
    refine ⟨4, by omega, vk_enter0 (j2 := j2) (s2 := 0) (m2 := 0) (arg := arg) (bd := sc) vc (by rw [va, e7 _ (by omega) (by omega) (by omega)]; exact h5) (by rw [bf.2.2.2.2.1.2]; show sc < kB κ1; omega) ((e34 4).trans u1) ((e34 5).trans u2) ((e34 6).trans u3) t3 t4 (fun κ3 vo vk => k_6_give_68 _ _ _ _ ⟨isH_voice h9 (by rw [vo.1.2.2.2, bf.2.2.2.2.1.1]; show n ≤ kV κ1; omega), ?_⟩)⟩
    rintro κ2 rfl
    exact ⟨rfl, q _ ⟨κ1, κ3, hk, Or.inr ⟨rfl, bf.kvo vo⟩, vk, rfl⟩⟩
  · -- at its yield
    have vk0 : VK (cI κ1 79 13 (nI n)) n ((bd, i, j, pl, nv, vs, L, O, 1, 1) :: r) := (h10 rfl).cg5 (fun k _ => by rw [e7 _ (by omega) (by omega) (by omega)]) (e7 _ (by omega) (by omega) (by omega)) (by show kW κ1 _ = _; rw [(ek _ (by omega) (by omega)).2]) (by show kV κ ≤ kV κ1; omega)
    refine ⟨fun _ => ⟨hbd, 3, by omega, vk_push (b' := bd) (j' := j) (s' := 1) (md' := 0) vk0 (by omega) (fun κ3 vo vk => k_6_give_68 _ _ _ _ ⟨isH_voice h9 (by rw [vo.1.2.2.2]; show n ≤ kV κ1; omega), ?_⟩)⟩, fun z => absurd rfl z⟩
    rintro κ2 rfl
    exact ⟨rfl, q _ ⟨κ1, κ3, hk, Or.inl ⟨rfl, vo⟩, vk, rfl⟩⟩
theorem ac_goesTo {P : Rm → Prop} {fm0 : Int32} (hn : 1 ≤ n ∧ n ≤ 60) (h : GivR σ0 σ HT n p s1 sc arg fs0) (hb : BdA κ0 σ0 b sc kn nw a0 j2) (hf : GvF s1 fs0 y (cal0 sc a0 j2 nw kn arg) fs) (hT : HT < 2000000000) (q : ∀ σ', GvR σ σ' HT n p s1 fm0 fs → P σ') : AC X 92 3 MX13_goesTo [vR 92, vI fm0, vI (nI n), vI y] σ (aRV P) := by
  obtain ⟨⟨g, h1⟩, ⟨h2, h3, h4⟩, ⟨h5, h6⟩, h7, h8⟩ := h
  obtain ⟨⟨t1, t2, t3, t4, t5, t6⟩, -, ⟨u1, u2, u3⟩, -⟩ := hb
  refine AC_of_A rfl (Nat.le_of_ble_eq_true rfl) rfl (a_goesTo_0 _ _ _ ⟨0, by omega, ac_hand h1 hT (fun σ1 hr => ?_)⟩)
  rintro s5 rfl
  have es : ∀ k, k ≠ 77 → k ≠ 83 → k ≠ 84 → k ≠ 85 → aI (wS σ1 77 (nI n)) k = aI σ k := fun k k1 k2 k3 k4 => by rw [aI_ne k1, (hr.1 k (by omega)).1]
  rw [vpn (by omega), cl_nI (by omega), es 49 (by decide) (by decide) (by decide) (by decide), h2, litI 0, eq_nI (by rcases hf with ⟨z, -⟩ | ⟨z, -⟩ <;> omega) (by omega)]
  refine ⟨by omega, ?_⟩
  have es2 : ∀ k, k ≠ 49 → k ≠ 77 → k ≠ 83 → k ≠ 84 → k ≠ 85 → aI (wI (wS σ1 77 (nI n)) 49 n 2) k = aI σ k := fun k k0 k1 k2 k3 k4 => by rw [aI_ne k0, es k k1 k2 k3 k4]
  rcases hf with ⟨rfl, rfl⟩ | ⟨rfl, bd, i, j, pl, nv, vs, L, O, r, rfl, rfl, f1, f2, f3, f4⟩
  · obtain ⟨g1, g2, g3⟩ := h8 rfl
    refine ⟨fun _ => a_goesTo_25 _ _ _ _ ?_, fun z => absurd rfl z⟩
    rw [vpn (by omega), cl_nI (by omega)]
    refine ⟨by omega, ?_⟩
    rintro s2 rfl
    refine ⟨fun z => absurd z (by decide), fun _ => ⟨2, by omega, ?_⟩⟩
    refine ac_start (p := p) (bd := sc) (a := kn) (arg := arg) (j2 := j2) (st := a0) (nv := nw) (s2 := 0) (m2 := 0) hn.1 hn.2 g1 ?_ (fun k hk => ?_) ?_ (by omega) ?_ t3 ?_ ?_ (by omega) (by omega) t4 (fun σ' ro vr => a_goesTo_53 _ _ _ _ ⟨rfl, q σ' ⟨σ1, hr, Or.inr ⟨rfl, ro⟩, vr⟩⟩)
    · rw [es2 59 (by decide) (by decide) (by decide) (by decide) (by decide)]; exact g2
    · rw [es2 59 (by decide) (by decide) (by decide) (by decide) (by decide)]; exact g3 k hk
    · rw [es2 50 (by decide) (by decide) (by decide) (by decide) (by decide)]; exact h3
    · rw [es2 20 (by decide) (by decide) (by decide) (by decide) (by decide), h5]; exact u1
    · rw [es2 51 (by decide) (by decide) (by decide) (by decide) (by decide)]; exact h4
    · rw [es2 23 (by decide) (by decide) (by decide) (by decide) (by decide), h6]; exact u3
  · refine ⟨fun z => absurd z (by decide), fun _ => a_goesTo_25 _ _ _ _ ?_⟩
    rw [vpn (by omega), cl_nI (by omega)]
    refine ⟨by omega, ?_⟩
    rintro s2 rfl
    refine ⟨fun _ => ⟨0, by omega, ?_⟩, fun z => absurd rfl z⟩
    have vr2 : VR (wI (wS σ1 77 (nI n)) 49 n 2) n p ((bd, i, j, pl, nv, vs, L, O, 1, 1) :: r) := (h7 rfl).cg1 (fun k k1 k2 => es2 k (by omega) (by omega) (by omega) (by omega) (by omega))
    exact ac_push (i' := i) (s' := 1) (md' := 0) vr2 f2 (by omega) (fun σ' ro vr => a_goesTo_53 _ _ _ _ ⟨rfl, q σ' ⟨σ1, hr, Or.inl ⟨rfl, ro⟩, vr⟩⟩)
end GIVES2
