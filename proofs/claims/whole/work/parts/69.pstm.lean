/-! statements: states, segments -/
section STM
variable {N b P : Nat} {κ κ1 κ2 κ' κ'' : Km} {σ σ1 σ2 σ' σ'' : Rm}
/-- what holds of both states, whatever was written -/
def T0 (b : Nat) (κ : Km) (σ : Rm) (κ' : Km) (σ' : Rm) : Prop := Tf b κ κ' ∧ AF qP σ σ' ∧ Tn b κ σ κ' σ' ∧ iC κ ≤ iC κ' ∧ rJ σ ≤ rJ σ' ∧ rT σ ≤ rT σ' ∧ rC σ ≤ rC σ' ∧ rU σ ≤ rU σ' ∧ rA σ ≤ rA σ'
theorem T0.refl : T0 b κ σ κ σ := ⟨Tf.refl, AF.refl, Tn.refl, Nat.le_refl _, Nat.le_refl _, Nat.le_refl _, Nat.le_refl _, Nat.le_refl _, Nat.le_refl _⟩
theorem T0.trans (x : T0 b κ σ κ1 σ1) (y : T0 b κ1 σ1 κ2 σ2) : T0 b κ σ κ2 σ2 := ⟨x.1.trans y.1, x.2.1.trans y.2.1, x.2.2.1.trans y.2.2.1, Nat.le_trans x.2.2.2.1 y.2.2.2.1, Nat.le_trans x.2.2.2.2.1 y.2.2.2.2.1, Nat.le_trans x.2.2.2.2.2.1 y.2.2.2.2.2.1, Nat.le_trans x.2.2.2.2.2.2.1 y.2.2.2.2.2.2.1, Nat.le_trans x.2.2.2.2.2.2.2.1 y.2.2.2.2.2.2.2.1, Nat.le_trans x.2.2.2.2.2.2.2.2 y.2.2.2.2.2.2.2.2⟩
theorem Tr.t0 (x : Tr b κ σ κ' σ') : T0 b κ σ κ' σ' := ⟨x.1, x.2.1, x.2.2.2, x.2.2.1.1, x.2.2.1.2.1, x.2.2.1.2.2.1, x.2.2.1.2.2.2.1, x.2.2.1.2.2.2.2.1, x.2.2.1.2.2.2.2.2.1⟩
/-- a segment's rows are still there -/
def Agr (κ1 : Km) (σ1 : Rm) (κ2 : Km) (σ2 : Rm) (κ' : Km) (σ' : Rm) : Prop :=
  (∀ k, iC κ1 ≤ k → k < iC κ2 → kI κ' 69 k = kI κ2 69 k ∧ kI κ' 70 k = kI κ2 70 k) ∧ (∀ q, rJ σ1 ≤ q → q < rJ σ2 → aI σ' 13 q = aI σ2 13 q ∧ aI σ' 14 q = aI σ2 14 q ∧ aI σ' 15 q = aI σ2 15 q ∧ aI σ' 16 q = aI σ2 16 q) ∧
  (∀ u, rU σ1 ≤ u → u < rU σ2 → aI σ' 42 u = aI σ2 42 u ∧ aI σ' 43 u = aI σ2 43 u) ∧ (∀ u, rA σ1 ≤ u → u < rA σ2 → aI σ' 38 u = aI σ2 38 u ∧ aI σ' 39 u = aI σ2 39 u ∧ aI σ' 40 u = aI σ2 40 u) ∧
  (∀ t, rT σ1 ≤ t → t < rT σ2 → aI σ' 27 t = aI σ2 27 t ∧ aI σ' 28 t = aI σ2 28 t) ∧ (∀ c, rC σ1 ≤ c → c < rC σ2 → aI σ' 30 c = aI σ2 30 c ∧ aI σ' 31 c = aI σ2 31 c ∧ aI σ' 32 c = aI σ2 32 c ∧ aI σ' 33 c = aI σ2 33 c ∧ aI σ' 45 c = aI σ2 45 c)
theorem Agr.refl : Agr κ1 σ1 κ2 σ2 κ2 σ2 := ⟨fun _ _ _ => ⟨rfl, rfl⟩, fun _ _ _ => ⟨rfl, rfl, rfl, rfl⟩, fun _ _ _ => ⟨rfl, rfl⟩, fun _ _ _ => ⟨rfl, rfl, rfl⟩, fun _ _ _ => ⟨rfl, rfl⟩, fun _ _ _ => ⟨rfl, rfl, rfl, rfl, rfl⟩⟩
theorem Agr.tw (h : Agr κ1 σ1 κ2 σ2 κ' σ') (t : Tw κ' σ' κ'' σ'') (t0 : T0 b κ2 σ2 κ' σ') : Agr κ1 σ1 κ2 σ2 κ'' σ'' := by
  obtain ⟨h1, h2, h3, h4, h5, h6⟩ := h
  obtain ⟨b1, b2, b3, b4, b5, b6, b7, b8, b9, b10, b11, b12⟩ := t
  obtain ⟨-, -, -, t1, t2, t3, t4, t5, t6⟩ := t0
  refine ⟨fun k l1 l2 => ?_, fun k l1 l2 => ?_, fun k l1 l2 => ?_, fun k l1 l2 => ?_, fun k l1 l2 => ?_, fun k l1 l2 => ?_⟩
  · have x := h1 k l1 l2
    have y := b7 k (Nat.lt_of_lt_of_le l2 t1)
    exact ⟨y.1.trans x.1, y.2.trans x.2⟩
  · have x := h2 k l1 l2
    have y := b8 k (Nat.lt_of_lt_of_le l2 t2)
    exact ⟨y.1.trans x.1, y.2.1.trans x.2.1, y.2.2.1.trans x.2.2.1, y.2.2.2.trans x.2.2.2⟩
  · have x := h3 k l1 l2
    have y := b9 k (Nat.lt_of_lt_of_le l2 t5)
    exact ⟨y.1.trans x.1, y.2.trans x.2⟩
  · have x := h4 k l1 l2
    have y := b10 k (Nat.lt_of_lt_of_le l2 t6)
    exact ⟨y.1.trans x.1, y.2.1.trans x.2.1, y.2.2.trans x.2.2⟩
  · have x := h5 k l1 l2
    have y := b11 k (Nat.lt_of_lt_of_le l2 t3)
    exact ⟨y.1.trans x.1, y.2.trans x.2⟩
  · have x := h6 k l1 l2
    have y := b12 k (Nat.lt_of_lt_of_le l2 t4)
    exact ⟨y.1.trans x.1, y.2.1.trans x.2.1, y.2.2.1.trans x.2.2.1, y.2.2.2.1.trans x.2.2.2.1, y.2.2.2.2.trans x.2.2.2.2⟩
theorem UsA.agr {v0 v1 : Nat} (h : UsA N κ2 σ2 (iC κ1) (iC κ2) (rJ σ1) (rJ σ2) (rU σ1) (rU σ2) (rA σ1) (rA σ2) v0 v1) (ag : Agr κ1 σ1 κ2 σ2 κ' σ') (t : T0 b κ2 σ2 κ' σ') (hv : v1 ≤ rV σ2) : UsA N κ' σ' (iC κ1) (iC κ2) (rJ σ1) (rJ σ2) (rU σ1) (rU σ2) (rA σ1) (rA σ2) v0 v1 :=
  h.rows (fun k l1 l2 => ⟨(ag.1 k l1 l2).1, fun _ => (ag.1 k l1 l2).2⟩) (fun q l1 l2 => (ag.2.1 q l1 l2).1) ag.2.2.1 ag.2.2.2.1 (fun v l => t.2.2.1.2.2.2.2.1 v (by omega)) (t.1.1.1 74 (by unfold hP hE; omega)).1 (t.2.1 9 (by decide)).2
/-- an argument of the class is patched -/
theorem Agr.pk {k : Nat} {v : Int32} (h : Agr κ1 σ1 κ2 σ2 κ' σ') (hk : k < iC κ1 ∨ iC κ2 ≤ k) : Agr κ1 σ1 κ2 σ2 (cI κ' 70 k v) σ' := by
  obtain ⟨h1, h2, h3, h4, h5, h6⟩ := h
  refine ⟨fun q l1 l2 => ?_, h2, h3, h4, h5, h6⟩
  rw [kI_ne (by decide), kI_nk (by omega)]
  exact h1 q l1 l2
/-- an argument of the reference is patched -/
theorem Agr.pr {k f : Nat} {v : Int32} (h : Agr κ1 σ1 κ2 σ2 κ' σ') (hf : f = 14 ∨ f = 16) (hk : k < rJ σ1 ∨ rJ σ2 ≤ k) : Agr κ1 σ1 κ2 σ2 κ' (wI σ' f k v) := by
  obtain ⟨h1, h2, h3, h4, h5, h6⟩ := h
  refine ⟨h1, fun q l1 l2 => ?_, fun u l1 l2 => ?_, fun u l1 l2 => ?_, fun u l1 l2 => ?_, fun u l1 l2 => ?_⟩
  · rw [aI_ni (by omega), aI_ni (by omega), aI_ni (by omega), aI_ni (by omega)]; exact h2 q l1 l2
  · rw [aI_ne (by omega), aI_ne (by omega)]; exact h3 u l1 l2
  · rw [aI_ne (by omega), aI_ne (by omega), aI_ne (by omega)]; exact h4 u l1 l2
  · rw [aI_ne (by omega), aI_ne (by omega)]; exact h5 u l1 l2
  · rw [aI_ne (by omega), aI_ne (by omega), aI_ne (by omega), aI_ne (by omega), aI_ne (by omega)]; exact h6 u l1 l2
/-- a number of the reference changes that no segment knows -/
theorem Agr.ps {f : Nat} {v : Int32} (h : Agr κ1 σ1 κ2 σ2 κ' σ') (hf : f = 10 ∨ f = 12 ∨ f = 35 ∨ f = 36) : Agr κ1 σ1 κ2 σ2 κ' (wS σ' f v) := by
  obtain ⟨h1, h2, h3, h4, h5, h6⟩ := h
  refine ⟨h1, fun q l1 l2 => ?_, fun u l1 l2 => ?_, fun u l1 l2 => ?_, fun u l1 l2 => ?_, fun u l1 l2 => ?_⟩
  · rw [aI_ne (by omega), aI_ne (by omega), aI_ne (by omega), aI_ne (by omega)]; exact h2 q l1 l2
  · rw [aI_ne (by omega), aI_ne (by omega)]; exact h3 u l1 l2
  · rw [aI_ne (by omega), aI_ne (by omega), aI_ne (by omega)]; exact h4 u l1 l2
  · rw [aI_ne (by omega), aI_ne (by omega)]; exact h5 u l1 l2
  · rw [aI_ne (by omega), aI_ne (by omega), aI_ne (by omega), aI_ne (by omega), aI_ne (by omega)]; exact h6 u l1 l2
/-- a segment inside a segment -/
theorem Ext.mid {κF : Km} {σF : Rm} {vr br : Nat → Nat → Prop} (h : Ext κF σF vr br b κ σ κ' σ') (t1 : T0 b κ σ κ1 σ1) (t2 : T0 b κ2 σ2 κ' σ') (ag : Agr κ1 σ1 κ2 σ2 κ' σ') (hc : ∀ c t, rC σ ≤ c → c < rC σ' → t < 1000 → aI σ' 45 c = nI t → rT σ1 ≤ t → t < rT σ2 → rC σ1 ≤ c ∧ c < rC σ2) (h1000 : rT σ2 ≤ 1000) (nf : cV κ2 b ≤ rV σ2) : Ext κF σF vr br b κ1 σ1 κ2 σ2 := by
  obtain ⟨h1, h2, h3, h4, h5, h6, h7, h8, h9⟩ := h
  obtain ⟨-, -, -, s1, s2, s3, s4, s5, s6⟩ := t1
  obtain ⟨tf, -, tn, e1, e2, e3, e4, e5, e6⟩ := t2
  obtain ⟨g1, g2, g3, g4, g5, g6⟩ := ag
  refine ⟨fun k l1 l2 => ?_, fun k l1 l2 => ?_, fun k l1 l2 => ?_, fun k l1 l2 => ?_, fun k l1 l2 => ?_, fun k l1 l2 => ?_, fun c t hc1 hs l1 l2 e => ?_, ?_, fun t v hv => ?_⟩
  · have e := g1 k l1 l2
    rw [← e.1, ← e.2]
    exact h1 k (by omega) (by omega)
  · have e := g2 k l1 l2
    rw [← e.1, ← e.2.1, ← e.2.2.1, ← e.2.2.2]
    exact h2 k (by omega) (by omega)
  · have e := g3 k l1 l2
    rw [← e.1, ← e.2]
    exact h3 k (by omega) (by omega)
  · have e := g4 k l1 l2
    rw [← e.1, ← e.2.1, ← e.2.2]
    exact h4 k (by omega) (by omega)
  · have e := g5 k l1 l2
    rw [← e.1, ← e.2]
    exact h5 k (by omega) (by omega)
  · have e := g6 k l1 l2
    rw [← e.1, ← e.2.1, ← e.2.2.1, ← e.2.2.2.1, ← e.2.2.2.2]
    exact h6 k (by omega) (by omega)
  · obtain ⟨c1, c2⟩ := h7 c t hc1 hs (by omega) (by omega) e
    exact hc c t c1 c2 (by omega) (by rw [← (h6 c c1 c2).2.2.2.2.1]; exact e) l1 l2
  · have := tn.2.1
    omega
  · exact h9 t v (hv.tn tn (tf.1.1 76 (by unfold hP hE; omega)).2.1)
/-- a segment of whole statements: l = 1 statements, 0 a block -/
def SS (b l : Nat) (κ : Km) (σ : Rm) (κ' : Km) (σ' : Rm) : Prop := ∀ (κF : Km) (σF : Rm) (vr br : Nat → Nat → Prop), Fnc σF vr br b → Ext κF σF vr br b κ σ κ' σ' → ∀ (A : Pt → Prop) (L : List Itm), ecn L = rE σ → ccn L = rK σ → L.length + l ≤ oC κ → GC κF σF A b L → (Good2 κF σF A (b, iC κ', rJ σ', L, 0, 0) → Good2 κF σF A (b, iC κ, rJ σ, L, 0, 0)) ∧ (Good1 κF σF A (b, iC κ', rJ σ', L, 0, 0) → Good1 κF σF A (b, iC κ, rJ σ, L, 0, 0))
theorem SS.one {l : Nat} (h : ∀ (κF : Km) (σF : Rm) (vr br : Nat → Nat → Prop), Fnc σF vr br b → Ext κF σF vr br b κ σ κ' σ' → ∀ (A : Pt → Prop) (L : List Itm), ecn L = rE σ → ccn L = rK σ → L.length + l ≤ oC κ → GC κF σF A b L → Good2 κF σF A (b, iC κ', rJ σ', L, 0, 0) → Good1 κF σF A (b, iC κ, rJ σ, L, 0, 0)) : SS b l κ σ κ' σ' := fun κF σF vr br hf he A L e1 e2 e3 hg => ⟨fun g => (h κF σF vr br hf he A L e1 e2 e3 hg g).two, fun g => h κF σF vr br hf he A L e1 e2 e3 hg g.two⟩
/-- how much statements add -/
def Ds (κ : Km) (σ : Rm) (κ' : Km) (σ' : Rm) : Prop := pC κ ≤ pC κ' ∧ iC κ' ≤ iC κ + 3 * (pC κ' - pC κ) ∧ rJ σ' ≤ rJ σ + 3 * (pC κ' - pC κ) ∧ 2 * rU σ' ≤ 2 * rU σ + (pC κ' - pC κ) ∧ 2 * rA σ' ≤ 2 * rA σ + (pC κ' - pC κ) ∧ 6 * rT σ' ≤ 6 * rT σ + (pC κ' - pC κ) ∧ 4 * rC σ' ≤ 4 * rC σ + (pC κ' - pC κ) ∧ 2 * rV σ' ≤ 2 * rV σ + (pC κ' - pC κ) ∧ oC κ' = oC κ ∧ rK σ' = rK σ ∧ rE σ' = rE σ
/-- both states, what was read between them -/
def ST (N b P l : Nat) (κ : Km) (σ : Rm) (κ' : Km) (σ' : Rm) : Prop := Ps κ' σ' N b P ∧ Tr b κ σ κ' σ' ∧ Ts N κ σ κ' σ' ∧ SS b l κ σ κ' σ' ∧ Ds κ σ κ' σ'
theorem ST.trans (x : ST N b P 1 κ σ κ1 σ1) (y : ST N b P 1 κ1 σ1 κ2 σ2) : ST N b P 1 κ σ κ2 σ2 := by
  obtain ⟨x1, x2, x3, x4, x5⟩ := x
  obtain ⟨y1, y2, y3, y4, y5⟩ := y
  refine ⟨y1, x2.trans y2, x3.trans y3 x2 y2, fun κF σF vr br hf he A L e1 e2 e3 hg => ?_, ?_⟩
  · have o := x5.2.2.2.2.2.2.2.2.1
    have k := x5.2.2.2.2.2.2.2.2.2.1
    have e := x5.2.2.2.2.2.2.2.2.2.2
    have u := x4 κF σF vr br hf (he.left x2 y2 x3.1 y3.1 x1.1.2.2.2.2.cv) A L e1 e2 e3 hg
    have w := y4 κF σF vr br hf (he.right x2 y2 x3.1 y3.1) A L (by omega) (by omega) (by omega) hg
    exact ⟨fun g => u.1 (w.1 g), fun g => u.2 (w.2 g)⟩
  · unfold Ds at x5 y5 ⊢
    omega
theorem ST.refl (h : Ps κ σ N b P) {l : Nat} : ST N b P l κ σ κ σ := ⟨h, Tr.refl, ⟨Tc.refl, UsA.nil⟩, fun _ _ _ _ _ _ _ _ _ _ _ _ => ⟨fun g => g, fun g => g⟩, by unfold Ds; omega⟩
/-- bounds ahead of a statement -/
def Bds (κ : Km) (σ : Rm) : Prop := Bdd κ σ ∧ iC κ ≤ 3 * pC κ ∧ rJ σ ≤ 3 * pC κ ∧ rE σ + rK σ + 1 ≤ oC κ
/-- bounds ahead of a block -/
def Bdb (κ : Km) (σ : Rm) : Prop := iC κ ≤ 3 * pC κ ∧ rJ σ ≤ 3 * pC κ ∧ 2 * rU σ ≤ pC κ ∧ 2 * rA σ ≤ pC κ ∧ 6 * rT σ ≤ pC κ + 5 * oC κ + 5 ∧ 4 * rC σ ≤ pC κ + 3 * oC κ + 3 ∧ 2 * rV σ ≤ pC κ ∧ rE σ + rK σ ≤ oC κ
abbrev dS (o : Nat) : Nat := 300 + 20 * (24 - o)
/-- what a block says -/
def SpB (X : Cx) (N b P m : Nat) : Prop := ∀ (κ : Km) (σ : Rm), Ps κ σ N b P → Bdb κ σ → N + 1 - pC κ ≤ m → Sim X (dS (oC κ)) (dS (oC κ)) MX5_readBlock MX13_readBlock [vR 77] [vR 92] κ σ (fun κ' σ' => ST N b P 0 κ σ κ' σ' ∧ pC κ + 2 ≤ pC κ' ∧ iC κ' + 6 ≤ iC κ + 3 * (pC κ' - pC κ) ∧ rJ σ' + 6 ≤ rJ σ + 3 * (pC κ' - pC κ) ∧ 6 * rT σ' + 2 ≤ 6 * rT σ + (pC κ' - pC κ) ∧ 4 * rC σ' + 2 ≤ 4 * rC σ + (pC κ' - pC κ)) (Flt b κ σ 9200)
end STM
