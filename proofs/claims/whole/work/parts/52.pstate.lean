/-! THE PARSERS SIDE BY SIDE: the state of both -/
abbrev pC (κ : Km) : Nat := (kI κ 72 6).toNatClampNeg
abbrev oC (κ : Km) : Nat := (kI κ 77 4).toNatClampNeg
abbrev iC (κ : Km) : Nat := (kI κ 68 2).toNatClampNeg
abbrev rJ (σ : Rm) : Nat := (sI σ 17).toNatClampNeg
abbrev rT (σ : Rm) : Nat := (sI σ 29).toNatClampNeg
abbrev rC (σ : Rm) : Nat := (sI σ 34).toNatClampNeg
abbrev rU (σ : Rm) : Nat := (sI σ 44).toNatClampNeg
abbrev rA (σ : Rm) : Nat := (sI σ 41).toNatClampNeg
abbrev rV (σ : Rm) : Nat := (sI σ 25).toNatClampNeg
abbrev rK (σ : Rm) : Nat := (sI σ 35).toNatClampNeg
abbrev rE (σ : Rm) : Nat := (sI σ 36).toNatClampNeg
/-- variables of a body of the class -/
abbrev cV (κ : Km) (b : Nat) : Nat := (kI κ (1000 + 8 * b) 5).toNatClampNeg
/-- a fault as a number: 5000 none -/
def fN (x : Int32) : Nat := if x < 0 then 5000 else x.toNatClampNeg
/-- the place of a token -/
abbrev plT (κ : Km) (t : Nat) : Nat := (kI κ 75 t).toNatClampNeg
/-- the place of the 13th name -/
def q13 (κ : Km) (D : List Nat) : Nat := match D[12]? with
  | some t => plT κ t
  | none => 5000
/-- the names of a body: E the reference's (4000: called as one before it), D the different ones, P what is wrong with names of earlier bodies -/
def NF (κ : Km) (σ : Rm) (b P : Nat) : Prop := ∃ E D : List Nat, D = E.filter (fun t => t < 4000) ∧ (∀ t, t ∈ D → t ≤ pC κ ∧ kI κ 74 t = 2) ∧ D.Pairwise (fun s t => s < t ∧ aL σ 9 s ≠ aL σ 9 t) ∧
  kI κ (1000 + 8 * b) 5 = nI (min 12 D.length) ∧ kW κ (1001 + 8 * b) = 12 ∧ (∀ v t, v < 12 → D[v]? = some t → kL κ (1001 + 8 * b) v = kL κ 76 t) ∧
  kI κ (1000 + 8 * b) 8 = (match D[12]? with | some t => kI κ 75 t | none => -9) ∧
  sI σ 25 = nI E.length ∧ E.length < 1600 ∧ (∀ (v t : Nat), E[v]? = some t → aL σ 24 v = if t < 4000 then aL σ 9 t else 0) ∧
  (kI κ 67 3 = -9 ∨ ∃ f, f < 3001 ∧ kI κ 67 3 = nI f) ∧ (sI σ 37 = -9 ∨ ∃ f, f < 3001 ∧ sI σ 37 = nI f) ∧
  fN (sI σ 37) = min (min (fN (kI κ 67 3)) P) (q13 κ D) ∧ (E.length ≠ D.length → ∃ t, t ≤ pC κ ∧ fN (kI κ 67 3) ≤ plT κ t)
/-- what lasts while expressions are read -/
def PA (κ : Km) (σ : Rm) (N b P : Nat) : Prop := TkA κ σ N ∧ kC κ = 1000 + 8 * b ∧ b < kB κ ∧ b < 12 ∧ NF κ σ b P
/-- the numbers -/
def PB (κ : Km) (σ : Rm) (N : Nat) : Prop := kI κ 72 6 = nI (pC κ) ∧ kI κ 72 7 = kI κ 74 (pC κ) ∧ kI κ 72 8 = kI κ 75 (pC κ) ∧ sI σ 10 = nI (pC κ) ∧ pC κ ≤ N ∧
  kI κ 77 4 = nI (oC κ) ∧ sI σ 12 = nI (oC κ) ∧ oC κ ≤ 24 ∧ kI κ 68 2 = nI (iC κ) ∧ (∃ w, kW κ 69 = w ∧ kW κ 70 = w ∧ iC κ ≤ w ∧ 128 ≤ w ∧ w ≤ 20000) ∧
  sI σ 17 = nI (rJ σ) ∧ sI σ 29 = nI (rT σ) ∧ sI σ 34 = nI (rC σ) ∧ sI σ 44 = nI (rU σ) ∧ sI σ 41 = nI (rA σ) ∧ sI σ 35 = nI (rK σ) ∧ sI σ 36 = nI (rE σ)
/-- how far the rows have come: bounds by the tokens -/
def Bdd (κ : Km) (σ : Rm) : Prop := iC κ ≤ 3 * pC κ + 1 ∧ rJ σ ≤ 3 * pC κ + 1 ∧ 2 * rU σ ≤ pC κ ∧ 2 * rA σ ≤ pC κ ∧ 6 * rT σ ≤ pC κ + 5 * oC κ ∧ 4 * rC σ ≤ pC κ + 3 * oC κ ∧ 2 * rV σ ≤ pC κ
/-- handles and fields that reading changes -/
abbrev hE (h : Nat) : Prop := h = 72 ∨ h = 77 ∨ h = 68 ∨ h = 69 ∨ h = 70
abbrev hP (b h : Nat) : Prop := hE h ∨ h = 1000 + 8 * b ∨ h = 1001 + 8 * b ∨ h = 67
abbrev qE (k : Nat) : Prop := k = 0 ∨ k = 10 ∨ (12 ≤ k ∧ k ≤ 17) ∨ (27 ≤ k ∧ k ≤ 36) ∨ (38 ≤ k ∧ k ≤ 45)
abbrev qP (k : Nat) : Prop := qE k ∨ k = 24 ∨ k = 25 ∨ (27 ≤ k ∧ k ≤ 37) ∨ k = 45
/-- the rows of both are only added to -/
def Tw (κ : Km) (σ : Rm) (κ' : Km) (σ' : Rm) : Prop := iC κ ≤ iC κ' ∧ rJ σ ≤ rJ σ' ∧ rT σ ≤ rT σ' ∧ rC σ ≤ rC σ' ∧ rU σ ≤ rU σ' ∧ rA σ ≤ rA σ' ∧
  (∀ k, k < iC κ → kI κ' 69 k = kI κ 69 k ∧ kI κ' 70 k = kI κ 70 k) ∧ (∀ q, q < rJ σ → aI σ' 13 q = aI σ 13 q ∧ aI σ' 14 q = aI σ 14 q ∧ aI σ' 15 q = aI σ 15 q ∧ aI σ' 16 q = aI σ 16 q) ∧
  (∀ u, u < rU σ → aI σ' 42 u = aI σ 42 u ∧ aI σ' 43 u = aI σ 43 u) ∧ (∀ u, u < rA σ → aI σ' 38 u = aI σ 38 u ∧ aI σ' 39 u = aI σ 39 u ∧ aI σ' 40 u = aI σ 40 u) ∧
  (∀ t, t < rT σ → aI σ' 27 t = aI σ 27 t ∧ aI σ' 28 t = aI σ 28 t) ∧ (∀ c, c < rC σ → aI σ' 30 c = aI σ 30 c ∧ aI σ' 31 c = aI σ 31 c ∧ aI σ' 32 c = aI σ 32 c ∧ aI σ' 33 c = aI σ 33 c ∧ aI σ' 45 c = aI σ 45 c)
/-- names are only added -/
def Tn (b : Nat) (κ : Km) (σ : Rm) (κ' : Km) (σ' : Rm) : Prop := cV κ b ≤ cV κ' b ∧ cV κ' b + rV σ ≤ cV κ b + rV σ' ∧ (∀ v, v < cV κ b → kL κ' (1001 + 8 * b) v = kL κ (1001 + 8 * b) v) ∧ rV σ ≤ rV σ' ∧ (∀ v, v < rV σ → aL σ' 24 v = aL σ 24 v) ∧ kI κ' 77 5 = kI κ 77 5
def Tf (b : Nat) (κ κ' : Km) : Prop := KF (hP b) κ κ' ∧ RG κ κ' ∧ kI κ' 72 5 = kI κ 72 5 ∧ kI κ' 67 = kI κ 67 ∧ (∀ k, k ≠ 5 → k ≠ 8 → kI κ' (1000 + 8 * b) k = kI κ (1000 + 8 * b) k) ∧ kL κ' (1000 + 8 * b) = kL κ (1000 + 8 * b) ∧ kW κ' (1001 + 8 * b) = kW κ (1001 + 8 * b)
def Tr (b : Nat) (κ : Km) (σ : Rm) (κ' : Km) (σ' : Rm) : Prop := Tf b κ κ' ∧ AF qP σ σ' ∧ Tw κ σ κ' σ' ∧ Tn b κ σ κ' σ'
theorem Tw.refl {κ : Km} {σ : Rm} : Tw κ σ κ σ := ⟨Nat.le_refl _, Nat.le_refl _, Nat.le_refl _, Nat.le_refl _, Nat.le_refl _, Nat.le_refl _, fun _ _ => ⟨rfl, rfl⟩, fun _ _ => ⟨rfl, rfl, rfl, rfl⟩, fun _ _ => ⟨rfl, rfl⟩, fun _ _ => ⟨rfl, rfl, rfl⟩, fun _ _ => ⟨rfl, rfl⟩, fun _ _ => ⟨rfl, rfl, rfl, rfl, rfl⟩⟩
theorem Tw.trans {κ κ1 κ2 : Km} {σ σ1 σ2 : Rm} (a : Tw κ σ κ1 σ1) (b : Tw κ1 σ1 κ2 σ2) : Tw κ σ κ2 σ2 := by
  obtain ⟨a1, a2, a3, a4, a5, a6, a7, a8, a9, a10, a11, a12⟩ := a
  obtain ⟨b1, b2, b3, b4, b5, b6, b7, b8, b9, b10, b11, b12⟩ := b
  refine ⟨Nat.le_trans a1 b1, Nat.le_trans a2 b2, Nat.le_trans a3 b3, Nat.le_trans a4 b4, Nat.le_trans a5 b5, Nat.le_trans a6 b6, fun k hk => ?_, fun k hk => ?_, fun k hk => ?_, fun k hk => ?_, fun k hk => ?_, fun k hk => ?_⟩
  · have x := a7 k hk
    have y := b7 k (Nat.lt_of_lt_of_le hk a1)
    exact ⟨y.1.trans x.1, y.2.trans x.2⟩
  · have x := a8 k hk
    have y := b8 k (Nat.lt_of_lt_of_le hk a2)
    exact ⟨y.1.trans x.1, y.2.1.trans x.2.1, y.2.2.1.trans x.2.2.1, y.2.2.2.trans x.2.2.2⟩
  · have x := a9 k hk
    have y := b9 k (Nat.lt_of_lt_of_le hk a5)
    exact ⟨y.1.trans x.1, y.2.trans x.2⟩
  · have x := a10 k hk
    have y := b10 k (Nat.lt_of_lt_of_le hk a6)
    exact ⟨y.1.trans x.1, y.2.1.trans x.2.1, y.2.2.trans x.2.2⟩
  · have x := a11 k hk
    have y := b11 k (Nat.lt_of_lt_of_le hk a3)
    exact ⟨y.1.trans x.1, y.2.trans x.2⟩
  · have x := a12 k hk
    have y := b12 k (Nat.lt_of_lt_of_le hk a4)
    exact ⟨y.1.trans x.1, y.2.1.trans x.2.1, y.2.2.1.trans x.2.2.1, y.2.2.2.1.trans x.2.2.2.1, y.2.2.2.2.trans x.2.2.2.2⟩
theorem Tn.refl {b : Nat} {κ : Km} {σ : Rm} : Tn b κ σ κ σ := ⟨Nat.le_refl _, Nat.le_refl _, fun _ _ => rfl, Nat.le_refl _, fun _ _ => rfl, rfl⟩
theorem Tn.trans {b : Nat} {κ κ1 κ2 : Km} {σ σ1 σ2 : Rm} (x : Tn b κ σ κ1 σ1) (y : Tn b κ1 σ1 κ2 σ2) : Tn b κ σ κ2 σ2 := by
  obtain ⟨x1, x2, x3, x4, x5, x6⟩ := x
  obtain ⟨y1, y2, y3, y4, y5, y6⟩ := y
  exact ⟨Nat.le_trans x1 y1, by omega, fun v hv => (y3 v (Nat.lt_of_lt_of_le hv x1)).trans (x3 v hv), Nat.le_trans x4 y4, fun v hv => (y5 v (Nat.lt_of_lt_of_le hv x4)).trans (x5 v hv), y6.trans x6⟩
theorem Tf.refl {b : Nat} {κ : Km} : Tf b κ κ := ⟨KF.refl, RG.refl, rfl, rfl, fun _ _ _ => rfl, rfl, rfl⟩
theorem Tf.trans {b : Nat} {κ κ1 κ2 : Km} (x : Tf b κ κ1) (y : Tf b κ1 κ2) : Tf b κ κ2 := ⟨x.1.trans y.1, x.2.1.trans y.2.1, y.2.2.1.trans x.2.2.1, y.2.2.2.1.trans x.2.2.2.1, fun k h1 h2 => (y.2.2.2.2.1 k h1 h2).trans (x.2.2.2.2.1 k h1 h2), y.2.2.2.2.2.1.trans x.2.2.2.2.2.1, y.2.2.2.2.2.2.trans x.2.2.2.2.2.2⟩
theorem Tr.refl {b : Nat} {κ : Km} {σ : Rm} : Tr b κ σ κ σ := ⟨Tf.refl, AF.refl, Tw.refl, Tn.refl⟩
theorem Tr.trans {b : Nat} {κ κ1 κ2 : Km} {σ σ1 σ2 : Rm} (x : Tr b κ σ κ1 σ1) (y : Tr b κ1 σ1 κ2 σ2) : Tr b κ σ κ2 σ2 := ⟨x.1.trans y.1, x.2.1.trans y.2.1, x.2.2.1.trans y.2.2.1, x.2.2.2.trans y.2.2.2⟩
/-- tokens stay -/
theorem TkA.fr {κ κ' : Km} {σ σ' : Rm} {N : Nat} (h : TkA κ σ N) (e1 : kI κ' 74 = kI κ 74) (e2 : kI κ' 75 = kI κ 75) (e3 : kL κ' 76 = kL κ 76) (e4 : kW κ' 74 = kW κ 74 ∧ kW κ' 75 = kW κ 75 ∧ kW κ' 76 = kW κ 76) (e5 : kI κ' 72 5 = kI κ 72 5) (f5 : aI σ' 5 = aI σ 5) (f6 : aI σ' 6 = aI σ 6) (f7 : aI σ' 7 = aI σ 7) (f8 : aI σ' 8 = aI σ 8) (f9 : aL σ' 9 = aL σ 9) : TkA κ' σ' N := by
  obtain ⟨h1, h2, h3, h4, h5, m, h6, h7, h8⟩ := h
  have c : ∀ k, TkR κ σ k → TkR κ' σ' k := fun k hk => hk.cong ⟨by rw [e1], by rw [e2], by rw [e3]⟩ ⟨by rw [f5], by rw [f6], by rw [f7], by rw [f8], by rw [f9]⟩
  refine ⟨fun k hk => ?_, c N h2, by rw [e1]; exact h3, h4, h5.cong (fun k _ => by rw [e2]), m, h6, h7, ?_⟩
  · obtain ⟨a1, a2, a3⟩ := h1 k hk
    exact ⟨c k a1, by rw [e1]; exact a2, by rw [e1]; exact a3⟩
  · obtain ⟨w, g1, g2, g3, g4, g5, g6, g7⟩ := h8
    exact ⟨w, by rw [e5]; exact g1, g2, g3, g4, e4.1.trans g5, e4.2.1.trans g6, e4.2.2.trans g7⟩
theorem NF.fr {κ κ' : Km} {σ σ' : Rm} {b P : Nat} (hb : b < 12) (h : NF κ σ b P) (f : KF hE κ κ') (g : AF qE σ σ') (hp : pC κ ≤ pC κ') : NF κ' σ' b P := by
  obtain ⟨E, D, h1, h2, h3, h4, h5, h6, h7, h8, hE, h9, h10, h11, h12, h13⟩ := h
  have n1 : ¬ (1000 + 8 * b = 72 ∨ 1000 + 8 * b = 77 ∨ 1000 + 8 * b = 68 ∨ 1000 + 8 * b = 69 ∨ 1000 + 8 * b = 70) := by omega
  have n2 : ¬ (1001 + 8 * b = 72 ∨ 1001 + 8 * b = 77 ∨ 1001 + 8 * b = 68 ∨ 1001 + 8 * b = 69 ∨ 1001 + 8 * b = 70) := by omega
  have e1 := (f.1 _ n1).1
  have e2 := (f.1 _ n2).2
  have e74 := (f.1 74 (by decide)).1
  have e75 := (f.1 75 (by decide)).1
  have e76 := (f.1 76 (by decide)).2.1
  have e67 := (f.1 67 (by decide)).1
  have s25 : sI σ' 25 = sI σ 25 := congrFun (g 25 (by decide)).1 0
  have s37 : sI σ' 37 = sI σ 37 := congrFun (g 37 (by decide)).1 0
  have g24 := (g 24 (by decide)).2
  have g9 := (g 9 (by decide)).2
  have ep : ∀ t, plT κ' t = plT κ t := fun t => by unfold plT; rw [e75]
  have eq13 : q13 κ' D = q13 κ D := by unfold q13; cases D[12]? <;> first | rfl | exact ep _
  refine ⟨E, D, h1, fun t ht => ⟨Nat.le_trans (h2 t ht).1 hp, by rw [e74]; exact (h2 t ht).2⟩, ?_, by rw [e1]; exact h4, by rw [e2.2]; exact h5, fun v t hv hd => by rw [e2.1, e76]; exact h6 v t hv hd, by rw [e1, e75]; exact h7, by rw [s25]; exact h8, hE, fun v t hd => by rw [g24, g9]; exact h9 v t hd, by rw [e67]; exact h10, by rw [s37]; exact h11, by rw [s37, e67, eq13]; exact h12, fun hne => ?_⟩
  · rw [g9]; exact h3
  · obtain ⟨t, t1, t2⟩ := h13 hne
    exact ⟨t, Nat.le_trans t1 hp, by rw [e67, ep]; exact t2⟩
theorem PA.fr {κ κ' : Km} {σ σ' : Rm} {N b P : Nat} (h : PA κ σ N b P) (f : KF hE κ κ') (e5 : kI κ' 72 5 = kI κ 72 5) (g : AF qE σ σ') (hp : pC κ ≤ pC κ') : PA κ' σ' N b P := by
  obtain ⟨h1, h2, h3, h4, h5⟩ := h
  have e74 := f.1 74 (by decide)
  have e75 := f.1 75 (by decide)
  have e76 := f.1 76 (by decide)
  exact ⟨h1.fr e74.1 e75.1 e76.2.1 ⟨e74.2.2, e75.2.2, e76.2.2⟩ e5 (g 5 (by decide)).1 (g 6 (by decide)).1 (g 7 (by decide)).1 (g 8 (by decide)).1 (g 9 (by decide)).2, by rw [f.2.1]; exact h2, by rw [f.2.2.1]; exact h3, h4, h5.fr h4 f g hp⟩
/-- names are as they were -/
theorem Tn.fr {κ κ' : Km} {σ σ' : Rm} {b : Nat} (hb : b < 12) (f : KF hE κ κ') (g : AF qE σ σ') (e77 : kI κ' 77 5 = kI κ 77 5) : Tn b κ σ κ' σ' := by
  have n1 : ¬ (1000 + 8 * b = 72 ∨ 1000 + 8 * b = 77 ∨ 1000 + 8 * b = 68 ∨ 1000 + 8 * b = 69 ∨ 1000 + 8 * b = 70) := by omega
  have n2 : ¬ (1001 + 8 * b = 72 ∨ 1001 + 8 * b = 77 ∨ 1001 + 8 * b = 68 ∨ 1001 + 8 * b = 69 ∨ 1001 + 8 * b = 70) := by omega
  have e1 := (f.1 _ n1).1
  have e2 := (f.1 _ n2).2.1
  have s25 : sI σ' 25 = sI σ 25 := congrFun (g 25 (by decide)).1 0
  have a24 : aL σ' 24 = aL σ 24 := (g 24 (by decide)).2
  unfold Tn cV rV
  rw [e1, e2, s25, a24]
  exact ⟨Nat.le_refl _, Nat.le_refl _, fun _ _ => rfl, Nat.le_refl _, fun _ _ => rfl, e77⟩
theorem Tf.fr {κ κ' : Km} {b : Nat} (hb : b < 12) (f : KF hE κ κ') (r : RG κ κ') (e5 : kI κ' 72 5 = kI κ 72 5) : Tf b κ κ' := by
  have n1 : ¬ (1000 + 8 * b = 72 ∨ 1000 + 8 * b = 77 ∨ 1000 + 8 * b = 68 ∨ 1000 + 8 * b = 69 ∨ 1000 + 8 * b = 70) := by omega
  have e1 := f.1 _ n1
  exact ⟨f.weak (fun h hh => Or.inl hh), r, e5, by rw [(f.1 67 (by decide)).1], fun k _ _ => by rw [e1.1], e1.2.1, (f.1 (1001 + 8 * b) (by omega)).2.2⟩
