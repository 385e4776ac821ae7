/-! a body begins: the class's object, the reference's rows -/
section HD3
variable {X : Cx} {N b P : Nat} {κ κ1 κ2 κ' : Km} {σ σ1 σ2 σ' : Rm}
/-- the class between bodies: all but some handles are as they were -/
def KH (b : Nat) (κ κ' : Km) : Prop := (∀ h, ¬ hB b h → kI κ' h = kI κ h ∧ kL κ' h = kL κ h ∧ kW κ' h = kW κ h) ∧ kV κ' = kV κ ∧ RG κ κ' ∧ kB κ ≤ kB κ' ∧ kB κ' ≤ 12 ∧ kI κ' 72 5 = kI κ 72 5 ∧ (∀ i, i < kB κ' → kW κ' (1001 + 8 * i) = 12)
theorem KH.bf (h : KH b κ κ1) (t : BF b κ1 κ2) : KH b κ κ2 := by
  have hw := t.2.2.2.2.2.2.2.1
  obtain ⟨h1, h2, h3, h4, h5, h6, h7⟩ := h
  refine ⟨fun g hg => ?_, t.1.2.2.2.trans h2, h3.trans t.2.1, by rw [t.1.2.2.1]; exact h4, by rw [t.1.2.2.1]; exact h5, t.2.2.1.trans h6, fun i hi => ?_⟩
  · have x := t.1.1 g hg
    have y := h1 g hg
    exact ⟨x.1.trans y.1, x.2.1.trans y.2.1, x.2.2.trans y.2.2⟩
  · rw [t.1.2.2.1] at hi
    by_cases c : i = b
    · rw [c, hw, ← c]; exact h7 i hi
    · rw [(t.1.1 (1001 + 8 * i) (by unfold hB; omega)).2.2]; exact h7 i hi
theorem rg_new : RG κ (newB κ) := by
  have w : ∀ g, g ≠ 1001 + 8 * kB κ → kW (newB κ) g = kW κ g := fun g hg => if_neg hg
  have e1 : sumW (newB κ) 1003 61 = sumW κ 1003 61 := sumW_cong 61 (fun i _ => w _ (by omega))
  have e2 : sumW (newB κ) 1004 12 = sumW κ 1004 12 := sumW_cong 12 (fun i _ => w _ (by omega))
  have eP : Pot (newB κ) = Pot κ + 32 := by
    unfold Pot
    rw [e1, e2, w 69 (by omega), w 70 (by omega), w 74 (by omega), w 75 (by omega), w 76 (by omega), w 81 (by omega), w 83 (by omega), w 85 (by omega), show kV (newB κ) = kV κ from rfl, show kB (newB κ) = kB κ + 1 from rfl]
    omega
  have eZ : kZ (newB κ) = kZ κ + 9 + 12 := rfl
  have eT : kT (newB κ) = kT κ + 2 := rfl
  unfold RG
  rw [eP, eZ, eT]
  omega
/-- a body of the class, to be begun -/
def ab (b : Nat) (κ : Km) : Km := cC (cI (cL κ (1000 + 8 * b) 1 0) 67 2 (nI (b + 1))) (1000 + 8 * b)
theorem ab_kh (hb : b < 12) (hB12 : kB κ ≤ 12) (hw : ∀ i, i < kB κ → kW κ (1001 + 8 * i) = 12) (hc : (b < kB κ ∧ κ1 = κ) ∨ (b = kB κ ∧ κ1 = newB κ)) : KH b κ (ab b κ1) ∧ b < kB (ab b κ1) ∧ kC (ab b κ1) = 1000 + 8 * b ∧ kI (ab b κ1) 67 2 = nI (b + 1) ∧ kI (ab b κ1) 67 3 = kI κ 67 3 ∧ kI (ab b κ1) 72 = kI κ 72 ∧ kI (ab b κ1) 77 = kI κ 77 ∧ kL (ab b κ1) (1000 + 8 * b) 1 = 0 ∧ (∀ i, i ≠ b → kL (ab b κ1) (1000 + 8 * i) = kL κ (1000 + 8 * i)) := by
  have base : (∀ h, ¬ hB b h → kI κ1 h = kI κ h ∧ kL κ1 h = kL κ h ∧ kW κ1 h = kW κ h) ∧ kV κ1 = kV κ ∧ RG κ κ1 ∧ kB κ ≤ kB κ1 ∧ kB κ1 ≤ 12 ∧ b < kB κ1 ∧ kI κ1 67 = kI κ 67 ∧ kI κ1 72 = kI κ 72 ∧ kI κ1 77 = kI κ 77 ∧ (∀ i, i < kB κ1 → kW κ1 (1001 + 8 * i) = 12) := by
    rcases hc with ⟨c, rfl⟩ | ⟨c, rfl⟩
    · exact ⟨fun _ _ => ⟨rfl, rfl, rfl⟩, rfl, RG.refl, Nat.le_refl _, hB12, c, rfl, rfl, rfl, hw⟩
    · have kI' : ∀ g, g ≠ 1000 + 8 * kB κ → g ≠ 1001 + 8 * kB κ → kI (newB κ) g = kI κ g := fun g h1 h2 => by
        funext j
        exact if_neg (fun z => z.elim h1 h2)
      have kL' : ∀ g, g ≠ 1000 + 8 * kB κ → g ≠ 1001 + 8 * kB κ → kL (newB κ) g = kL κ g := fun g h1 h2 => by
        funext j
        exact if_neg (fun z => z.elim h1 h2)
      refine ⟨fun h hh => ⟨kI' h (fun z => hh (by unfold hB; omega)) (fun z => hh (by unfold hB; omega)), kL' h (fun z => hh (by unfold hB; omega)) (fun z => hh (by unfold hB; omega)), if_neg (fun z => hh (by unfold hB; omega))⟩, rfl, rg_new, Nat.le_succ _, ?_, ?_, kI' 67 (by omega) (by omega), kI' 72 (by omega) (by omega), kI' 77 (by omega) (by omega), fun i hi => ?_⟩
      · show kB κ + 1 ≤ 12
        omega
      · show b < kB κ + 1
        omega
      · have hi : i < kB κ + 1 := hi
        show (if 1001 + 8 * i = 1001 + 8 * kB κ then 12 else kW κ (1001 + 8 * i)) = 12
        by_cases e : i = kB κ
        · rw [if_pos (by omega)]
        · rw [if_neg (by omega)]; exact hw i (by omega)
  obtain ⟨g1, g2, g3, g4, g5, g6, g7, g8, g9, g10⟩ := base
  have eI : ∀ h, h ≠ 67 → kI (ab b κ1) h = kI κ1 h := fun h hh => by
    show kI (cI (cL κ1 (1000 + 8 * b) 1 0) 67 2 (nI (b + 1))) h = _
    rw [kI_ne hh]; rfl
  have eL : ∀ h, h ≠ 1000 + 8 * b → kL (ab b κ1) h = kL κ1 h := fun h hh => by
    show kL (cL κ1 (1000 + 8 * b) 1 0) h = _
    rw [kL_ne hh]
  refine ⟨⟨fun h hh => ?_, g2, g3.trans (RG.cL.trans (RG.cI.trans RG.cC)), g4, g5, ?_, g10⟩, g6, rfl, ?_, ?_, ?_, ?_, ?_, fun i hi => ?_⟩
  · have e := g1 h hh
    exact ⟨(eI h (fun z => hh (Or.inl z))).trans e.1, (eL h (fun z => hh (Or.inr (Or.inr (Or.inr (Or.inl z)))))).trans e.2.1, e.2.2⟩
  · rw [eI 72 (by decide), g8]
  · show kI (cI (cL κ1 (1000 + 8 * b) 1 0) 67 2 (nI (b + 1))) 67 2 = _
    exact kI_eq
  · show kI (cI (cL κ1 (1000 + 8 * b) 1 0) 67 2 (nI (b + 1))) 67 3 = _
    rw [kI_nk (by decide)]
    show kI κ1 67 3 = _
    rw [g7]
  · rw [eI 72 (by decide), g8]
  · rw [eI 77 (by decide), g9]
  · show kL (cL κ1 (1000 + 8 * b) 1 0) (1000 + 8 * b) 1 = _
    exact kL_eq
  · rw [eL _ (by omega)]
    exact (g1 (1000 + 8 * i) (by unfold hB; omega)).2.1
/-- a number is written twice, or as it is -/
theorem wS_wS {k : Nat} {x y : Int32} : wS (wS σ k x) k y = wS σ k y := by
  refine Prod.ext ?_ rfl
  funext j i
  show (if j = k ∧ i = 0 then y else if j = k ∧ i = 0 then x else σ.1 j i) = (if j = k ∧ i = 0 then y else σ.1 j i)
  by_cases c : j = k ∧ i = 0
  · rw [if_pos c, if_pos c]
  · rw [if_neg c, if_neg c, if_neg c]
theorem wS_self {k : Nat} : wS σ k (sI σ k) = σ := by
  refine Prod.ext ?_ rfl
  funext j i
  show (if j = k ∧ i = 0 then sI σ k else σ.1 j i) = σ.1 j i
  by_cases c : j = k ∧ i = 0
  · rw [if_pos c, c.1, c.2]; rfl
  · rw [if_neg c]
/-- names of bodies: each is a token's -/
def BN (κ : Km) (σ : Rm) (N b : Nat) : Prop := ∀ i, i < b → ∃ t, t ≤ N ∧ kI κ 74 t = 2 ∧ kL κ (1000 + 8 * i) 1 = kL κ 76 t ∧ aL σ 26 i = aL σ 9 t
/-- the reference looks for a body of the same name -/
theorem dup_loop {e t : Nat} {x1 : Int32} {Q : Res → Rm → Prop} {f : Nat} (ht : t < 3002) (hb : b < 12) (h6 : aI σ 6 t = nI f) (hf : f < 3001) (h37 : sI σ 37 = -9 ∨ ∃ g, g < 3001 ∧ sI σ 37 = nI g) (he : 1 ≤ e)
    (q : ∀ x, (x = -9 ∨ ∃ g, g < 3001 ∧ x = nI g) → fN x = (if ∃ k, k < b ∧ aL σ 26 k = aL σ 9 t then min (fN (sI σ 37)) f else fN (sI σ 37)) → A X 92 e MX13_readBody 97 [(0, vR 92), (1, vI x1), (2, vI (nI t)), (3, vI (nI b)), (4, vI (nI b))] [] (wS σ 37 x) Q) : ∀ (m i : Nat) (x : Int32), i + m = b → (x = -9 ∨ ∃ g, g < 3001 ∧ x = nI g) → fN x = (if ∃ k, k < i ∧ aL σ 26 k = aL σ 9 t then min (fN (sI σ 37)) f else fN (sI σ 37)) → A X 92 e MX13_readBody 97 [(0, vR 92), (1, vI x1), (2, vI (nI t)), (3, vI (nI b)), (4, vI (nI i))] [] (wS σ 37 x) Q := by
  intro m
  induction m with
  | zero =>
    intro i x hi hx hfx
    have e : i = b := by omega
    subst e
    exact q x hx hfx
  | succ m ih =>
    intro i x hi hx hfx
    refine a_readBody_97 _ _ _ _ ?_
    rw [le_nI (by omega) (by omega)]
    refine ⟨fun z => absurd z (by omega), fun _ => ?_⟩
    rw [vpn (by omega), vpn (by omega), cl_nI (by omega), cl_nI (by omega), lg0]
    refine ⟨by omega, by omega, fun c => ⟨0, by omega, ac_blame ht (a_readBody_125 _ _ _ _ ?_)⟩, fun c => a_readBody_125 _ _ _ _ ?_⟩
    · have c' : aL σ 26 i = aL σ 9 t := c
      rw [nI_1]
      have b1 := bl_fN (σ := wS σ 37 x) (t := t) (f := f) (by rw [aI_ne (by decide)]; exact h6) hf (by rw [sI_eq]; exact hx)
      rw [sI_eq] at b1
      have eb : bl (wS σ 37 x) t = wS σ 37 (sI (bl (wS σ 37 x) t) 37) := by
        unfold bl
        rw [sI_eq, sI_eq, wS_wS]
      rw [eb]
      refine ih (i + 1) _ (by omega) (Or.inr b1.2) ?_
      rw [b1.1, if_pos ⟨i, by omega, c'⟩, hfx]
      by_cases z : ∃ k, k < i ∧ aL σ 26 k = aL σ 9 t
      · rw [if_pos z]; omega
      · rw [if_neg z]
    · have c' : ¬ aL σ 26 i = aL σ 9 t := c
      rw [nI_1]
      refine ih (i + 1) x (by omega) hx ?_
      rw [hfx]
      by_cases z : ∃ k, k < i ∧ aL σ 26 k = aL σ 9 t
      · obtain ⟨k, k1, k2⟩ := z
        rw [if_pos ⟨k, k1, k2⟩, if_pos ⟨k, by omega, k2⟩]
      · rw [if_neg z, if_neg (fun ⟨k, k1, k2⟩ => by
          by_cases ek : k = i
          · rw [ek] at k2; exact c' k2
          · exact z ⟨k, by omega, k2⟩)]
end HD3
