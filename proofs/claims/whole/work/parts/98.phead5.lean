/-! a body begins, both -/
section HD5
variable {X : Cx} {N b P : Nat} {κ κ1 κ2 κ' : Km} {σ σ1 σ2 σ' : Rm}
theorem KH.kf (h : KH b κ κ1) (k : KF (hB b) κ1 κ2) (r : RG κ1 κ2) (e5 : kI κ2 72 5 = kI κ1 72 5) (hw : kW κ2 (1001 + 8 * b) = kW κ1 (1001 + 8 * b)) : KH b κ κ2 := by
  obtain ⟨h1, h2, h3, h4, h5, h6, h7⟩ := h
  refine ⟨fun g hg => ?_, k.2.2.2.trans h2, h3.trans r, by rw [k.2.2.1]; exact h4, by rw [k.2.2.1]; exact h5, e5.trans h6, fun i hi => ?_⟩
  · have x := k.1 g hg
    have y := h1 g hg
    exact ⟨x.1.trans y.1, x.2.1.trans y.2.1, x.2.2.trans y.2.2⟩
  · rw [k.2.2.1] at hi
    by_cases c : i = b
    · rw [c, hw, ← c]; exact h7 i hi
    · rw [(k.1 (1001 + 8 * i) (by unfold hB; omega)).2.2]; exact h7 i hi
/-- a body of the class is begun -/
def bg (b : Nat) (κ : Km) (x1 : Int32) (v : Int64) (pl sz : Int32) : Km := cI (cI (cI (cI (cI (cI (cL (cI κ (1000 + 8 * b) 2 x1) (1000 + 8 * b) 1 v) (1000 + 8 * b) 3 pl) (1000 + 8 * b) 4 0) (1000 + 8 * b) 5 0) (1000 + 8 * b) 6 sz) (1000 + 8 * b) 7 sz) (1000 + 8 * b) 8 (-9)
theorem kc_begin {F : Km → Prop} {x1 pl sz : Int32} {v : Int64} (hb : b < kB κ) (hx : x1 = 0 ∨ x1 = 1) (q : F (bg b κ x1 v pl sz)) : KC' X 0 MX0_begin [vR (1000 + 8 * b), vI x1, vL v, vI pl, vI sz] κ (kRV F) := KC_of_K rfl (Nat.le_of_ble_eq_true rfl) rfl (k_0_begin_0 _ _ _ _ _ ⟨isH_body hb, hx, by
  rintro κ3 rfl κ4 rfl κ5 rfl κ6 rfl κ7 rfl κ8 rfl κ9 rfl κ10 rfl
  exact ⟨rfl, q⟩⟩)
theorem bg_kf {x1 pl sz : Int32} {v : Int64} : KF (hB b) κ (bg b κ x1 v pl sz) ∧ RG κ (bg b κ x1 v pl sz) := by
  have w : hB b (1000 + 8 * b) := Or.inr (Or.inr (Or.inr (Or.inl rfl)))
  exact ⟨(((((((KF.cI w).trans (KF.cL w)).trans (KF.cI w)).trans (KF.cI w)).trans (KF.cI w)).trans (KF.cI w)).trans (KF.cI w)).trans (KF.cI w), ((((((RG.cI.trans RG.cL).trans RG.cI).trans RG.cI).trans RG.cI).trans RG.cI).trans RG.cI).trans RG.cI⟩
theorem bg_at {x1 pl sz : Int32} {v : Int64} : kI (bg b κ x1 v pl sz) (1000 + 8 * b) 2 = x1 ∧ kI (bg b κ x1 v pl sz) (1000 + 8 * b) 3 = pl ∧ kI (bg b κ x1 v pl sz) (1000 + 8 * b) 4 = 0 ∧ kI (bg b κ x1 v pl sz) (1000 + 8 * b) 5 = 0 ∧ kI (bg b κ x1 v pl sz) (1000 + 8 * b) 6 = sz ∧ kI (bg b κ x1 v pl sz) (1000 + 8 * b) 7 = sz ∧ kI (bg b κ x1 v pl sz) (1000 + 8 * b) 8 = -9 ∧ kL (bg b κ x1 v pl sz) (1000 + 8 * b) 1 = v := by
  unfold bg
  simp (disch := decide) only [kI_eq, kI_ne, kI_nk, kL_eq, kL_ne, kL_nk, aI_eq, aI_ne, aI_ni, sI_eq, sI_ne, aL_eq, aL_ne, aL_ni, aL_w, aI_w, sI_w, kI_w, kL_w, kW_i, kW_l, kB_i, kB_l, kV_i, kV_l, kC_i, kC_l, kI_c, kL_c, kW_c, kB_c, kC_c, and_self]
theorem bg_ne {x1 pl sz : Int32} {v : Int64} {g : Nat} (hg : g ≠ 1000 + 8 * b) : kI (bg b κ x1 v pl sz) g = kI κ g ∧ kL (bg b κ x1 v pl sz) g = kL κ g := by
  unfold bg
  refine ⟨?_, ?_⟩
  · rw [kI_ne hg, kI_ne hg, kI_ne hg, kI_ne hg, kI_ne hg, kI_ne hg]
    show kI (cI κ (1000 + 8 * b) 2 x1) g = _
    rw [kI_ne hg]
  · show kL (cL (cI κ (1000 + 8 * b) 2 x1) (1000 + 8 * b) 1 v) g = _
    rw [kL_ne hg]
    rfl
theorem setC_72 {p : Nat} (e72 : kI κ1 72 = kI κ2 72) (e74 : kI κ1 74 = kI κ2 74) (e75 : kI κ1 75 = kI κ2 75) : kI (setC κ1 p) 72 = kI (setC κ2 p) 72 := by
  funext k
  by_cases c8 : k = 8
  · rw [c8, setC_cur.2.2, setC_cur.2.2, setC_ne (by decide), setC_ne (by decide), e75]
  · by_cases c7 : k = 7
    · rw [c7, setC_cur.2.1, setC_cur.2.1, setC_ne (by decide), setC_ne (by decide), e74]
    · by_cases c6 : k = 6
      · rw [c6, setC_cur.1, setC_cur.1]
      · rw [setC_nk c6 c7 c8, setC_nk c6 c7 c8, e72]
/-- the rows of a body of the reference -/
def rw5 (b : Nat) (σ : Rm) (s f : Nat) (x : Int32) (key : Int64) : Rm := wS (wS (wS (wL (wS (wI (wI σ 19 b (nI s)) 22 b (nI f)) 37 x) 26 b key) 18 (nI (b + 1))) 25 0) 44 0
theorem rw5_s {s f k : Nat} {x : Int32} {key : Int64} (hk : k ≠ 18 ∧ k ≠ 19 ∧ k ≠ 22 ∧ k ≠ 25 ∧ k ≠ 37 ∧ k ≠ 44) : sI (rw5 b σ s f x key) k = sI σ k ∧ aI (rw5 b σ s f x key) k = aI σ k := by
  unfold rw5
  refine ⟨?_, ?_⟩
  · rw [sI_ne (by omega), sI_ne (by omega), sI_ne (by omega)]
    show sI (wS (wI (wI σ 19 b (nI s)) 22 b (nI f)) 37 x) k = _
    rw [sI_ne (by omega), sI_ne (by omega), sI_ne (by omega)]
  · rw [aI_ne (by omega), aI_ne (by omega), aI_ne (by omega)]
    show aI (wS (wI (wI σ 19 b (nI s)) 22 b (nI f)) 37 x) k = _
    rw [aI_ne (by omega), aI_ne (by omega), aI_ne (by omega)]
theorem rw5_l {s f k : Nat} {x : Int32} {key : Int64} (hk : k ≠ 26) : aL (rw5 b σ s f x key) k = aL σ k := by
  unfold rw5
  show aL (wL (wS (wI (wI σ 19 b (nI s)) 22 b (nI f)) 37 x) 26 b key) k = _
  rw [aL_ne hk]
  rfl
theorem rw5_at {s f : Nat} {x : Int32} {key : Int64} : sI (rw5 b σ s f x key) 18 = nI (b + 1) ∧ sI (rw5 b σ s f x key) 25 = 0 ∧ sI (rw5 b σ s f x key) 44 = 0 ∧ sI (rw5 b σ s f x key) 37 = x ∧ (∀ i, aI (rw5 b σ s f x key) 19 i = if i = b then nI s else aI σ 19 i) ∧ (∀ i, aI (rw5 b σ s f x key) 22 i = if i = b then nI f else aI σ 22 i) ∧ (∀ i, aL (rw5 b σ s f x key) 26 i = if i = b then key else aL σ 26 i) := by
  unfold rw5
  refine ⟨?_, ?_, ?_, ?_, fun i => ?_, fun i => ?_, fun i => ?_⟩
  · rw [sI_ne (by decide), sI_ne (by decide), sI_eq]
  · rw [sI_ne (by decide), sI_eq]
  · rw [sI_eq]
  · rw [sI_ne (by decide), sI_ne (by decide), sI_ne (by decide)]
    show sI (wS (wI (wI σ 19 b (nI s)) 22 b (nI f)) 37 x) 37 = _
    rw [sI_eq]
  · rw [aI_ne (by decide), aI_ne (by decide), aI_ne (by decide)]
    show aI (wS (wI (wI σ 19 b (nI s)) 22 b (nI f)) 37 x) 19 i = _
    rw [aI_ne (by decide), aI_ne (by decide)]
    by_cases c : i = b
    · rw [if_pos c, c, aI_eq]
    · rw [if_neg c, aI_ni c]
  · rw [aI_ne (by decide), aI_ne (by decide), aI_ne (by decide)]
    show aI (wS (wI (wI σ 19 b (nI s)) 22 b (nI f)) 37 x) 22 i = _
    rw [aI_ne (by decide)]
    by_cases c : i = b
    · rw [if_pos c, c, aI_eq]
    · rw [if_neg c, aI_ni c, aI_ne (by decide)]
  · show aL (wL (wS (wI (wI σ 19 b (nI s)) 22 b (nI f)) 37 x) 26 b key) 26 i = _
    by_cases c : i = b
    · rw [if_pos c, c, aL_eq]
    · rw [if_neg c, aL_ni c]
      rfl
/-- faults of names, between bodies -/
def Fw (κ : Km) (σ : Rm) (P : Nat) : Prop := (kI κ 67 3 = -9 ∨ ∃ f, f < 3001 ∧ kI κ 67 3 = nI f) ∧ (sI σ 37 = -9 ∨ ∃ f, f < 3001 ∧ sI σ 37 = nI f) ∧ fN (sI σ 37) = min (fN (kI κ 67 3)) P
/-- between two bodies -/
def BT (κ : Km) (σ : Rm) (N b P : Nat) : Prop := Pq κ σ N ∧ oC κ = 0 ∧ b ≤ 12 ∧ b ≤ kB κ ∧ kB κ ≤ 12 ∧ kI κ 67 2 = nI b ∧ sI σ 18 = nI b ∧ (∀ i, i < kB κ → kW κ (1001 + 8 * i) = 12) ∧ Fw κ σ P ∧ BN κ σ N b
/-- a fault in a head, from its first word on -/
def FltH (b : Nat) (κ : Km) (σ : Rm) (κ' : Km) (σ' : Rm) : Prop := (∃ x, x < 4000 ∧ kI κ' 77 5 = nI x ∧ aI σ' 0 6 = nI x ∧ NN σ') ∧ KH b κ κ' ∧ AF qB σ σ'
theorem FltB.h (k : KH b κ κ1) (a : AF qB σ σ1) (h : FltB b κ1 σ1 κ' σ') : FltH b κ σ κ' σ' := ⟨h.1, k.kf h.2.1 h.2.2.1 h.2.2.2.2.1 h.2.2.2.2.2, a.trans h.2.2.2.1⟩
end HD5
