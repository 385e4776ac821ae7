/-! names are declared -/
section NAMES
variable {X : Cx} {N b P : Nat} {κ : Km} {σ : Rm}
/-- the first of n places where a name stands; none -/
def FstK (κ : Km) (h n : Nat) (v : Int64) (y : Int32) : Prop := (∃ i, i < n ∧ y = nI i ∧ kL κ h i = v ∧ ∀ u, u < i → kL κ h u ≠ v) ∨ (y = -9 ∧ ∀ u, u < n → kL κ h u ≠ v)
theorem fd_loop {F : Int32 → Km → Prop} {h n d : Nat} {v : Int64} (ho : isH κ h 0) (ho2 : isH κ (h + 1) 22) (hn : kI κ h 5 = nI n) (h12 : n ≤ 12) (hw : kW κ (h + 1) = 12) (q : ∀ y, FstK κ (h + 1) n v y → F y κ) : ∀ (m i : Nat), i + m = n → (∀ u, u < i → kL κ (h + 1) u ≠ v) → K X d MX0_find 2 [(0, vR h), (1, vL v), (3, vI (nI i))] [] κ (kRI F) := by
  intro m
  induction m with
  | zero =>
    intro i hi hu
    refine k_0_find_2 _ _ _ ⟨ho, ?_⟩
    rw [hn, le_nI (by omega) (by omega)]
    exact ⟨fun _ => k_0_find_35 _ _ _ ⟨_, rfl, q _ (Or.inr ⟨rfl, fun u hu' => hu u (by omega)⟩)⟩, fun z => absurd (by omega) z⟩
  | succ m ih =>
    intro i hi hu
    refine k_0_find_2 _ _ _ ⟨ho, ?_⟩
    rw [hn, le_nI (by omega) (by omega)]
    refine ⟨fun z => absurd z (by omega), fun _ => ⟨fun z => absurd z (nI_ge (b := 12) (by omega) (by omega)), fun _ => ⟨ho2, ?_⟩⟩⟩
    rw [hw, vpn (by omega), cl_nI (by omega), lg0]
    refine ⟨by omega, fun c => ⟨_, rfl, q _ (Or.inl ⟨i, by omega, rfl, c, hu⟩)⟩, fun c => ?_⟩
    rw [nI_1]
    refine ih (i + 1) (by omega) (fun u hu' => ?_)
    by_cases e : u = i
    · rw [e]; exact c
    · exact hu u (by omega)
theorem kc_find {F : Int32 → Km → Prop} {h n : Nat} {v : Int64} (ho : isH κ h 0) (ho2 : isH κ (h + 1) 22) (hn : kI κ h 5 = nI n) (h12 : n ≤ 12) (hw : kW κ (h + 1) = 12) (q : ∀ y, FstK κ (h + 1) n v y → F y κ) : KC' X 0 MX0_find [vR h, vL v] κ (kRI F) :=
  KC_of_K rfl (Nat.le_of_ble_eq_true rfl) rfl (k_0_find_0 _ _ (fd_loop ho ho2 hn h12 hw q n 0 (Nat.zero_add _) (fun _ h => absurd h (Nat.not_lt_zero _))))
/-- the class declares a name: n variables it had -/
def DcR (b n : Nat) (κ κ' : Km) (v : Int64) (pl : Int32) : Prop := ((∃ i, i < n ∧ kL κ (1001 + 8 * b) i = v) ∧ κ' = κ) ∨ ((∀ u, u < n → kL κ (1001 + 8 * b) u ≠ v) ∧ n < 12 ∧ κ' = cI (cL κ (1001 + 8 * b) n v) (1000 + 8 * b) 5 (nI (n + 1))) ∨ ((∀ u, u < n → kL κ (1001 + 8 * b) u ≠ v) ∧ n = 12 ∧ ((kI κ (1000 + 8 * b) 8 = -9 ∧ κ' = cI κ (1000 + 8 * b) 8 pl) ∨ (kI κ (1000 + 8 * b) 8 ≠ -9 ∧ κ' = κ)))
theorem kc_declare {F : Km → Prop} {n : Nat} {v : Int64} {pl : Int32} (hb : b < kB κ) (hn : kI κ (1000 + 8 * b) 5 = nI n) (h12 : n ≤ 12) (hw : kW κ (1001 + 8 * b) = 12) (q : ∀ κ', DcR b n κ κ' v pl → F κ') : KC' X 1 MX0_declare [vR (1000 + 8 * b), vL v, vI pl] κ (kRV F) := by
  have ho := isH_body hb
  have ho2 : isH κ (1000 + 8 * b + 1) 22 := by rw [show 1000 + 8 * b + 1 = 1001 + 8 * b by omega]; exact isH_names hb
  have e1 : 1000 + 8 * b + 1 = 1001 + 8 * b := by omega
  refine KC_of_K rfl (Nat.le_of_ble_eq_true rfl) rfl (k_0_declare_0 _ _ _ ⟨ho, 0, by decide, kc_find ho ho2 hn h12 (by rw [e1]; exact hw) (fun y hy => ⟨fun c => ?_, fun c => ⟨rfl, q _ (Or.inl ⟨?_, rfl⟩)⟩⟩)⟩)
  · rw [e1] at hy
    have no : ∀ u, u < n → kL κ (1001 + 8 * b) u ≠ v := by
      rcases hy with ⟨i, i1, i2, -⟩ | ⟨-, h⟩
      · rw [i2] at c
        exact absurd c (fun z => by
          have := neg_eq (a := i) (b := 9) (by omega) (by omega) (by omega)
          exact (this ▸ (show nI i = -nI 9 from z)))
      · exact h
    rw [hn, litI 12, le_nI (by omega) (by omega)]
    refine ⟨fun c12 => ⟨fun c8 => ?_, fun c8 => k_0_declare_57 _ _ _ ⟨rfl, q _ (Or.inr (Or.inr ⟨no, by omega, Or.inr ⟨c8, rfl⟩⟩))⟩⟩, fun c12 => ⟨ho2, ?_⟩⟩
    · rintro κ11 rfl
      exact k_0_declare_57 _ _ _ ⟨rfl, q _ (Or.inr (Or.inr ⟨no, by omega, Or.inl ⟨c8, rfl⟩⟩))⟩
    · rw [e1, hw, vpn (by omega), cl_nI (by omega)]
      refine ⟨by omega, ?_⟩
      rintro κ14 rfl
      rw [kI_w, hn, nI_1]
      rintro κ15 rfl
      exact k_0_declare_57 _ _ _ ⟨rfl, q _ (Or.inr (Or.inl ⟨no, by omega, rfl⟩))⟩
  · rcases hy with ⟨i, i1, i2, i3, i4⟩ | ⟨h, -⟩
    · exact ⟨i, i1, by rw [← e1]; exact i3⟩
    · exact absurd h c
/-- the reference blames a token -/
def bl (σ : Rm) (t : Nat) : Rm := wS σ 37 (if sI σ 37 < 0 then aI σ 6 t else if sI σ 37 ≤ aI σ 6 t then sI σ 37 else aI σ 6 t)
theorem ac_blame {F : Rm → Prop} {t bb : Nat} (ht : t < 3002) (q : F (bl σ t)) : AC X bb 0 MX13_blame [vR bb, vI (nI t)] σ (aRV F) := by
  refine AC_of_A rfl (Nat.le_of_ble_eq_true rfl) rfl (a_blame_0 _ ⟨fun c => a_blame_21 _ ?_, fun c => ?_⟩)
  · rw [vpn (by omega), cl_nI (by omega)]
    refine ⟨ht, a_blame_34 _ _ ?_⟩
    rintro s1 rfl
    unfold bl at q
    rw [if_pos c] at q
    exact ⟨rfl, q⟩
  · rw [vpn (by omega), cl_nI (by omega)]
    unfold bl at q
    rw [if_neg c] at q
    refine ⟨ht, fun c2 => a_blame_34 _ _ ?_, fun c2 => a_blame_21 _ ?_⟩
    · rintro s1 rfl
      rw [if_pos c2] at q
      exact ⟨rfl, q⟩
    · rw [vpn (by omega), cl_nI (by omega)]
      refine ⟨ht, a_blame_34 _ _ ?_⟩
      rintro s1 rfl
      rw [if_neg c2] at q
      exact ⟨rfl, q⟩
/-- faults are least ones -/
theorem fN_neg : fN (-9) = 5000 := by decide
theorem fN_nI {f : Nat} (h : f < 2147483648) : fN (nI f) = f := by
  unfold fN
  rw [if_neg (nI_pos h), cl_nI h]
theorem bl_fN {t f : Nat} (h6 : aI σ 6 t = nI f) (hf : f < 3001) (h37 : sI σ 37 = -9 ∨ ∃ g, g < 3001 ∧ sI σ 37 = nI g) : fN (sI (bl σ t) 37) = min (fN (sI σ 37)) f ∧ (∃ g, g < 3001 ∧ sI (bl σ t) 37 = nI g) := by
  unfold bl
  rw [sI_eq, h6]
  rcases h37 with e | ⟨g, g1, e⟩
  · rw [e, if_pos (by decide), fN_neg, fN_nI (by omega)]
    exact ⟨by omega, f, hf, rfl⟩
  · rw [e, if_neg (nI_pos (by omega)), fN_nI (by omega)]
    by_cases c : nI g ≤ nI f
    · rw [if_pos c, fN_nI (by omega)]
      have c' := (nI_leI (by omega) (by omega)).mp c
      exact ⟨by omega, g, g1, rfl⟩
    · rw [if_neg c, fN_nI (by omega)]
      have c' : ¬ g ≤ f := fun z => c ((nI_leI (by omega) (by omega)).mpr z)
      exact ⟨by omega, f, hf, rfl⟩
/-- the reference's names: the first n of them -/
def FstR (σ : Rm) (n : Nat) (v : Int64) (i : Nat) : Prop := i < n ∧ aL σ 24 i = v ∧ ∀ u, u < i → aL σ 24 u ≠ v
/-- a name more -/
def vd (σ : Rm) (t : Nat) : Rm := wS (wL (if 12 ≤ rV σ then bl σ t else σ) 24 (rV σ) (aL σ 9 t)) 25 (nI (rV σ + 1))
theorem va_loop {F : Int32 → Rm → Prop} {n t d bb : Nat} (hd : 1 ≤ d) (hn : sI σ 25 = nI n) (h16 : n < 1600) (ht : t < 3002) (q1 : ∀ i, FstR σ n (aL σ 9 t) i → F (nI i) σ) (q0 : (∀ u, u < n → aL σ 24 u ≠ aL σ 9 t) → F (nI n) (vd σ t)) : ∀ (m i : Nat), i + m = n → (∀ u, u < i → aL σ 24 u ≠ aL σ 9 t) → A X bb d MX13_variable 2 [(0, vR bb), (1, vI (nI t)), (2, vI (nI i))] [] σ (aRI F) := by
  have er : rV σ = n := by unfold rV; rw [hn, cl_nI (by omega)]
  intro m
  induction m with
  | zero =>
    intro i hi hu
    have e0 : i = n := by omega
    have qq := q0 (fun u hu' => hu u (by omega))
    have tail : ∀ s : Rm, s = (if 12 ≤ n then bl σ t else σ) → A X bb d MX13_variable 48 [(0, vR bb), (1, vI (nI t)), (2, vI (nI i))] [] s (aRI F) := by
      intro s hs
      have s25 : sI s 25 = nI n := by
        rw [hs]
        by_cases c : 12 ≤ n
        · rw [if_pos c]; unfold bl; rw [sI_ne (by decide)]; exact hn
        · rw [if_neg c]; exact hn
      have s9 : aL s 9 = aL σ 9 := by
        rw [hs]
        by_cases c : 12 ≤ n
        · rw [if_pos c]; rfl
        · rw [if_neg c]
      refine a_variable_48 _ _ ?_
      rw [vpn (by omega), s25, vpn (by omega), cl_nI (by omega), cl_nI (by omega), s9]
      refine ⟨ht, h16, ?_⟩
      rintro s3 rfl
      rw [sI_w, s25, nI_1]
      rintro s4 rfl
      rw [sI_eq, litI 1, nI_sb (by omega)]
      refine ⟨_, rfl, ?_⟩
      unfold vd at qq
      rw [er, ← hs] at qq
      exact qq
    refine a_variable_2 _ _ ?_
    rw [hn, le_nI (by omega) (by omega), litI 12, lt_nI (by omega) (by omega)]
    refine ⟨fun _ => ⟨fun c => tail σ (by rw [if_neg (by omega)]), fun c => ⟨0, by omega, ac_blame ht (tail _ (by rw [if_pos (by omega)]))⟩⟩, fun z => absurd (by omega) z⟩
  | succ m ih =>
    intro i hi hu
    refine a_variable_2 _ _ ?_
    rw [hn, le_nI (by omega) (by omega), vpn (by omega), vpn (by omega), cl_nI (by omega), cl_nI (by omega), lg0]
    refine ⟨fun z => absurd z (by omega), fun _ => ⟨by omega, ht, fun c => ⟨_, rfl, q1 i ⟨by omega, c, hu⟩⟩, fun c => ?_⟩⟩
    rw [nI_1]
    refine ih (i + 1) (by omega) (fun u hu' => ?_)
    by_cases e : u = i
    · rw [e]; exact c
    · exact hu u (by omega)
theorem ac_variable {F : Int32 → Rm → Prop} {n t bb : Nat} (hn : sI σ 25 = nI n) (h16 : n < 1600) (ht : t < 3002) (q1 : ∀ i, FstR σ n (aL σ 9 t) i → F (nI i) σ) (q0 : (∀ u, u < n → aL σ 24 u ≠ aL σ 9 t) → F (nI n) (vd σ t)) : AC X bb 1 MX13_variable [vR bb, vI (nI t)] σ (aRI F) :=
  AC_of_A rfl (Nat.le_of_ble_eq_true rfl) rfl (a_variable_0 _ (va_loop (Nat.le_refl _) hn h16 ht q1 q0 n 0 (Nat.zero_add _) (fun _ h => absurd h (Nat.not_lt_zero _))))
end NAMES
