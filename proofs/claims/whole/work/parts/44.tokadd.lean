/-! the tokens of the class -/
abbrev hT (h : Nat) : Prop := h = 72 ∨ h = 74 ∨ h = 75 ∨ h = 76
def TW (κ : Km) (m : Nat) : Prop := ∃ w, kI κ 72 5 = nI m ∧ m ≤ w ∧ 64 ≤ w ∧ w ≤ 6100 ∧ kW κ 74 = w ∧ kW κ 75 = w ∧ kW κ 76 = w
/-- a token more -/
def TA (κ κ' : Km) (m : Nat) (k p : Int32) (v : Int64) : Prop := TW κ' (m + 1) ∧ (∀ i, i < m → kI κ' 74 i = kI κ 74 i ∧ kI κ' 75 i = kI κ 75 i ∧ kL κ' 76 i = kL κ 76 i) ∧ kI κ' 74 m = k ∧ kI κ' 75 m = p ∧ kL κ' 76 m = v ∧ KF hT κ κ' ∧ RG κ κ'
theorem kc_addT {X : Cx} {κ : Km} {F : Km → Prop} {m : Nat} {k p : Int32} {v : Int64} (h : TW κ m) (hm : m ≤ 3001) (q : ∀ κ', TA κ κ' m k p v → F κ') : KC' X 2 MX9_add [vR 72, vI k, vI p, vL v] κ (kRV F) := by
  obtain ⟨w, h1, h2, h3, h4, h5, h6, h7⟩ := h
  have tail : ∀ (κg : Km) (w' : Nat), kI κg 72 5 = nI m → m < w' → w' ≤ 6100 → 64 ≤ w' → kW κg 74 = w' → kW κg 75 = w' → kW κg 76 = w' → (∀ i, i < m → kI κg 74 i = kI κ 74 i ∧ kI κg 75 i = kI κ 75 i ∧ kL κg 76 i = kL κ 76 i) → KF hT κ κg → RG κ κg → K X 2 MX9_add 63 [(0, vR 72), (1, vI k), (2, vI p), (3, vL v)] [] κg (kRV F) := by
    intro κg w' g1 g2 g3 g4 g5 g6 g7 g8 g9 g10
    refine k_9_add_63 k p v ?_
    rw [g1, cl_nI (by omega)]
    refine ⟨by rw [g5]; exact vp_in_lt g2 (by omega), fun κ2 e2 => ?_⟩
    have s2 : kI κ2 72 5 = nI m := by rw [e2, kI_ne (by decide)]; exact g1
    rw [s2, cl_nI (by omega)]
    refine ⟨by rw [e2]; show vp_in (nI m) (kW κg 75); rw [g6]; exact vp_in_lt g2 (by omega), fun κ4 e4 => ?_⟩
    have s4 : kI κ4 72 5 = nI m := by rw [e4, kI_ne (by decide)]; exact s2
    rw [s4, cl_nI (by omega)]
    refine ⟨by rw [e4, e2]; show vp_in (nI m) (kW κg 76); rw [g7]; exact vp_in_lt g2 (by omega), fun κ6 e6 κ7 e7 => ⟨rfl, q _ ?_⟩⟩
    have s6 : kI κ6 72 5 = nI m := by rw [e6]; exact s4
    rw [s6, nI_1] at e7
    subst e7 e6 e4 e2
    refine ⟨⟨w', kI_eq, by omega, g4, g3, g5, g6, g7⟩, fun i hi => ⟨?_, ?_, ?_⟩, ?_, ?_, ?_, ?_, ?_⟩
    · rw [kI_ne (by decide)]; show kI (cI (cI κg 74 m k) 75 m p) 74 i = _; rw [kI_ne (by decide), kI_nk (by omega)]; exact (g8 i hi).1
    · rw [kI_ne (by decide)]; show kI (cI (cI κg 74 m k) 75 m p) 75 i = _; rw [kI_nk (by omega), kI_ne (by decide)]; exact (g8 i hi).2.1
    · show kL (cL _ 76 m v) 76 i = _; rw [kL_nk (by omega)]; exact (g8 i hi).2.2
    · rw [kI_ne (by decide)]; show kI (cI (cI κg 74 m k) 75 m p) 74 m = _; rw [kI_ne (by decide), kI_eq]
    · rw [kI_ne (by decide)]; show kI (cI (cI κg 74 m k) 75 m p) 75 m = _; rw [kI_eq]
    · show kL (cL _ 76 m v) 76 m = _; rw [kL_eq]
    · exact (((g9.trans (KF.cI (by decide))).trans (KF.cI (by decide))).trans (KF.cL (by decide))).trans (KF.cI (by decide))
    · exact (((g10.trans RG.cI).trans RG.cI).trans RG.cL).trans RG.cI
  refine KC_of_K rfl (Nat.le_of_ble_eq_true rfl) rfl (k_9_add_0 k p v ?_)
  rw [h1, h5]
  by_cases c : m < w
  · exact ⟨fun _ => tail κ w h1 c h4 h3 h5 h6 h7 (fun _ _ => ⟨rfl, rfl, rfl⟩) KF.refl RG.refl, fun z => absurd (nI_lt c (by omega)) z⟩
  · have em : m = w := by omega
    subst em
    refine ⟨fun z => absurd z (nI_nlt (by omega) (by omega)), fun _ => ⟨by decide, 2 * m, ?_, by omega, by omega, fun κ8 e8 => ⟨by decide, 2 * m, ?_, ?_, by omega, fun κ15 e15 => ⟨by decide, 2 * m, ?_, ?_, by omega, fun κ22 e22 => ?_⟩⟩⟩⟩
    · rw [litI 2, pk_mul]
    · have e : kI κ8 72 5 = nI m := by rw [e8, kI_row, if_neg (by decide)]; exact h1
      rw [e, litI 2, pk_mul]
    · rw [e8, kW_row, if_neg (by decide), h6]; omega
    · have e : kI κ15 72 5 = nI m := by rw [e15, kI_row, if_neg (by decide), e8, kI_row, if_neg (by decide)]; exact h1
      rw [e, litI 2, pk_mul]
    · rw [e15, kW_row, if_neg (by decide), e8, kW_row, if_neg (by decide), h7]; omega
    · have w75 : kW κ8 75 = m := by rw [e8, kW_row, if_neg (by decide)]; exact h6
      have w76 : kW κ15 76 = m := by rw [e15, kW_row, if_neg (by decide), e8, kW_row, if_neg (by decide)]; exact h7
      refine tail κ22 (2 * m) ?_ (by omega) (by omega) (by omega) ?_ ?_ ?_ (fun i hi => ⟨?_, ?_, ?_⟩) ?_ ?_
      · rw [e22, kI_row, if_neg (by decide), e15, kI_row, if_neg (by decide), e8, kI_row, if_neg (by decide)]; exact h1
      · rw [e22, kW_row, if_neg (by decide), e15, kW_row, if_neg (by decide), e8, kW_row, if_pos rfl]
      · rw [e22, kW_row, if_neg (by decide), e15, kW_row, if_pos rfl]
      · rw [e22, kW_row, if_pos rfl]
      · rw [e22, kI_row, if_neg (by decide), e15, kI_row, if_neg (by decide), e8, kI_row, if_pos rfl]; exact if_pos hi
      · rw [e22, kI_row, if_neg (by decide), e15, kI_row, if_pos rfl, w75]; show (if i < m then _ else _) = _; rw [if_pos hi, e8, kI_row, if_neg (by decide)]
      · rw [e22, kL_row, if_pos rfl, w76]; show (if i < m then _ else _) = _; rw [if_pos hi, e15, kL_row, if_neg (by decide), e8, kL_row, if_neg (by decide)]
      · rw [e22, e15, e8]; exact ((KF.row (by decide)).trans (KF.row (by decide))).trans (KF.row (by decide))
      · rw [e22]
        refine RG.trans ?_ (RG.row (by decide) (by rw [w76]; omega) (by omega))
        rw [e15]
        refine RG.trans ?_ (RG.row (by decide) (by rw [w75]; omega) (by omega))
        rw [e8]
        exact RG.row (by decide) (by rw [h5]; omega) (by omega)
/-! names in two bases -/
/-- the letters' numbers -/
def lt1 (x : Int32) : Nat := (x - 96).toNatClampNeg
/-- the first k letters of s, at most 8, in a base -/
def pkN (b : Nat) (s : Nat → Nat) : Nat → Nat
  | 0 => 0
  | k + 1 => if k < 8 then b * pkN b s k + s k else pkN b s k
theorem pkN_lt {b : Nat} {s : Nat → Nat} (hb : b ≤ 32) : ∀ k, (∀ i, i < k → s i ≤ 26) → pkN b s k < 33 ^ (min k 8) := by
  intro k
  induction k with
  | zero => intro _; exact Nat.one_pos
  | succ k ih =>
    intro h
    have ih' := ih (fun i hi => h i (by omega))
    unfold pkN
    by_cases c : k < 8
    · rw [if_pos c]
      rw [show min k 8 = k by omega] at ih'
      rw [show min (k + 1) 8 = k + 1 by omega, Nat.pow_succ]
      have h1 := h k (by omega)
      have h2 : b * pkN b s k ≤ 32 * pkN b s k := Nat.mul_le_mul_right _ hb
      have : 33 ^ k ≥ 1 := Nat.pow_pos (by decide)
      omega
    · rw [if_neg c]
      rw [show min k 8 = 8 by omega] at ih'
      rw [show min (k + 1) 8 = 8 by omega]
      exact ih'
theorem pkN_lt8 {b : Nat} {s : Nat → Nat} (hb : b ≤ 32) {k : Nat} (h : ∀ i, i < k → s i ≤ 26) : pkN b s k < 1406408618241 := by
  have h1 := pkN_lt hb k h
  have h2 : 33 ^ (min k 8) ≤ 33 ^ 8 := Nat.pow_le_pow_right (by decide) (by omega)
  have h3 : (33 : Nat) ^ 8 = 1406408618241 := by decide
  omega
/-- names of at most 8 letters are told apart in both bases -/
theorem pkN_inj {b : Nat} (hb : 27 ≤ b) : ∀ (k : Nat) (s t : Nat → Nat) (l : Nat), k ≤ 8 → l ≤ 8 → (∀ i, i < k → 1 ≤ s i ∧ s i ≤ 26) → (∀ i, i < l → 1 ≤ t i ∧ t i ≤ 26) → pkN b s k = pkN b t l → k = l ∧ ∀ i, i < k → s i = t i := by
  intro k
  induction k with
  | zero =>
    intro s t l _ hl _ ht e
    cases l with
    | zero => exact ⟨rfl, fun i hi => absurd hi (Nat.not_lt_zero _)⟩
    | succ l =>
      exfalso
      have h1 := ht l (by omega)
      unfold pkN at e
      rw [if_pos (by omega)] at e
      omega
  | succ k ih =>
    intro s t l hk hl hs ht e
    cases l with
    | zero =>
      exfalso
      have h1 := hs k (by omega)
      unfold pkN at e
      rw [if_pos (by omega)] at e
      omega
    | succ l =>
      have h1 := hs k (by omega)
      have h2 := ht l (by omega)
      unfold pkN at e
      rw [if_pos (by omega), if_pos (by omega)] at e
      have em : (b * pkN b s k + s k) % b = (b * pkN b t l + t l) % b := by rw [e]
      rw [Nat.mul_add_mod, Nat.mul_add_mod, Nat.mod_eq_of_lt (by omega), Nat.mod_eq_of_lt (by omega)] at em
      have ed : b * pkN b s k = b * pkN b t l := by omega
      have ed2 := Nat.eq_of_mul_eq_mul_left (by omega) ed
      obtain ⟨g1, g2⟩ := ih s t l (by omega) (by omega) (fun i hi => hs i (by omega)) (fun i hi => ht i (by omega)) ed2
      refine ⟨by omega, fun i hi => ?_⟩
      by_cases c : i = k
      · rw [c, em, g1]
      · exact g2 i (by omega)
theorem pkN_cong {b : Nat} {s t : Nat → Nat} : ∀ k, (∀ i, i < k → s i = t i) → pkN b s k = pkN b t k := by
  intro k
  induction k with
  | zero => intro _; rfl
  | succ k ih => intro h; unfold pkN; rw [ih (fun i hi => h i (by omega)), h k (by omega)]
/-- a name in both bases -/
def NmR (v w : Int64) : Prop := ∃ (s : Nat → Nat) (k : Nat), 1 ≤ k ∧ k ≤ 8 ∧ (∀ i, i < k → 1 ≤ s i ∧ s i ≤ 26) ∧ v = Int64.ofNat (pkN 32 s k) ∧ w = Int64.ofNat (pkN 27 s k)
theorem ofNat64_inj {a b : Nat} (ha : a < 1406408618241) (hb : b < 1406408618241) (h : Int64.ofNat a = Int64.ofNat b) : a = b := by
  have e := congrArg Int64.toInt h
  rw [Int64.toInt_ofNat_of_lt (by omega), Int64.toInt_ofNat_of_lt (by omega)] at e
  omega
theorem NmR.iff {v w v' w' : Int64} (h : NmR v w) (h' : NmR v' w') : v = v' ↔ w = w' := by
  obtain ⟨s, k, k1, k8, hs, rfl, rfl⟩ := h
  obtain ⟨t, l, l1, l8, ht, rfl, rfl⟩ := h'
  constructor
  · intro e
    have := ofNat64_inj (pkN_lt8 (by decide) (fun i hi => (hs i hi).2)) (pkN_lt8 (by decide) (fun i hi => (ht i hi).2)) e
    obtain ⟨rfl, h2⟩ := pkN_inj (by decide) k s t l k8 l8 hs ht this
    rw [pkN_cong k h2]
  · intro e
    have := ofNat64_inj (pkN_lt8 (by decide) (fun i hi => (hs i hi).2)) (pkN_lt8 (by decide) (fun i hi => (ht i hi).2)) e
    obtain ⟨rfl, h2⟩ := pkN_inj (by decide) k s t l k8 l8 hs ht this
    rw [pkN_cong k h2]

theorem NmR.ne {v w : Int64} (h : NmR v w) : w ≠ 0 ∧ v ≠ 0 := by
  obtain ⟨s, k, k1, k8, hs, rfl, rfl⟩ := h
  have p : ∀ b, 1 ≤ pkN b s k := fun b => by
    obtain ⟨j, rfl⟩ : ∃ j, k = j + 1 := ⟨k - 1, by omega⟩
    have := hs j (by omega)
    show 1 ≤ (if j < 8 then _ else _)
    rw [if_pos (by omega)]
    omega
  have l : ∀ b, b ≤ 32 → pkN b s k < 1406408618241 := fun b hb => pkN_lt8 hb (fun i hi => (hs i hi).2)
  refine ⟨fun e => ?_, fun e => ?_⟩
  · have := ofNat64_inj (l 27 (by decide)) (b := 0) (by decide) e
    have := p 27
    omega
  · have := ofNat64_inj (l 32 (by decide)) (b := 0) (by decide) e
    have := p 32
    omega
