/-! the constructors -/
theorem isKr {S : Mem} {a k : Nat} (h1 : Nat.ble (a + 1) (tp S) = true) (h2 : gK S a = k) : isK S a k := ⟨Nat.le_of_ble_eq_true h1, h2⟩
/-- Throwable's own constructor: the object's references alone are touched -/
theorem c_E2 {X : Cx} {S : Mem} {F : Mem → Prop} {a : Nat} (h0 : a ≠ 0) (hk : isK S a 12) (q : ∀ S' : Mem, gI S' = gI S → gL S' = gL S → gK S' = gK S → gN S' = gN S → tp S' = tp S → sz S' = sz S → (∀ c, c ≠ a → gR S' c = gR S c) → F S') : C X 1 ME2_init [vR a, vR 0, vR 0, vI 0, vI 0] S (RV F) := by
  refine C_of_V rfl (Nat.le_of_ble_eq_true rfl) rfl (w_E2_init_0 a 0 0 0 0 ⟨Nat.le_refl _, h0, hk, fun S4 e4 r5 _ S7 e7 r8 _ S10 e10 => ⟨fun _ S12 e12 => ?_, fun n => absurd rfl n⟩⟩)
  refine w_E2_init_41 a 0 0 0 0 ⟨by rw [e12, e10, e7, e4]; exact hk, fun S2 e2 S3 e3 => ⟨fun n => absurd rfl n, fun _ S5 e5 => ?_⟩⟩
  refine w_E2_init_60 a 0 0 0 0 ⟨rfl, q _ ?_ ?_ ?_ ?_ ?_ ?_ ?_⟩
  · rw [e5, e3, e2, e12, e10, e7, e4]; rfl
  · rw [e5, e3, e2, e12, e10, e7, e4]; rfl
  · rw [e5, e3, e2, e12, e10, e7, e4]; rfl
  · rw [e5, e3, e2, e12, e10, e7, e4]; rfl
  · rw [e5, e3, e2, e12, e10, e7, e4]; rfl
  · rw [e5, e3, e2, e12, e10, e7, e4]; rfl
  · intro c hc
    have hu : ∀ (T : Mem) (k v : Nat), gR (uR T a k v) c = gR T c := fun T k v => up2_ne (f := T.2.2.1) hc
    rw [e5, hu, e3, hu, e2, hu, e12, hu, e10, hu, e7, hu, e4, hu]
theorem c_E1 {X : Cx} {S : Mem} {F : Mem → Prop} {a : Nat} (h0 : a ≠ 0) (hk : isK S a 12) (q : ∀ S' : Mem, gI S' = gI S → gL S' = gL S → gK S' = gK S → gN S' = gN S → tp S' = tp S → sz S' = sz S → (∀ c, c ≠ a → gR S' c = gR S c) → F S') : C X 2 ME1_init [vR a, vR 0, vR 0, vI 0, vI 0] S (RV F) :=
  C_of_V rfl (Nat.le_of_ble_eq_true rfl) rfl (w_E1_init_0 a 0 0 0 0 ⟨h0, 1, Nat.le_refl _, c_E2 h0 hk fun S' g1 g2 g3 g4 g5 g6 g7 => ⟨rfl, q S' g1 g2 g3 g4 g5 g6 g7⟩⟩)
theorem c_E0 {X : Cx} {S : Mem} {F : Mem → Prop} {a : Nat} (h0 : a ≠ 0) (hk : isK S a 12) (q : ∀ S' : Mem, gI S' = gI S → gL S' = gL S → gK S' = gK S → gN S' = gN S → tp S' = tp S → sz S' = sz S → (∀ c, c ≠ a → gR S' c = gR S c) → F S') : C X 3 ME0_init [vR a, vR 0, vR 0, vI 0, vI 0] S (RV F) :=
  C_of_V rfl (Nat.le_of_ble_eq_true rfl) rfl (w_E0_init_0 a 0 0 0 0 ⟨h0, 2, Nat.le_refl _, c_E1 h0 hk fun S' g1 g2 g3 g4 g5 g6 g7 => ⟨rfl, q S' g1 g2 g3 g4 g5 g6 g7⟩⟩)
theorem c_Stop {X : Cx} {S : Mem} {F : Mem → Prop} {a : Nat} (h0 : a ≠ 0) (hk : isK S a 12) (q : ∀ S' : Mem, gI S' = gI S → gL S' = gL S → gK S' = gK S → gN S' = gN S → tp S' = tp S → sz S' = sz S → (∀ c, c ≠ a → gR S' c = gR S c) → F S') : C X 4 MX12_init [vR a] S (RV F) :=
  C_of_V rfl (Nat.le_of_ble_eq_true rfl) rfl (w_X12_init_0 a ⟨h0, 3, Nat.le_refl _, c_E0 h0 hk fun S' g1 g2 g3 g4 g5 g6 g7 => ⟨rfl, q S' g1 g2 g3 g4 g5 g6 g7⟩⟩)
def mWD : List Nat := [7, 3000, 3000, 3002, 3002, 3002, 3002, 3002, 23, 12000, 12000, 12000, 12000, 12, 12, 12, 12, 12, 1600, 12, 1000, 1000, 1000, 1000, 1000, 1000, 1600, 1600, 1600, 1600, 1600, 1000, 61, 61, 61, 61, 61, 61, 61, 61, 61, 61, 12, 12, 720, 720, 720, 720, 720, 28800, 18000, 12, 18000, 18000, 18000, 18000, 12, 122400, 300, 300, 300, 300, 64, 8000, 8000, 8000, 8000, 8000, 8000, 8000, 8000, 61, 40, 40, 40]
def mpre (j : Nat) : Nat := (mWD.take j).sum
theorem mpre_succ {j w : Nat} (hj : j < 75) (h : mWD.getD j 0 = w) : mpre (j + 1) = mpre j + w := by
  unfold mpre
  have hl : j < mWD.length := hj
  rw [List.take_add_one, List.sum_append, ← h, List.getD_eq_getElem?_getD, List.getElem?_eq_getElem hl]
  simp
/-- the reference while it is made: its first j parts stand -/
def Lk (T0 : Mem) (b j : Nat) (T : Mem) : Prop := 64 ≤ b ∧ isK T b 13 ∧ tp T = b + 1 + j ∧ sz T = sz T0 + mpre j ∧ (∀ k, k < 103 → maf k ≠ 0 → maf k ≤ j → gR T b k = b + maf k ∧ isK T (b + maf k) (mkd k) ∧ gN T (b + maf k) = mln k) ∧ (∀ k, gI T b k = 0) ∧ (∀ m, 1 ≤ m → m ≤ j → ∀ i, gI T (b + m) i = 0 ∧ gL T (b + m) i = 0) ∧ (∀ a, a < b → gI T a = gI T0 a ∧ gL T a = gL T0 a ∧ gR T a = gR T0 a ∧ gK T a = gK T0 a ∧ gN T a = gN T0 a) ∧ (9 ≤ j → ∀ i, i < 23 → gR T (b + 9) i = 4 + i)
/-- one part more: Sa has the new cell, with what is written into it as references; Sb the field -/
theorem Lk.stepG {T0 T Sa Sb : Mem} {b j : Nat} (h : Lk T0 b j T) (k kd n w : Nat) (hj : j < 75) (hk : k < 103) (h1 : maf k = j + 1) (h2 : mkd k = kd) (h3 : mln k = n) (h4 : mWD.getD j 0 = w) (ea : gI Sa = gI (nw T kd n w) ∧ gL Sa = gL (nw T kd n w) ∧ gK Sa = gK (nw T kd n w) ∧ gN Sa = gN (nw T kd n w) ∧ tp Sa = tp T + 1 ∧ sz Sa = sz T + w ∧ ∀ c, c ≠ tp T → gR Sa c = gR T c) (h9 : 9 ≤ j + 1 → 9 ≤ j ∨ ∀ i, i < 23 → gR Sa (b + 9) i = 4 + i) (eb : Sb = uR Sa b k (tp T)) : Lk T0 b (j + 1) Sb := by
  obtain ⟨q1, q2, q3, q4, q5, q6, q7, q8, q9⟩ := h
  obtain ⟨e1, e2, e3, e4, e5, e6, e7⟩ := ea
  have hb : b ≠ tp T := by omega
  have hK : ∀ c, c ≠ tp T → gK Sa c = gK T c := fun c hc => by rw [e3]; exact (gK_nw.trans (if_neg hc))
  have hN : ∀ c, c ≠ tp T → gN Sa c = gN T c := fun c hc => by rw [e4]; exact (gN_nw.trans (if_neg hc))
  have hI : ∀ c, c ≠ tp T → gI Sa c = gI T c := fun c hc => by rw [e1]; funext i; exact (gI_nw.trans (if_neg hc))
  have hL : ∀ c, c ≠ tp T → gL Sa c = gL T c := fun c hc => by rw [e2]; funext i; exact (gL_nw.trans (if_neg hc))
  subst eb
  have hR : ∀ c, c ≠ b → gR (uR Sa b k (tp T)) c = gR Sa c := fun c hc => up2_ne (f := Sa.2.2.1) hc
  refine ⟨q1, ⟨by show b < tp Sa; omega, by show gK Sa b = 13; rw [hK b hb]; exact q2.2⟩, by show tp Sa = _; omega, by show sz Sa = _; rw [mpre_succ hj h4, e6]; omega, fun k' hk' h0' hm => ?_, fun i => by show gI Sa b i = 0; rw [hI b hb]; exact q6 i, fun m hm hm2 i => ?_, fun a ha => ?_, fun h9' i hi => ?_⟩
  · by_cases c : k' = k
    · subst c
      refine ⟨by rw [gR_uR, if_pos ⟨rfl, rfl⟩]; omega, ⟨by show b + maf k' < tp Sa; omega, ?_⟩, ?_⟩
      · show gK Sa (b + maf k') = _
        rw [e3, gK_nw, if_pos (by omega), h2]
      · show gN Sa (b + maf k') = _
        rw [e4, gN_nw, if_pos (by omega), h3]
    · have hne : maf k' ≠ maf k := fun z => c (maf_inj hk' hk h0' z)
      obtain ⟨g1, g2, g3⟩ := q5 k' hk' h0' (by omega)
      have hz : b + maf k' ≠ tp T := by omega
      refine ⟨by rw [gR_uR, if_neg (fun z => c z.2), e7 b hb]; exact g1, ⟨by show b + maf k' < tp Sa; omega, ?_⟩, ?_⟩
      · show gK Sa (b + maf k') = _
        rw [hK _ hz]; exact g2.2
      · show gN Sa (b + maf k') = _
        rw [hN _ hz]; exact g3
  · show gI Sa (b + m) i = 0 ∧ gL Sa (b + m) i = 0
    by_cases c : m = j + 1
    · rw [e1, e2, gI_nw, gL_nw, if_pos (by omega), if_pos (by omega)]; exact ⟨rfl, rfl⟩
    · rw [hI _ (by omega), hL _ (by omega)]; exact q7 m hm (by omega) i
  · have hz : a ≠ tp T := by omega
    obtain ⟨g1, g2, g3, g4, g5⟩ := q8 a ha
    exact ⟨(hI a hz).trans g1, (hL a hz).trans g2, ((hR a (by omega)).trans (e7 a hz)).trans g3, (hK a hz).trans g4, (hN a hz).trans g5⟩
  · rw [hR _ (by omega)]
    rcases h9 h9' with c | c
    · rw [e7 _ (by omega)]; exact q9 c i hi
    · exact c i hi
theorem Lk.step {T0 T Sa Sb : Mem} {b j : Nat} (h : Lk T0 b j T) (k kd n : Nat) (hj : j < 75) (hk : k < 103) (h1 : maf k = j + 1) (h2 : mkd k = kd) (h3 : mln k = n) (h4 : mWD.getD j 0 = n) (h9 : j + 1 < 9 ∨ 9 ≤ j) (ea : Sa = nw T kd n n) (eb : Sb = uR Sa b k (tp T)) : Lk T0 b (j + 1) Sb := by
  refine h.stepG k kd n n hj hk h1 h2 h3 h4 ?_ (fun z => Or.inl (by omega)) eb
  subst ea
  exact ⟨rfl, rfl, rfl, rfl, rfl, rfl, fun c hc => by funext i; exact (gR_nw.trans (if_neg hc))⟩
/-- the row of words, filled -/
def wst (T : Mem) (a : Nat) : Nat → Mem
  | 0 => T
  | n + 1 => uR (wst T a n) a n (4 + n)
theorem wst_same (T : Mem) (a : Nat) : ∀ n, gI (wst T a n) = gI T ∧ gL (wst T a n) = gL T ∧ gK (wst T a n) = gK T ∧ gN (wst T a n) = gN T ∧ tp (wst T a n) = tp T ∧ sz (wst T a n) = sz T ∧ (∀ c, c ≠ a → gR (wst T a n) c = gR T c) ∧ ∀ i, i < n → gR (wst T a n) a i = 4 + i := by
  intro n
  induction n with
  | zero => exact ⟨rfl, rfl, rfl, rfl, rfl, rfl, fun _ _ => rfl, fun i hi => absurd hi (Nat.not_lt_zero _)⟩
  | succ n ih =>
    obtain ⟨h1, h2, h3, h4, h5, h6, h7, h8⟩ := ih
    refine ⟨h1, h2, h3, h4, h5, h6, fun c hc => (up2_ne (f := (wst T a n).2.2.1) hc).trans (h7 c hc), fun i hi => ?_⟩
    show gR (uR (wst T a n) a n (4 + n)) a i = _
    rw [gR_uR]
    by_cases c : i = n
    · rw [if_pos ⟨rfl, c⟩, c]
    · rw [if_neg (fun z => c z.2)]; exact h8 i (by omega)
theorem Lk.words {T0 T Sa Sb : Mem} {b : Nat} (h : Lk T0 b 8 T) (ea : Sa = wst (nw T 27 23 23) (tp T) 23) (eb : Sb = uR Sa b 11 (tp T)) : Lk T0 b 9 Sb := by
  obtain ⟨h1, h2, h3, h4, h5, h6, h7, h8⟩ := wst_same (nw T 27 23 23) (tp T) 23
  have ht : tp T = b + 9 := h.2.2.1
  refine h.stepG 11 27 23 23 (by decide) (by decide) rfl rfl rfl rfl ?_ (fun _ => Or.inr ?_) eb
  · subst ea
    exact ⟨h1, h2, h3, h4, h5, h6, fun c hc => (h7 c hc).trans (by funext i; exact (gR_nw.trans (if_neg hc)))⟩
  · subst ea
    intro i hi
    rw [← ht]; exact h8 i hi
set_option maxRecDepth 100000 in
theorem c_model {X : Cx} {T0 : Mem} {F : Mem → Prop} {b : Nat} (hb : 64 ≤ b) (hk : isK T0 b 13) (ht : tp T0 = b + 1) (hz : ∀ i, gI T0 b i = 0) (q : ∀ T, Lk T0 b 75 T → F T) : C X 5 MX13_init [vR b] T0 (RV F) := by
  refine C_of_V rfl (Nat.le_of_ble_eq_true rfl) rfl (w_X13_init_0 b ⟨by decide, by omega, ?_⟩)
  intro S0 e0
  refine ⟨by omega, 4, Nat.le_refl _, c_Stop (by omega) (by rw [e0]; exact isK_new) fun Sa g1 g2 g3 g4 g5 g6 g7 => ?_⟩
  have hkb : isK Sa b 13 := ⟨by rw [g5, e0]; show b < tp T0 + 1; omega, by rw [g3, e0, gK_nw, if_neg (by omega)]; exact hk.2⟩
  refine ⟨hkb, ?_⟩
  intro S1 e1
  have hstart : Lk T0 b 0 T0 := ⟨hb, hk, ht, rfl, fun k _ h0 h1 => absurd (Nat.le_zero.mp h1) h0, hz, fun m h1 h2 => by omega, fun a _ => ⟨rfl, rfl, rfl, rfl, rfl⟩, fun h => by omega⟩
  have L1 := hstart.stepG 0 12 0 7 (by decide) (by decide) rfl rfl rfl rfl (Sa := Sa) ⟨by rw [g1, e0], by rw [g2, e0], by rw [g3, e0], by rw [g4, e0], by rw [g5, e0]; rfl, by rw [g6, e0]; rfl, fun c hc => by rw [g7 c hc, e0]; funext i; exact (gR_nw.trans (if_neg hc))⟩ (fun z => by omega) e1
  intro A2 a2 S2 e2
  have L2 := L1.step 1 20 3000 (by decide) (by decide) rfl rfl rfl rfl (Or.inl (by decide)) a2 e2
  intro A3 a3 S3 e3
  have L3 := L2.step 3 20 3000 (by decide) (by decide) rfl rfl rfl rfl (Or.inl (by decide)) a3 e3
  intro A4 a4 S4 e4
  have L4 := L3.step 5 21 3002 (by decide) (by decide) rfl rfl rfl rfl (Or.inl (by decide)) a4 e4
  intro A5 a5 S5 e5
  have L5 := L4.step 6 21 3002 (by decide) (by decide) rfl rfl rfl rfl (Or.inl (by decide)) a5 e5
  intro A6 a6 S6 e6
  have L6 := L5.step 7 21 3002 (by decide) (by decide) rfl rfl rfl rfl (Or.inl (by decide)) a6 e6
  intro A7 a7 S7 e7
  have L7 := L6.step 8 21 3002 (by decide) (by decide) rfl rfl rfl rfl (Or.inl (by decide)) a7 e7
  intro A8 a8 S8 e8
  have L8 := L7.step 9 22 3002 (by decide) (by decide) rfl rfl rfl rfl (Or.inl (by decide)) a8 e8
  intro W0 ew0
  have n0 : gN W0 (tp S8) = 23 := by rw [ew0, gN_nw, if_pos rfl]
  refine ⟨by rw [n0]; unfold vp_in; decide, ?_⟩
  intro W1 ew1
  have n1 : gN W1 (tp S8) = 23 := by rw [ew1]; exact n0
  refine ⟨by rw [n1]; unfold vp_in; decide, ?_⟩
  intro W2 ew2
  have n2 : gN W2 (tp S8) = 23 := by rw [ew2]; exact n1
  refine ⟨by rw [n2]; unfold vp_in; decide, ?_⟩
  intro W3 ew3
  have n3 : gN W3 (tp S8) = 23 := by rw [ew3]; exact n2
  refine ⟨by rw [n3]; unfold vp_in; decide, ?_⟩
  intro W4 ew4
  have n4 : gN W4 (tp S8) = 23 := by rw [ew4]; exact n3
  refine ⟨by rw [n4]; unfold vp_in; decide, ?_⟩
  intro W5 ew5
  have n5 : gN W5 (tp S8) = 23 := by rw [ew5]; exact n4
  refine ⟨by rw [n5]; unfold vp_in; decide, ?_⟩
  intro W6 ew6
  have n6 : gN W6 (tp S8) = 23 := by rw [ew6]; exact n5
  refine ⟨by rw [n6]; unfold vp_in; decide, ?_⟩
  intro W7 ew7
  have n7 : gN W7 (tp S8) = 23 := by rw [ew7]; exact n6
  refine ⟨by rw [n7]; unfold vp_in; decide, ?_⟩
  intro W8 ew8
  have n8 : gN W8 (tp S8) = 23 := by rw [ew8]; exact n7
  refine ⟨by rw [n8]; unfold vp_in; decide, ?_⟩
  intro W9 ew9
  have n9 : gN W9 (tp S8) = 23 := by rw [ew9]; exact n8
  refine ⟨by rw [n9]; unfold vp_in; decide, ?_⟩
  intro W10 ew10
  have n10 : gN W10 (tp S8) = 23 := by rw [ew10]; exact n9
  refine ⟨by rw [n10]; unfold vp_in; decide, ?_⟩
  intro W11 ew11
  have n11 : gN W11 (tp S8) = 23 := by rw [ew11]; exact n10
  refine ⟨by rw [n11]; unfold vp_in; decide, ?_⟩
  intro W12 ew12
  have n12 : gN W12 (tp S8) = 23 := by rw [ew12]; exact n11
  refine ⟨by rw [n12]; unfold vp_in; decide, ?_⟩
  intro W13 ew13
  have n13 : gN W13 (tp S8) = 23 := by rw [ew13]; exact n12
  refine ⟨by rw [n13]; unfold vp_in; decide, ?_⟩
  intro W14 ew14
  have n14 : gN W14 (tp S8) = 23 := by rw [ew14]; exact n13
  refine ⟨by rw [n14]; unfold vp_in; decide, ?_⟩
  intro W15 ew15
  have n15 : gN W15 (tp S8) = 23 := by rw [ew15]; exact n14
  refine ⟨by rw [n15]; unfold vp_in; decide, ?_⟩
  intro W16 ew16
  have n16 : gN W16 (tp S8) = 23 := by rw [ew16]; exact n15
  refine ⟨by rw [n16]; unfold vp_in; decide, ?_⟩
  intro W17 ew17
  have n17 : gN W17 (tp S8) = 23 := by rw [ew17]; exact n16
  refine ⟨by rw [n17]; unfold vp_in; decide, ?_⟩
  intro W18 ew18
  have n18 : gN W18 (tp S8) = 23 := by rw [ew18]; exact n17
  refine ⟨by rw [n18]; unfold vp_in; decide, ?_⟩
  intro W19 ew19
  have n19 : gN W19 (tp S8) = 23 := by rw [ew19]; exact n18
  refine ⟨by rw [n19]; unfold vp_in; decide, ?_⟩
  intro W20 ew20
  have n20 : gN W20 (tp S8) = 23 := by rw [ew20]; exact n19
  refine ⟨by rw [n20]; unfold vp_in; decide, ?_⟩
  intro W21 ew21
  have n21 : gN W21 (tp S8) = 23 := by rw [ew21]; exact n20
  refine ⟨by rw [n21]; unfold vp_in; decide, ?_⟩
  intro W22 ew22
  have n22 : gN W22 (tp S8) = 23 := by rw [ew22]; exact n21
  refine ⟨by rw [n22]; unfold vp_in; decide, ?_⟩
  intro W23 ew23
  have n23 : gN W23 (tp S8) = 23 := by rw [ew23]; exact n22
  intro S9 e9
  rw [show ((0 : Int32).toNatClampNeg) = 0 by decide] at ew1
  rw [show ((1 : Int32).toNatClampNeg) = 1 by decide] at ew2
  rw [show ((2 : Int32).toNatClampNeg) = 2 by decide] at ew3
  rw [show ((3 : Int32).toNatClampNeg) = 3 by decide] at ew4
  rw [show ((4 : Int32).toNatClampNeg) = 4 by decide] at ew5
  rw [show ((5 : Int32).toNatClampNeg) = 5 by decide] at ew6
  rw [show ((6 : Int32).toNatClampNeg) = 6 by decide] at ew7
  rw [show ((7 : Int32).toNatClampNeg) = 7 by decide] at ew8
  rw [show ((8 : Int32).toNatClampNeg) = 8 by decide] at ew9
  rw [show ((9 : Int32).toNatClampNeg) = 9 by decide] at ew10
  rw [show ((10 : Int32).toNatClampNeg) = 10 by decide] at ew11
  rw [show ((11 : Int32).toNatClampNeg) = 11 by decide] at ew12
  rw [show ((12 : Int32).toNatClampNeg) = 12 by decide] at ew13
  rw [show ((13 : Int32).toNatClampNeg) = 13 by decide] at ew14
  rw [show ((14 : Int32).toNatClampNeg) = 14 by decide] at ew15
  rw [show ((15 : Int32).toNatClampNeg) = 15 by decide] at ew16
  rw [show ((16 : Int32).toNatClampNeg) = 16 by decide] at ew17
  rw [show ((17 : Int32).toNatClampNeg) = 17 by decide] at ew18
  rw [show ((18 : Int32).toNatClampNeg) = 18 by decide] at ew19
  rw [show ((19 : Int32).toNatClampNeg) = 19 by decide] at ew20
  rw [show ((20 : Int32).toNatClampNeg) = 20 by decide] at ew21
  rw [show ((21 : Int32).toNatClampNeg) = 21 by decide] at ew22
  rw [show ((22 : Int32).toNatClampNeg) = 22 by decide] at ew23
  have L9 := L8.words (Sa := W23) (by rw [ew23, ew22, ew21, ew20, ew19, ew18, ew17, ew16, ew15, ew14, ew13, ew12, ew11, ew10, ew9, ew8, ew7, ew6, ew5, ew4, ew3, ew2, ew1, ew0]; rfl) e9
  intro A10 a10 S10 e10
  have L10 := L9.step 13 21 12000 (by decide) (by decide) rfl rfl rfl rfl (Or.inr (by decide)) a10 e10
  intro A11 a11 S11 e11
  have L11 := L10.step 14 21 12000 (by decide) (by decide) rfl rfl rfl rfl (Or.inr (by decide)) a11 e11
  intro A12 a12 S12 e12
  have L12 := L11.step 15 21 12000 (by decide) (by decide) rfl rfl rfl rfl (Or.inr (by decide)) a12 e12
  intro A13 a13 S13 e13
  have L13 := L12.step 16 21 12000 (by decide) (by decide) rfl rfl rfl rfl (Or.inr (by decide)) a13 e13
  intro A14 a14 S14 e14
  have L14 := L13.step 19 21 12 (by decide) (by decide) rfl rfl rfl rfl (Or.inr (by decide)) a14 e14
  intro A15 a15 S15 e15
  have L15 := L14.step 20 21 12 (by decide) (by decide) rfl rfl rfl rfl (Or.inr (by decide)) a15 e15
  intro A16 a16 S16 e16
  have L16 := L15.step 21 21 12 (by decide) (by decide) rfl rfl rfl rfl (Or.inr (by decide)) a16 e16
  intro A17 a17 S17 e17
  have L17 := L16.step 22 21 12 (by decide) (by decide) rfl rfl rfl rfl (Or.inr (by decide)) a17 e17
  intro A18 a18 S18 e18
  have L18 := L17.step 23 21 12 (by decide) (by decide) rfl rfl rfl rfl (Or.inr (by decide)) a18 e18
  intro A19 a19 S19 e19
  have L19 := L18.step 24 22 1600 (by decide) (by decide) rfl rfl rfl rfl (Or.inr (by decide)) a19 e19
  intro A20 a20 S20 e20
  have L20 := L19.step 26 22 12 (by decide) (by decide) rfl rfl rfl rfl (Or.inr (by decide)) a20 e20
  intro A21 a21 S21 e21
  have L21 := L20.step 27 21 1000 (by decide) (by decide) rfl rfl rfl rfl (Or.inr (by decide)) a21 e21
  intro A22 a22 S22 e22
  have L22 := L21.step 28 21 1000 (by decide) (by decide) rfl rfl rfl rfl (Or.inr (by decide)) a22 e22
  intro A23 a23 S23 e23
  have L23 := L22.step 30 21 1000 (by decide) (by decide) rfl rfl rfl rfl (Or.inr (by decide)) a23 e23
  intro A24 a24 S24 e24
  have L24 := L23.step 31 21 1000 (by decide) (by decide) rfl rfl rfl rfl (Or.inr (by decide)) a24 e24
  intro A25 a25 S25 e25
  have L25 := L24.step 32 21 1000 (by decide) (by decide) rfl rfl rfl rfl (Or.inr (by decide)) a25 e25
  intro A26 a26 S26 e26
  have L26 := L25.step 33 21 1000 (by decide) (by decide) rfl rfl rfl rfl (Or.inr (by decide)) a26 e26
  intro A27 a27 S27 e27
  have L27 := L26.step 38 21 1600 (by decide) (by decide) rfl rfl rfl rfl (Or.inr (by decide)) a27 e27
  intro A28 a28 S28 e28
  have L28 := L27.step 39 21 1600 (by decide) (by decide) rfl rfl rfl rfl (Or.inr (by decide)) a28 e28
  intro A29 a29 S29 e29
  have L29 := L28.step 40 21 1600 (by decide) (by decide) rfl rfl rfl rfl (Or.inr (by decide)) a29 e29
  intro A30 a30 S30 e30
  have L30 := L29.step 42 21 1600 (by decide) (by decide) rfl rfl rfl rfl (Or.inr (by decide)) a30 e30
  intro A31 a31 S31 e31
  have L31 := L30.step 43 21 1600 (by decide) (by decide) rfl rfl rfl rfl (Or.inr (by decide)) a31 e31
  intro A32 a32 S32 e32
  have L32 := L31.step 45 21 1000 (by decide) (by decide) rfl rfl rfl rfl (Or.inr (by decide)) a32 e32
  intro A33 a33 S33 e33
  have L33 := L32.step 49 21 61 (by decide) (by decide) rfl rfl rfl rfl (Or.inr (by decide)) a33 e33
  intro A34 a34 S34 e34
  have L34 := L33.step 50 21 61 (by decide) (by decide) rfl rfl rfl rfl (Or.inr (by decide)) a34 e34
  intro A35 a35 S35 e35
  have L35 := L34.step 51 21 61 (by decide) (by decide) rfl rfl rfl rfl (Or.inr (by decide)) a35 e35
  intro A36 a36 S36 e36
  have L36 := L35.step 52 21 61 (by decide) (by decide) rfl rfl rfl rfl (Or.inr (by decide)) a36 e36
  intro A37 a37 S37 e37
  have L37 := L36.step 53 21 61 (by decide) (by decide) rfl rfl rfl rfl (Or.inr (by decide)) a37 e37
  intro A38 a38 S38 e38
  have L38 := L37.step 54 21 61 (by decide) (by decide) rfl rfl rfl rfl (Or.inr (by decide)) a38 e38
  intro A39 a39 S39 e39
  have L39 := L38.step 55 21 61 (by decide) (by decide) rfl rfl rfl rfl (Or.inr (by decide)) a39 e39
  intro A40 a40 S40 e40
  have L40 := L39.step 56 21 61 (by decide) (by decide) rfl rfl rfl rfl (Or.inr (by decide)) a40 e40
  intro A41 a41 S41 e41
  have L41 := L40.step 57 23 61 (by decide) (by decide) rfl rfl rfl rfl (Or.inr (by decide)) a41 e41
  intro A42 a42 S42 e42
  have L42 := L41.step 58 21 61 (by decide) (by decide) rfl rfl rfl rfl (Or.inr (by decide)) a42 e42
  intro A43 a43 S43 e43
  have L43 := L42.step 59 23 12 (by decide) (by decide) rfl rfl rfl rfl (Or.inr (by decide)) a43 e43
  intro A44 a44 S44 e44
  have L44 := L43.step 60 21 12 (by decide) (by decide) rfl rfl rfl rfl (Or.inr (by decide)) a44 e44
  intro A45 a45 S45 e45
  have L45 := L44.step 61 21 720 (by decide) (by decide) rfl rfl rfl rfl (Or.inr (by decide)) a45 e45
  intro A46 a46 S46 e46
  have L46 := L45.step 62 21 720 (by decide) (by decide) rfl rfl rfl rfl (Or.inr (by decide)) a46 e46
  intro A47 a47 S47 e47
  have L47 := L46.step 63 21 720 (by decide) (by decide) rfl rfl rfl rfl (Or.inr (by decide)) a47 e47
  intro A48 a48 S48 e48
  have L48 := L47.step 64 21 720 (by decide) (by decide) rfl rfl rfl rfl (Or.inr (by decide)) a48 e48
  intro A49 a49 S49 e49
  have L49 := L48.step 65 21 720 (by decide) (by decide) rfl rfl rfl rfl (Or.inr (by decide)) a49 e49
  intro A50 a50 S50 e50
  have L50 := L49.step 66 21 28800 (by decide) (by decide) rfl rfl rfl rfl (Or.inr (by decide)) a50 e50
  intro A51 a51 S51 e51
  have L51 := L50.step 67 21 18000 (by decide) (by decide) rfl rfl rfl rfl (Or.inr (by decide)) a51 e51
  intro A52 a52 S52 e52
  have L52 := L51.step 68 21 12 (by decide) (by decide) rfl rfl rfl rfl (Or.inr (by decide)) a52 e52
  intro A53 a53 S53 e53
  have L53 := L52.step 69 21 18000 (by decide) (by decide) rfl rfl rfl rfl (Or.inr (by decide)) a53 e53
  intro A54 a54 S54 e54
  have L54 := L53.step 70 21 18000 (by decide) (by decide) rfl rfl rfl rfl (Or.inr (by decide)) a54 e54
  intro A55 a55 S55 e55
  have L55 := L54.step 71 21 18000 (by decide) (by decide) rfl rfl rfl rfl (Or.inr (by decide)) a55 e55
  intro A56 a56 S56 e56
  have L56 := L55.step 72 21 18000 (by decide) (by decide) rfl rfl rfl rfl (Or.inr (by decide)) a56 e56
  intro A57 a57 S57 e57
  have L57 := L56.step 73 21 12 (by decide) (by decide) rfl rfl rfl rfl (Or.inr (by decide)) a57 e57
  intro A58 a58 S58 e58
  have L58 := L57.step 74 21 122400 (by decide) (by decide) rfl rfl rfl rfl (Or.inr (by decide)) a58 e58
  intro A59 a59 S59 e59
  have L59 := L58.step 81 21 300 (by decide) (by decide) rfl rfl rfl rfl (Or.inr (by decide)) a59 e59
  intro A60 a60 S60 e60
  have L60 := L59.step 82 21 300 (by decide) (by decide) rfl rfl rfl rfl (Or.inr (by decide)) a60 e60
  intro A61 a61 S61 e61
  have L61 := L60.step 84 21 300 (by decide) (by decide) rfl rfl rfl rfl (Or.inr (by decide)) a61 e61
  intro A62 a62 S62 e62
  have L62 := L61.step 85 21 300 (by decide) (by decide) rfl rfl rfl rfl (Or.inr (by decide)) a62 e62
  intro A63 a63 S63 e63
  have L63 := L62.step 86 21 64 (by decide) (by decide) rfl rfl rfl rfl (Or.inr (by decide)) a63 e63
  intro A64 a64 S64 e64
  have L64 := L63.step 89 21 8000 (by decide) (by decide) rfl rfl rfl rfl (Or.inr (by decide)) a64 e64
  intro A65 a65 S65 e65
  have L65 := L64.step 90 21 8000 (by decide) (by decide) rfl rfl rfl rfl (Or.inr (by decide)) a65 e65
  intro A66 a66 S66 e66
  have L66 := L65.step 91 21 8000 (by decide) (by decide) rfl rfl rfl rfl (Or.inr (by decide)) a66 e66
  intro A67 a67 S67 e67
  have L67 := L66.step 92 21 8000 (by decide) (by decide) rfl rfl rfl rfl (Or.inr (by decide)) a67 e67
  intro A68 a68 S68 e68
  have L68 := L67.step 93 21 8000 (by decide) (by decide) rfl rfl rfl rfl (Or.inr (by decide)) a68 e68
  intro A69 a69 S69 e69
  have L69 := L68.step 94 21 8000 (by decide) (by decide) rfl rfl rfl rfl (Or.inr (by decide)) a69 e69
  intro A70 a70 S70 e70
  have L70 := L69.step 95 21 8000 (by decide) (by decide) rfl rfl rfl rfl (Or.inr (by decide)) a70 e70
  intro A71 a71 S71 e71
  have L71 := L70.step 96 21 8000 (by decide) (by decide) rfl rfl rfl rfl (Or.inr (by decide)) a71 e71
  intro A72 a72 S72 e72
  have L72 := L71.step 98 23 61 (by decide) (by decide) rfl rfl rfl rfl (Or.inr (by decide)) a72 e72
  intro A73 a73 S73 e73
  have L73 := L72.step 99 21 40 (by decide) (by decide) rfl rfl rfl rfl (Or.inr (by decide)) a73 e73
  intro A74 a74 S74 e74
  have L74 := L73.step 100 21 40 (by decide) (by decide) rfl rfl rfl rfl (Or.inr (by decide)) a74 e74
  intro A75 a75 S75 e75
  have L75 := L74.step 101 21 40 (by decide) (by decide) rfl rfl rfl rfl (Or.inr (by decide)) a75 e75
  exact ⟨rfl, q _ L75⟩
theorem Lk.lay {T0 T : Mem} {b : Nat} (h : Lk T0 b 75 T) : Lay b T := ⟨h.1, h.2.1, fun k hk h0 => h.2.2.2.2.1 k hk h0 (by have := maf_lt k; omega), h.2.2.2.2.2.2.2.2 (by decide)⟩
def sg0 : Rm := (fun _ _ => 0, fun _ _ => 0)
theorem Lk.vw {T0 T : Mem} {b : Nat} (h : Lk T0 b 75 T) : vw b T = sg0 := by
  refine Prod.ext ?_ ?_
  · funext k i
    show vwI b T k i = 0
    unfold vwI
    by_cases hk : k < 103
    · rw [if_pos hk]
      by_cases h0 : maf k = 0
      · rw [if_pos h0]
        by_cases hi : i = 0
        · rw [if_pos hi]; exact h.2.2.2.2.2.1 k
        · rw [if_neg hi]
      · rw [if_neg h0]; exact (h.2.2.2.2.2.2.1 (maf k) (by omega) (by have := maf_lt k; omega) i).1
    · rw [if_neg hk]
  · funext k i
    show vwL b T k i = 0
    unfold vwL
    by_cases hk : k < 103 ∧ maf k ≠ 0
    · rw [if_pos hk]; exact (h.2.2.2.2.2.2.1 (maf k) (by omega) (by have := maf_lt k; omega) i).2
    · rw [if_neg hk]

