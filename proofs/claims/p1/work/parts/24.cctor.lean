/-! the class's constructors: what they leave -/
def kwL : List Int64 := [23569509, 143, 294, 176741, 24388997, 21081, 3199080, 6759166361, 21252599, 609900110, 660876, 26514820, 14519, 609867173, 317002868, 3554917, 263620, 763528, 309903, 421, 20579973, 164968, 486]
def kw (n : Nat) : Int64 := kwL.getD n 0
def pPL : List Int64 := [0, 22, 719, 23017, 736547, 23569509, 0, 4, 143, 0, 9, 294, 0, 5, 172, 5523, 176741, 0, 23, 744, 23817, 762156, 24388997, 0, 20, 658, 21081, 0, 3, 97, 3124, 99971, 3199080, 0, 6, 201, 6446, 206273, 6600748, 211223948, 6759166361, 0, 20, 648, 20754, 664143, 21252599, 0, 18, 581, 18612, 595605, 19059378, 609900110, 0, 20, 645, 20652, 660876, 0, 25, 809, 25893, 828588, 26514820, 0, 14, 453, 14519, 0, 18, 581, 18611, 595573, 19058349, 609867173, 0, 9, 302, 9674, 309573, 9906339, 317002868, 0, 3, 108, 3471, 111091, 3554917, 0, 8, 257, 8238, 263620, 0, 23, 745, 23860, 763528, 0, 9, 302, 9684, 309903, 0, 13, 421, 0, 19, 628, 20097, 643124, 20579973, 0, 5, 161, 5155, 164968, 0, 15, 486, 0]
def pNL : List Nat := [0, 0, 0, 0, 0, 0, 1, 1, 1, 2, 2, 2, 3, 3, 3, 3, 3, 4, 4, 4, 4, 4, 4, 5, 5, 5, 5, 6, 6, 6, 6, 6, 6, 7, 7, 7, 7, 7, 7, 7, 7, 8, 8, 8, 8, 8, 8, 9, 9, 9, 9, 9, 9, 9, 10, 10, 10, 10, 10, 11, 11, 11, 11, 11, 11, 12, 12, 12, 12, 13, 13, 13, 13, 13, 13, 13, 14, 14, 14, 14, 14, 14, 14, 15, 15, 15, 15, 15, 15, 16, 16, 16, 16, 16, 17, 17, 17, 17, 17, 18, 18, 18, 18, 18, 19, 19, 19, 20, 20, 20, 20, 20, 20, 21, 21, 21, 21, 21, 22, 22, 22, 23]
def pP (i : Nat) : Int64 := pPL.getD i 0
def pN (i : Nat) : Nat := pNL.getD i 0
theorem pk_step : ∀ i : Fin 121, (chB (stB 28 i.1) = 32 → pN i.1 < 23 ∧ pP i.1 = kw (pN i.1) ∧ pN (i.1 + 1) = pN i.1 + 1 ∧ pP (i.1 + 1) = 0) ∧ (¬ chB (stB 28 i.1) = 32 → pN (i.1 + 1) = pN i.1 ∧ pP (i.1 + 1) = pP i.1 * 32 + (((chB (stB 28 i.1) - 97) + 1) : Int32).toInt64) := by decide +kernel
/-- a row of longs, filled with the keys -/
def kst (T : Mem) (a : Nat) : Nat → Mem
  | 0 => T
  | n + 1 => uL (kst T a n) a n (kw n)
theorem kst_same (T : Mem) (a : Nat) : ∀ n, gI (kst T a n) = gI T ∧ gR (kst T a n) = gR T ∧ gK (kst T a n) = gK T ∧ gN (kst T a n) = gN T ∧ tp (kst T a n) = tp T ∧ sz (kst T a n) = sz T ∧ (∀ c, c ≠ a → gL (kst T a n) c = gL T c) ∧ ∀ i, i < n → gL (kst T a n) a i = kw i := by
  intro n
  induction n with
  | zero => exact ⟨rfl, rfl, rfl, rfl, rfl, rfl, fun _ _ => rfl, fun i hi => absurd hi (Nat.not_lt_zero _)⟩
  | succ n ih =>
    obtain ⟨h1, h2, h3, h4, h5, h6, h7, h8⟩ := ih
    refine ⟨h1, h2, h3, h4, h5, h6, fun c hc => (up2_ne (f := (kst T a n).2.1) hc).trans (h7 c hc), fun i hi => ?_⟩
    show gL (uL (kst T a n) a n (kw n)) a i = _
    rw [gL_uL]
    by_cases c : i = n
    · rw [if_pos ⟨rfl, c⟩, c]
    · rw [if_neg (fun z => c z.2)]; exact h8 i (by omega)
theorem isK_kst {T : Mem} {a n c k : Nat} (h : isK T c k) : isK (kst T a n) c k := by
  obtain ⟨-, -, h3, -, h5, -⟩ := kst_same T a n
  exact ⟨by rw [h5]; exact h.1, by rw [h3]; exact h.2⟩
def nwR (S : Mem) (kd n w r k : Nat) : Mem := uR (nw S kd n w) r k (tp S)
def mTape (S : Mem) (r : Nat) : Mem := nwR S 20 3000 3000 r 0
def mCode (S : Mem) (r : Nat) : Mem := nwR (nwR S 20 128 128 r 0) 21 128 128 r 1
def mStory (S : Mem) (r : Nat) : Mem := nwR (uR (mCode (nw S 1 0 3) (tp S)) r 0 (tp S)) 24 12 12 r 1
def mPairs (S : Mem) (r : Nat) : Mem := nwR S 21 32 32 r 0
def mFail (S : Mem) (r : Nat) : Mem := nwR (nwR (nwR (nwR S 21 64 64 r 0) 21 40 40 r 5) 21 40 40 r 6) 21 40 40 r 7
def mTok0 (S : Mem) (r r1 : Nat) : Mem := uR (nwR (nwR (nwR (nwR S 22 23 23 r 1) 21 64 64 r 2) 21 64 64 r 3) 22 64 64 r 4) r 0 r1
def mTok (S : Mem) (r r1 : Nat) : Mem := kst (mTok0 S r r1) (tp S) 23
def mPars1 (S : Mem) (r r1 r2 : Nat) : Mem := uR (uR S r 0 r1) r 1 r2
def mPars (S : Mem) (r r1 r2 : Nat) : Mem := uR (mPars1 S r r1 r2) r 2 (gR (mPars1 S r r1 r2) r2 0)
def mClear (S : Mem) (r : Nat) : Mem := uI (uI (uI S r 1 1) r 2 0) r 3 0
def mStA (S : Mem) (r : Nat) : Mem := uR (mPairs (nw S 4 0 3) (tp S)) r 0 (tp S)
def mStB (S : Mem) (r : Nat) : Mem := uR (mPairs (nw S 4 0 3) (tp S)) r 1 (tp S)
def mStC (S : Mem) (r : Nat) : Mem := uR (mFail (nw S 2 0 8) (tp S)) r 2 (tp S)
def mStD (S : Mem) (r : Nat) : Mem := nwR (nwR (nwR S 25 61 61 r 5) 26 12 12 r 6) 21 12 12 r 7
def mStE (S : Mem) (r r1 : Nat) : Mem := uR (uR S r 3 r1) r 4 (gR (uR S r 3 r1) r1 0)
def mSt0 (S : Mem) (r r1 : Nat) : Mem := mStE (mStD (mStC (mStB (mStA S r) r) r) r) r r1
def mStage (S : Mem) (r r1 : Nat) : Mem := mClear (mSt0 S r r1) (gR (mSt0 S r r1) r 2)
def mRdA (S : Mem) (r : Nat) : Mem := uR (mTape (nw S 8 0 2) (tp S)) r 0 (tp S)
def mRdB (S : Mem) (r : Nat) : Mem := uR (mStory (nw S 7 0 4) (tp S)) r 1 (tp S)
def mRdT (S : Mem) (r : Nat) : Mem := mTok (nw S 9 0 9) (tp S) (gR (nw S 9 0 9) r 0)
def mRdP (S : Mem) (r tk : Nat) : Mem := uR (mPars (nw S 5 0 6) (tp S) tk (gR (nw S 5 0 6) r 1)) r 2 (tp S)
def mRdL (S : Mem) (r tk : Nat) : Mem := uR (mPars (nw S 3 0 3) (tp S) tk (gR (nw S 3 0 3) r 1)) r 3 (tp S)
def mRdG (S : Mem) (r : Nat) : Mem := uR (mStage (nw S 6 0 18) (tp S) (gR (nw S 6 0 18) r 1)) r 4 (tp S)
def mRound (S : Mem) (r : Nat) : Mem := mRdG (mRdL (mRdP (mRdT (mRdB (mRdA S r) r) r) r (tp (mRdB (mRdA S r) r))) r (tp (mRdB (mRdA S r) r))) r
theorem c_Tape_init {X : Cx} {S : Mem} {F : Mem → Prop} {r : Nat} (h0 : r ≠ 0) (hk : isK S r 8) (q : F (mTape S r)) : C X 1 MX8_init [vR r] S (RV F) :=
  C_of_V rfl (Nat.le_of_ble_eq_true rfl) rfl (w_X8_init_0 r ⟨Nat.le_refl _, h0, fun S4 e4 => ⟨by rw [e4]; exact isK_nw hk, fun S6 e6 => ⟨rfl, by rw [e6, e4]; exact q⟩⟩⟩)
theorem c_Code_init {X : Cx} {S : Mem} {F : Mem → Prop} {r : Nat} (h0 : r ≠ 0) (hk : isK S r 1) (q : F (mCode S r)) : C X 1 MX1_init [vR r] S (RV F) :=
  C_of_V rfl (Nat.le_of_ble_eq_true rfl) rfl (w_X1_init_0 r ⟨Nat.le_refl _, h0, fun S4 e4 => ⟨by rw [e4]; exact isK_nw hk, fun S6 e6 S8 e8 S9 e9 => ⟨rfl, by rw [e9, e8, e6, e4]; exact q⟩⟩⟩)
theorem c_Story_init {X : Cx} {S : Mem} {F : Mem → Prop} {r : Nat} (h0 : r ≠ 0) (ht : tp S ≠ 0) (hk : isK S r 7) (q : F (mStory S r)) : C X 2 MX7_init [vR r] S (RV F) :=
  C_of_V rfl (Nat.le_of_ble_eq_true rfl) rfl (w_X7_init_0 r ⟨by decide, h0, fun S3 e3 => ⟨ht, 1, Nat.le_refl _, c_Code_init ht (by rw [e3]; exact isK_new) ⟨by rw [e3]; exact isK_nw (isK_nw (isK_nw hk)), fun S10 e10 S11 e11 S12 e12 => ⟨rfl, by rw [e12, e11, e10, e3]; exact q⟩⟩⟩⟩)
theorem c_Pairs_init {X : Cx} {S : Mem} {F : Mem → Prop} {r : Nat} (h0 : r ≠ 0) (hk : isK S r 4) (q : F (mPairs S r)) : C X 1 MX4_init [vR r] S (RV F) :=
  C_of_V rfl (Nat.le_of_ble_eq_true rfl) rfl (w_X4_init_0 r ⟨Nat.le_refl _, h0, fun S4 e4 => ⟨by rw [e4]; exact isK_nw hk, fun S6 e6 => ⟨rfl, by rw [e6, e4]; exact q⟩⟩⟩)
theorem c_Fail_init {X : Cx} {S : Mem} {F : Mem → Prop} {r : Nat} (h0 : r ≠ 0) (hk : isK S r 2) (q : F (mFail S r)) : C X 1 MX2_init [vR r] S (RV F) :=
  C_of_V rfl (Nat.le_of_ble_eq_true rfl) rfl (w_X2_init_0 r ⟨Nat.le_refl _, h0, fun S4 e4 => ⟨by rw [e4]; exact isK_nw hk, fun S6 e6 S8 e8 S9 e9 S11 e11 S12 e12 S14 e14 S15 e15 => ⟨rfl, by rw [e15, e14, e12, e11, e9, e8, e6, e4]; exact q⟩⟩⟩)
theorem c_Fail_comeOut {X : Cx} {S : Mem} {F : Mem → Prop} {r : Nat} {x : Int32} (hk : isK S r 2) (q : F (uI (uI S r 2 x) r 3 0)) : C X 0 MX2_comeOut [vR r, vI x] S (RV F) :=
  C_of_V rfl (Nat.le_of_ble_eq_true rfl) rfl (w_X2_comeOut_0 r x ⟨hk, fun S2 e2 S3 e3 => ⟨rfl, by rw [e3, e2]; exact q⟩⟩)
theorem c_Fail_clear {X : Cx} {S : Mem} {F : Mem → Prop} {r : Nat} (hk : isK S r 2) (q : F (mClear S r)) : C X 1 MX2_clear [vR r] S (RV F) :=
  C_of_V rfl (Nat.le_of_ble_eq_true rfl) rfl (w_X2_clear_0 r ⟨hk, fun S2 e2 => ⟨0, Nat.le_refl _, c_Fail_comeOut (by rw [e2]; exact hk) ⟨rfl, by rw [e2]; exact q⟩⟩⟩)
theorem c_Pars_init {X : Cx} {S : Mem} {F : Mem → Prop} {r r1 r2 : Nat} (h0 : r ≠ 0) (hk : isK S r 5) (hk2 : isK S r2 7) (q : F (mPars S r r1 r2)) : C X 1 MX5_init [vR r, vR r1, vR r2] S (RV F) :=
  C_of_V rfl (Nat.le_of_ble_eq_true rfl) rfl (w_X5_init_0 r r1 r2 ⟨Nat.le_refl _, h0, hk, fun S4 e4 S5 e5 => ⟨hk2, fun S7 e7 => ⟨rfl, by rw [e7, e5, e4]; exact q⟩⟩⟩)
theorem c_Link_init {X : Cx} {S : Mem} {F : Mem → Prop} {r r1 r2 : Nat} (h0 : r ≠ 0) (hk : isK S r 3) (hk2 : isK S r2 7) (q : F (mPars S r r1 r2)) : C X 1 MX3_init [vR r, vR r1, vR r2] S (RV F) :=
  C_of_V rfl (Nat.le_of_ble_eq_true rfl) rfl (w_X3_init_0 r r1 r2 ⟨Nat.le_refl _, h0, hk, fun S4 e4 S5 e5 => ⟨hk2, fun S7 e7 => ⟨rfl, by rw [e7, e5, e4]; exact q⟩⟩⟩)
theorem tok_loop {X : Cx} {S0 : Mem} {Q : Res → Mem → Prop} {r r1 : Nat} (hk : isK S0 r 9) (hk2 : isK S0 (gR S0 r 1) 22) (hn : gN S0 (gR S0 r 1) = 23) (q : Q (.inl none) (kst S0 (gR S0 r 1) 23)) : ∀ m i : Nat, m + i = 121 →
    V X 4 MX9_init 49 [(0, vR r), (1, vR r1), (2, vL (pP i)), (4, vI (nI (pN i))), (5, vI (nI i))] [] (kst S0 (gR S0 r 1) (pN i)) Q := by
  intro m
  induction m with
  | zero =>
    intro i hi
    have : i = 121 := by omega
    subst this
    exact w_X9_init_49 r r1 _ _ _ ⟨1, by decide, c_length ⟨by decide, by decide⟩ ⟨fun _ => q, fun n => absurd (by decide) n⟩⟩
  | succ m ih =>
    intro i hi
    obtain ⟨p1, p2⟩ := pk_step ⟨i, by omega⟩
    obtain ⟨h1, h2, h3, h4, h5, h6, h7, h8⟩ := kst_same S0 (gR S0 r 1) (pN i)
    refine w_X9_init_49 r r1 _ _ _ ⟨1, by decide, c_length ⟨by decide, by decide⟩ ⟨fun hc => ?_, fun _ => ⟨3, by decide, c_charAt ⟨by decide, by decide⟩ (by show i < 121; omega) ⟨fun hc => ?_, fun hc => ?_⟩⟩⟩⟩
    · rw [show nI (stN (2 + 26)) = nI 121 from rfl, le_nI (by omega) (by omega)] at hc; omega
    · obtain ⟨g1, g2, g3, g4⟩ := p1 hc
      refine ⟨fun h23 => ?_, fun _ => ⟨isK_kst hk, ?_, ?_, fun S17 e17 => ?_⟩⟩
      · rw [show (23 : Int32) = nI 23 from rfl, le_nI (by omega) (by have : pN i < 23 := g1; omega)] at h23
        have : pN i < 23 := g1
        omega
      · rw [h2]; exact isK_kst hk2
      · rw [h2, h4, hn]; exact vp_in_nI g1 (by omega)
      · refine w_X9_init_113 r r1 _ _ _ _ ?_
        have g1' : pN i < 23 := g1
        have g2' : pP i = kw (pN i) := g2
        have g3' : pN (i + 1) = pN i + 1 := g3
        have g4' : pP (i + 1) = 0 := g4
        have e : S17 = kst S0 (gR S0 r 1) (pN (i + 1)) := by
          rw [e17, h2, cl_nI (by omega), g2', g3']; rfl
        rw [e, nI_1, nI_1, ← g3', ← g4']
        exact ih (i + 1) (by omega)
    · obtain ⟨g1, g2⟩ := p2 hc
      have g1' : pN (i + 1) = pN i := g1
      have g2' : pP (i + 1) = pP i * 32 + (((chB (stB 28 i) - 97) + 1) : Int32).toInt64 := g2
      refine w_X9_init_113 r r1 _ _ _ _ ?_
      rw [nI_1]
      have k := ih (i + 1) (by omega)
      rw [g1', g2'] at k
      exact k
theorem c_Tok_init {X : Cx} {S : Mem} {F : Mem → Prop} {r r1 : Nat} (h0 : r ≠ 0) (hr : r ≠ tp S) (hk : isK S r 9) (q : F (mTok S r r1)) : C X 4 MX9_init [vR r, vR r1] S (RV F) := by
  refine C_of_V rfl (Nat.le_of_ble_eq_true rfl) rfl (w_X9_init_0 r r1 ⟨by decide, h0, fun S4 e4 => ⟨by rw [e4]; exact isK_nw hk, fun S6 e6 S8 e8 S9 e9 S11 e11 S12 e12 S14 e14 S15 e15 S16 e16 => ?_⟩⟩)
  have e : S16 = mTok0 S r r1 := by rw [e16, e15, e14, e12, e11, e9, e8, e6, e4]; rfl
  have hg : gR (mTok0 S r r1) r 1 = tp S := by
    have hlt := hk.1
    show gR (uR (nwR (nwR (nwR (nwR S 22 23 23 r 1) 21 64 64 r 2) 21 64 64 r 3) 22 64 64 r 4) r 0 r1) r 1 = tp S
    unfold nwR
    simp only [gR_uR, gR_nw, tp_uR, tp_nw]
    simp
    rw [if_neg (by omega), if_neg (by omega), if_neg (by omega)]
  have hn : gN (mTok0 S r r1) (gR (mTok0 S r r1) r 1) = 23 := by
    rw [hg]
    show gN (uR (nwR (nwR (nwR (nwR S 22 23 23 r 1) 21 64 64 r 2) 21 64 64 r 3) 22 64 64 r 4) r 0 r1) (tp S) = 23
    unfold nwR
    simp only [gN_uR, gN_nw, tp_uR, tp_nw]
    simp
    rw [if_neg (by omega), if_neg (by omega)]
  have hkk : isK (mTok0 S r r1) (gR (mTok0 S r r1) r 1) 22 := by rw [hg]; exact isK_nw (isK_nw (isK_nw isK_new))
  have K := tok_loop (X := X) (r1 := r1) (S0 := mTok0 S r r1) (Q := RV F) (r := r) (isK_nw (isK_nw (isK_nw (isK_nw hk)))) hkk hn (by rw [hg]; exact ⟨rfl, q⟩) 121 0 rfl
  rw [e]
  exact K
theorem c_Stage_init {X : Cx} {S : Mem} {F : Mem → Prop} {r r1 : Nat} (h0 : r ≠ 0) (ht : tp S ≠ 0) (hk : isK S r 6) (hk1 : isK S r1 7) (hf : isK (mSt0 S r r1) (gR (mSt0 S r r1) r 2) 2) (q : F (mStage S r r1)) : C X 2 MX6_init [vR r, vR r1] S (RV F) := by
  refine C_of_V rfl (Nat.le_of_ble_eq_true rfl) rfl (w_X6_init_0 r r1 ⟨by decide, h0, fun S3 e3 => ⟨ht, 1, Nat.le_refl _, c_Pairs_init ht (by rw [e3]; exact isK_new) ⟨by rw [e3]; exact isK_nw (isK_nw hk), fun S10 e10 S11 e11 => ?_⟩⟩⟩)
  have f10 : S10 = mStA S r := by rw [e10, e3]; rfl
  have t10 : tp S10 ≠ 0 := by rw [f10]; exact Nat.succ_ne_zero _
  have k10 : isK S10 r 6 := by rw [f10]; exact isK_nw (isK_nw hk)
  refine ⟨t10, 1, Nat.le_refl _, c_Pairs_init t10 (by rw [e11]; exact isK_new) ⟨by rw [e11]; exact isK_nw (isK_nw k10), fun S18 e18 S19 e19 => ?_⟩⟩
  have f18 : S18 = mStB S10 r := by rw [e18, e11]; rfl
  have t18 : tp S18 ≠ 0 := by rw [f18]; exact Nat.succ_ne_zero _
  have k18 : isK S18 r 6 := by rw [f18]; exact isK_nw (isK_nw k10)
  refine ⟨t18, 1, Nat.le_refl _, c_Fail_init t18 (by rw [e19]; exact isK_new) ⟨by rw [e19]; exact isK_nw (isK_nw (isK_nw (isK_nw (isK_nw k18)))), fun S26 e26 S27 e27 S28 e28 S29 e29 S30 e30 S32 e32 S33 e33 S34 e34 => ?_⟩⟩
  have f26 : S26 = mStC S18 r := by rw [e26, e19]; rfl
  have f33 : S33 = mStD S26 r := by rw [e33, e32, e30, e29, e28, e27]; rfl
  have k1 : isK S32 r1 7 := by
    rw [e32, e30, e29, e28, e27, f26, f18, f10]
    exact isK_nw (isK_nw (isK_nw (isK_nw (isK_nw (isK_nw (isK_nw (isK_nw (isK_nw (isK_nw (isK_nw (isK_nw hk1)))))))))))
  refine ⟨k1, fun S36 e36 => ?_⟩
  have f36 : S36 = mSt0 S r r1 := by rw [e36, e34, f33, f26, f18, f10]; rfl
  have k32 : isK S32 (gR S36 r 2) 2 := by
    have h := hf
    rw [← f36] at h
    have e : isK S36 (gR S36 r 2) 2 ↔ isK S32 (gR S36 r 2) 2 := by
      have : gK S36 = gK S32 ∧ tp S36 = tp S32 := by rw [e36, e34, e33]; exact ⟨rfl, rfl⟩
      unfold isK; rw [this.1, this.2]
    exact e.mp h
  refine ⟨k32, 1, Nat.le_refl _, c_Fail_clear (by rw [f36]; exact hf) ⟨rfl, ?_⟩⟩
  rw [f36]; exact q
/-- the class's constructor, at the law's start -/
def mC0 (L : Nat) (fx : Nat → Int32) : Mem := mRound (nw (mem0 L fx) 11 0 6) 64
theorem c_Round_init {X : Cx} {L : Nat} {fx : Nat → Int32} {F : Mem → Prop} (q : F (mC0 L fx)) : C X 5 MX11_init [vR 64] (nw (mem0 L fx) 11 0 6) (RV F) := by
  have hk : isK (nw (mem0 L fx) 11 0 6) 64 11 := isKr rfl rfl
  refine C_of_V rfl (Nat.le_of_ble_eq_true rfl) rfl (w_X11_init_0 64 ⟨by decide, by decide, fun S3 e3 => ⟨Nat.succ_ne_zero _, 1, by decide, c_Tape_init (Nat.succ_ne_zero _) (by rw [e3]; exact isK_new) ⟨by rw [e3]; exact isK_nw (isK_nw hk), fun S10 e10 S11 e11 => ?_⟩⟩⟩)
  have f10 : S10 = mRdA (nw (mem0 L fx) 11 0 6) 64 := by rw [e10, e3]; rfl
  have k10 : isK S10 64 11 := by rw [f10]; exact isK_nw (isK_nw hk)
  have t10 : tp S10 ≠ 0 := by rw [f10]; exact Nat.succ_ne_zero _
  refine ⟨t10, 2, by decide, c_Story_init t10 (by rw [e11]; exact Nat.succ_ne_zero _) (by rw [e11]; exact isK_new) ⟨by rw [e11]; exact isK_nw (isK_nw (isK_nw (isK_nw (isK_nw k10)))), fun S18 e18 S19 e19 => ?_⟩⟩
  have f18 : S18 = mRdB S10 64 := by rw [e18, e11]; rfl
  have k18 : isK S18 64 11 := by rw [f18]; exact isK_nw (isK_nw (isK_nw (isK_nw (isK_nw k10))))
  have t18 : tp S18 ≠ 0 := by rw [f18]; exact Nat.succ_ne_zero _
  refine ⟨t18, 4, by decide, c_Tok_init t18 (by rw [e19]; show tp S18 ≠ tp S18 + 1; omega) (by rw [e19]; exact isK_new) fun S25 e25 => ?_⟩
  have f23 : mTok S19 (tp S18) (gR S19 64 0) = mRdT S18 64 := by rw [e19]; rfl
  rw [f23] at e25 ⊢
  have k23 : isK (mRdT S18 64) 64 11 := isK_kst (isK_nw (isK_nw (isK_nw (isK_nw (isK_nw k18)))))
  have t23 : tp (mRdT S18 64) ≠ 0 := by
    have : tp (mRdT S18 64) = _ := (kst_same _ _ _).2.2.2.2.1
    rw [this]; exact Nat.succ_ne_zero _
  have s25 : isK S25 (gR S25 64 1) 7 := by rw [e25, f18, f10]; exact isKr rfl rfl
  refine ⟨by rw [e25]; exact isK_nw k23, t23, 1, by decide, c_Pars_init t23 (by rw [e25]; exact isK_new) s25 ⟨by rw [e25]; exact isK_nw k23, fun S33 e33 S34 e34 => ?_⟩⟩
  have f33 : S33 = mRdP (mRdT S18 64) 64 (tp S18) := by rw [e33, e25]; rfl
  have k33 : isK S33 64 11 := by rw [f33]; exact isK_nw k23
  have t33 : tp S33 ≠ 0 := by rw [f33]; exact Nat.succ_ne_zero _
  have s34 : isK S34 (gR S34 64 1) 7 := by rw [e34, f33, f18, f10]; exact isKr rfl rfl
  refine ⟨t33, 1, by decide, c_Link_init t33 (by rw [e34]; exact isK_new) s34 ⟨by rw [e34]; exact isK_nw k33, fun S41 e41 S42 e42 => ?_⟩⟩
  have f41 : S41 = mRdL S33 64 (tp S18) := by rw [e41, e34]; rfl
  have k41 : isK S41 64 11 := by rw [f41]; exact isK_nw k33
  have t41 : tp S41 ≠ 0 := by rw [f41]; exact Nat.succ_ne_zero _
  have s42 : isK S42 (gR S42 64 1) 7 := by rw [e42, f41, f33, f18, f10]; exact isKr rfl rfl
  refine ⟨t41, 2, by decide, c_Stage_init t41 (by rw [e42]; exact Nat.succ_ne_zero _) (by rw [e42]; exact isK_new) s42 (by rw [e42, f41, f33, f18, f10]; exact isKr rfl rfl) ⟨?_, fun S49 e49 => ?_⟩⟩
  · rw [e42, f41, f33, f18, f10]; exact isKr rfl rfl
  · have f49 : S49 = mC0 L fx := by rw [e49, e42, f41, f33, f18, f10]; rfl
    rw [f49]; exact ⟨rfl, q⟩

