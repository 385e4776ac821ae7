/-! the start: both objects are made -/
theorem mC0_k {L : Nat} {fx : Nat → Int32} : ∀ q ∈ cKs, isK (mC0 L fx) q.1 q.2 := by
  unfold cKs
  simp only [List.forall_mem_cons]
  exact ⟨isKr rfl rfl, isKr rfl rfl, isKr rfl rfl, isKr rfl rfl, isKr rfl rfl, isKr rfl rfl, isKr rfl rfl, isKr rfl rfl, isKr rfl rfl, isKr rfl rfl, isKr rfl rfl, isKr rfl rfl, isKr rfl rfl, isKr rfl rfl, isKr rfl rfl, isKr rfl rfl, isKr rfl rfl, isKr rfl rfl, isKr rfl rfl, isKr rfl rfl, fun _ h => absurd h List.not_mem_nil⟩
theorem mC0_r {L : Nat} {fx : Nat → Int32} : ∀ q ∈ cRs, gR (mC0 L fx) q.1 q.2.1 = q.2.2 := by
  unfold cRs
  simp only [List.forall_mem_cons]
  exact ⟨rfl, rfl, rfl, rfl, rfl, rfl, rfl, rfl, rfl, rfl, rfl, rfl, rfl, rfl, rfl, rfl, rfl, rfl, rfl, rfl, rfl, rfl, rfl, rfl, rfl, rfl, rfl, fun _ h => absurd h List.not_mem_nil⟩
theorem mC0_n {L : Nat} {fx : Nat → Int32} : ∀ q ∈ cNs, gN (mC0 L fx) q.1 = q.2 := by
  unfold cNs
  simp only [List.forall_mem_cons]
  exact ⟨rfl, rfl, rfl, rfl, rfl, rfl, rfl, rfl, rfl, fun _ h => absurd h List.not_mem_nil⟩
theorem mC0_l {L : Nat} {fx : Nat → Int32} {j : Nat} (hj : j < 23) : gL (mC0 L fx) 73 j = kw j := (kst_same (mTok0 (nw (mRdB (mRdA (nw (mem0 L fx) 11 0 6) 64) 64) 9 0 9) 72 65) 73 23).2.2.2.2.2.2.2 j hj
theorem mC0_tp {L : Nat} {fx : Nat → Int32} : tp (mC0 L fx) = 92 := rfl
theorem z_Rd (S : Mem) (r : Nat) : sz (mRdA S r) = sz S + 2 + 3000 ∧ sz (mRdB S r) = sz S + 4 + 3 + 128 + 128 + 12 ∧ sz (mRdT S r) = sz S + 9 + 23 + 64 + 64 + 64 ∧ sz (mRdG S r) = sz S + 18 + 3 + 32 + 3 + 32 + 8 + 64 + 40 + 40 + 40 + 61 + 12 + 12 := ⟨rfl, rfl, (kst_same _ _ _).2.2.2.2.2.1, rfl⟩
theorem z_Rd2 (S : Mem) (r tk : Nat) : sz (mRdP S r tk) = sz S + 6 ∧ sz (mRdL S r tk) = sz S + 3 := ⟨rfl, rfl⟩
theorem mC0_sz {L : Nat} {fx : Nat → Int32} : sz (mC0 L fx) ≤ 10000 := by
  unfold mC0 mRound
  rw [(z_Rd _ _).2.2.2, (z_Rd2 _ _ _).2, (z_Rd2 _ _ _).1, (z_Rd _ _).2.2.1, (z_Rd _ _).2.1, (z_Rd _ _).1, sz_nw, show sz (mem0 L fx) = 0 from rfl]
  decide
theorem mpre_75 : mpre 75 ≤ 600000 := by decide +kernel
/-- what holds behind both constructors -/
theorem fresh_T {L : Nat} {fx : Nat → Int32} {T : Mem} (h : Lk (nw (mC0 L fx) 13 0 103) 92 75 T) : FreshC T ∧ Lay 92 T ∧ vw 92 T = sg0 ∧ gN T 1 = L ∧ gI T 1 = fx ∧ tp T = 168 ∧ sz T ≤ 700000 := by
  have h8 := h.2.2.2.2.2.2.2.1
  have ht : tp T = 168 := h.2.2.1
  have hz : sz T = sz (nw (mC0 L fx) 13 0 103) + mpre 75 := h.2.2.2.1
  have n0 : ∀ a, a < 92 → ¬ a = tp (mC0 L fx) := fun a ha => by rw [mC0_tp]; omega
  have fI : ∀ a, a < 92 → gI T a = gI (mC0 L fx) a := fun a ha => (h8 a ha).1.trans (by funext j; rw [gI_nw, if_neg (n0 a ha)])
  have fL : ∀ a, a < 92 → gL T a = gL (mC0 L fx) a := fun a ha => (h8 a ha).2.1.trans (by funext j; rw [gL_nw, if_neg (n0 a ha)])
  have fR : ∀ a, a < 92 → gR T a = gR (mC0 L fx) a := fun a ha => (h8 a ha).2.2.1.trans (by funext j; rw [gR_nw, if_neg (n0 a ha)])
  have fK : ∀ a, a < 92 → gK T a = gK (mC0 L fx) a := fun a ha => (h8 a ha).2.2.2.1.trans (by rw [gK_nw, if_neg (n0 a ha)])
  have fN : ∀ a, a < 92 → gN T a = gN (mC0 L fx) a := fun a ha => (h8 a ha).2.2.2.2.trans (by rw [gN_nw, if_neg (n0 a ha)])
  have kk : ∀ a c, a < 92 → isK (mC0 L fx) a c → isK T a c := fun a c ha hk => ⟨by omega, by rw [fK a ha]; exact hk.2⟩
  have b1 : ∀ q ∈ cKs, q.1 < 92 := by decide
  have b2 : ∀ q ∈ cRs, q.1 < 92 := by decide
  have b3 : ∀ q ∈ cNs, q.1 < 92 := by decide
  refine ⟨⟨⟨fun q hq => kk _ _ (b1 q hq) (mC0_k q hq), fun q hq => by rw [fR _ (b2 q hq)]; exact mC0_r q hq, fun q hq => by rw [fN _ (b3 q hq)]; exact mC0_n q hq, fun j hj => by rw [fL _ (by decide)]; exact mC0_l hj⟩, ?_, ?_, ?_, ?_, ?_, ?_, ?_, ?_, ?_, ?_, ?_, ?_⟩, h.lay, h.vw, ?_, ?_, ht, ?_⟩
  · rw [fI _ (by decide)]; rfl
  · rw [fI _ (by decide)]; rfl
  · rw [fI _ (by decide)]; rfl
  · rw [fR _ (by decide)]; rfl
  · rw [fR _ (by decide)]; rfl
  · rw [fR _ (by decide)]; rfl
  · exact kk _ _ (by decide) (isKr rfl rfl)
  · exact kk _ _ (by decide) (isKr rfl rfl)
  · exact kk _ _ (by decide) (isKr rfl rfl)
  · rw [fN _ (by decide)]; rfl
  · rw [fN _ (by decide)]; rfl
  · rw [fN _ (by decide)]; rfl
  · rw [fN _ (by decide)]; rfl
  · rw [fI _ (by decide)]; rfl
  · have h1 := @mC0_sz L fx
    have h2 := mpre_75
    rw [hz, sz_nw]
    omega
/-- the law from its beginning to its loop -/
theorem law_start {X : Cx} (h : ∀ T, Lk (nw (mC0 (xL X) (xf X)) 13 0 103) 92 75 T → V X 2048 ML_law 18 [(0, vR 1), (1, vR 64), (2, vR 92), (3, vI 0)] [] T LawQ) : V X 2048 ML_law 0 [(0, vR 1)] [] (mem0 (xL X) (xf X)) LawQ := by
  refine w_L_law_0 (fun S1 e1 => ⟨by show (64 : Nat) ≠ 0; decide, 5, by decide, ?_⟩)
  rw [e1]
  refine c_Round_init (fun S7 e7 => ⟨by rw [mC0_tp]; decide, 5, by decide, ?_⟩)
  rw [e7, mC0_tp]
  exact c_model (by decide) (isKr rfl rfl) rfl (fun i => rfl) (fun T hT => h T hT)

