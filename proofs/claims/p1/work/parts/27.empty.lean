/-! compile of an empty tape, in the class and in the reference -/
theorem c_failAll0 {X : Cx} {S : Mem} {F : Mem → Prop} (hL : LayC S) (h : gI S 79 10 = 0) (q : F S) : C X 0 MX6_failAll [vR 79] S (RV F) :=
  C_of_V rfl (Nat.le_of_ble_eq_true rfl) rfl (w_X6_failAll_0 79 (w_X6_failAll_2 79 1 ⟨hL.k 79 6, fun _ => ⟨rfl, q⟩, fun c => absurd (by rw [h]; decide) c⟩))
/-- the stage's reset, when no voice was made -/
def rst (S : Mem) : Mem := uI (uI (uI (uI (uI (uI (uI (uI (uI (mClear (uI (uI (uI (uI S 80 1 0) 80 2 0) 82 1 0) 82 2 0) 84) 79 9 0) 79 10 0) 79 11 0) 79 12 0) 79 13 0) 79 14 0) 79 15 1) 79 16 0) 79 17 0
theorem c_reset0 {X : Cx} {S : Mem} {F : Mem → Prop} (hL : LayC S) (h : gI S 79 10 = 0) (q : F (rst S)) : C X 2 MX6_reset [vR 79] S (RV F) := by
  refine C_of_V rfl (Nat.le_of_ble_eq_true rfl) rfl (w_X6_reset_0 79 ⟨hL.k 79 6, 0, by decide, c_failAll0 hL h ⟨hL.k 79 6, by rw [hL.r 79 0 80]; exact hL.k 80 4, 0, by decide, ?_⟩⟩)
  rw [hL.r 79 0 80]
  refine c_Pairs_clear (hL.k 80 4) ⟨hL.k 79 6, by rw [show gR (uI (uI S 80 1 0) 80 2 0) 79 1 = 82 from hL.r 79 1 82]; exact hL.k 82 4, 0, by decide, ?_⟩
  rw [show gR (uI (uI S 80 1 0) 80 2 0) 79 1 = 82 from hL.r 79 1 82]
  refine c_Pairs_clear (hL.k 82 4) ⟨hL.k 79 6, by rw [show gR (uI (uI (uI (uI S 80 1 0) 80 2 0) 82 1 0) 82 2 0) 79 2 = 84 from hL.r 79 2 84]; exact hL.k 84 2, 1, by decide, ?_⟩
  rw [show gR (uI (uI (uI (uI S 80 1 0) 80 2 0) 82 1 0) 82 2 0) 79 2 = 84 from hL.r 79 2 84]
  refine c_Fail_clear (hL.k 84 2) ⟨hL.k 79 6, fun S25 e25 S26 e26 S27 e27 S28 e28 S29 e29 S30 e30 S31 e31 S32 e32 S33 e33 => ⟨rfl, ?_⟩⟩
  rw [e33, e32, e31, e30, e29, e28, e27, e26, e25]
  exact q
def low (a : Nat) : Prop := 64 ≤ a ∧ a < 92 ∧ a ≠ 73
/-- no cell more; below 92 all but the keys may change -/
def Ag (S S' : Mem) : Prop := gK S' = gK S ∧ gN S' = gN S ∧ tp S' = tp S ∧ sz S' = sz S ∧ ∀ a, ¬ low a → gI S' a = gI S a ∧ gL S' a = gL S a ∧ gR S' a = gR S a
theorem Ag.of {P : Nat → Prop} {S S' : Mem} (h : But P S S') (hp : ∀ a, P a → low a) : Ag S S' := ⟨h.2.1, h.2.2.1, h.2.2.2.1, h.2.2.2.2.1, fun a ha => ⟨(h.2.2.2.2.2 a (fun z => ha (hp a z))).1, (h.2.2.2.2.2 a (fun z => ha (hp a z))).2, by rw [h.1]⟩⟩
theorem Ag.trans {S S1 S2 : Mem} (h : Ag S S1) (g : Ag S1 S2) : Ag S S2 := ⟨g.1.trans h.1, g.2.1.trans h.2.1, g.2.2.1.trans h.2.2.1, g.2.2.2.1.trans h.2.2.2.1, fun a ha => ⟨(g.2.2.2.2 a ha).1.trans (h.2.2.2.2 a ha).1, (g.2.2.2.2 a ha).2.1.trans (h.2.2.2.2 a ha).2.1, (g.2.2.2.2 a ha).2.2.trans (h.2.2.2.2 a ha).2.2⟩⟩
theorem vw_cong {b : Nat} {S S' : Mem} (h : ∀ a, b ≤ a → a < b + 76 → gI S' a = gI S a ∧ gL S' a = gL S a) : vw b S' = vw b S := by
  refine Prod.ext ?_ ?_
  · funext k i
    show vwI b S' k i = vwI b S k i
    have hm := maf_lt k
    unfold vwI
    rw [(h b (by omega) (by omega)).1, (h (b + maf k) (by omega) (by omega)).1]
  · funext k i
    show vwL b S' k i = vwL b S k i
    have hm := maf_lt k
    unfold vwL
    rw [(h (b + maf k) (by omega) (by omega)).2]
theorem Ag.vw {S S' : Mem} (h : Ag S S') : vw 92 S' = vw 92 S := vw_cong (fun a h1 h2 => ⟨(h.2.2.2.2 a (fun z => by have := z.2.1; omega)).1, (h.2.2.2.2 a (fun z => by have := z.2.1; omega)).2.1⟩)
theorem Ag.lay {S S' : Mem} (h : Ag S S') (L : Lay 92 S) : Lay 92 S' := by
  have hR : ∀ a, 92 ≤ a → gR S' a = gR S a := fun a ha => (h.2.2.2.2 a (fun z => by have := z.2.1; omega)).2.2
  obtain ⟨h1, h2, h3, h4⟩ := L
  refine ⟨h1, ⟨by rw [h.2.2.1]; exact h2.1, by rw [h.1]; exact h2.2⟩, fun k hk h0 => ?_, fun i hi => by rw [hR _ (by decide)]; exact h4 i hi⟩
  obtain ⟨q1, q2, q3⟩ := h3 k hk h0
  exact ⟨by rw [hR _ (by decide)]; exact q1, ⟨by rw [h.2.2.1]; exact q2.1, by rw [h.1]; exact q2.2⟩, by rw [h.2.1]; exact q3⟩
/-- compile of an empty tape: the fault is at 0 -/
theorem c_compile0 {X : Cx} {S : Mem} {F : Int32 → Mem → Prop} (h : FreshC S) (q : ∀ S', Ag S S' → F (-10) S') : C X 4 MX11_compile [vR 64] S (RI F) := by
  obtain ⟨hL, h1, h2, h3, h4, h5, h6, h7, h8, h9, h10, h11, h12⟩ := h
  refine C_of_V rfl (Nat.le_of_ble_eq_true rfl) rfl (w_X11_compile_0 64 ⟨hL.k 64 11, by rw [hL.r 64 2 77]; exact hL.k 77 5, 3, by decide, ?_⟩)
  rw [hL.r 64 2 77]
  refine C_of_V rfl (Nat.le_of_ble_eq_true rfl) rfl (w_X5_read_0 77 ⟨hL.k 77 5, by rw [hL.r 77 1 67]; exact hL.k 67 7, 1, by decide, ?_⟩)
  rw [hL.r 77 1 67]
  refine c_Story_clear (hL.k 67 7) (by rw [hL.r 67 0 68]; exact hL.k 68 1) ?_
  rw [hL.r 67 0 68]
  have B5 : But (fun a => a = 67 ∨ a = 68) S (uI (uI (uI S 68 2 0) 67 2 0) 67 3 (-9)) := ((But.refl.uI (Or.inr rfl)).uI (Or.inl rfl)).uI (Or.inl rfl)
  generalize (uI (uI (uI S 68 2 0) 67 2 0) 67 3 (-9)) = S5 at B5 ⊢
  have L5 : LayC S5 := B5.layC (by decide) hL
  have hF5 : FreshC S5 := ⟨L5, by rw [(B5.2.2.2.2.2 65 (by decide)).1]; exact h1, by rw [(B5.2.2.2.2.2 79 (by decide)).1]; exact h2, by rw [(B5.2.2.2.2.2 64 (by decide)).1]; exact h3, by rw [B5.1]; exact h4, by rw [B5.1]; exact h5, by rw [B5.1]; exact h6, B5.k h7, B5.k h8, B5.k h9, by rw [B5.2.2.1]; exact h10, by rw [B5.2.2.1]; exact h11, by rw [B5.2.2.1]; exact h12⟩
  refine ⟨L5.k 77 5, by rw [L5.r 77 0 72]; exact L5.k 72 9, 1, by decide, ?_⟩
  rw [L5.r 77 0 72]
  refine c_readTape0 hF5 fun S11 t7 t8 B11 => ?_
  have L11 : LayC S11 := B11.layC (by decide) L5
  refine ⟨L11.k 77 5, fun S14 e14 S15 e15 => ?_⟩
  have B15 : But (fun a => a = 77) S11 S15 := by rw [e15, e14]; exact ((But.refl (P := fun a => a = 77)).uI rfl).uI rfl
  have L15 : LayC S15 := B15.layC (by decide) L11
  have f15 : gI S15 77 5 = -9 := by rw [e15, gI_uI_eq]
  have k15 : gI S15 72 7 = 0 := by rw [(B15.2.2.2.2.2 72 (by decide)).1]; exact t7
  have p15 : gI S15 72 8 = 0 := by rw [(B15.2.2.2.2.2 72 (by decide)).1]; exact t8
  refine w_X5_read_27 77 0 ⟨fun c => absurd c (by decide), fun _ => ⟨L15.k 77 5, fun c => absurd f15 c, fun _ => ⟨fun _ => ?_, fun c => absurd (by decide) c⟩⟩⟩
  refine w_X5_read_59 77 0 ⟨L15.k 77 5, 1, by decide, c_readHead0 L15 k15 p15 fun Sh g1 g2 g3 g4 g5 g6 g7 => ⟨fun _ => ?_, fun c => absurd rfl c⟩⟩
  have hh5 : gI Sh 77 5 = 0 := by rw [g1, gI_uI_eq]
  have kh : isK Sh 77 5 := ⟨by rw [g5]; exact (L15.k 77 5).1, by rw [g3]; exact (L15.k 77 5).2⟩
  refine w_X5_read_115 77 0 (w_X5_read_27 77 (0 + 1) ⟨fun c => absurd c (by decide), fun _ => ⟨kh, fun _ => ?_, fun c => by rw [hh5] at c; exact absurd c (by decide)⟩⟩)
  refine w_X5_read_121 77 (0 + 1) ⟨kh, _, rfl, ?_⟩
  rw [hh5]
  -- back in compile
  have Ah : Ag S Sh := by
    refine ((Ag.of B5 (fun a ha => by rcases ha with rfl | rfl <;> (unfold low; decide))).trans (Ag.of B11 (fun a ha => by unfold low; omega))).trans ((Ag.of B15 (fun a ha => by subst ha; unfold low; decide)).trans ?_)
    refine ⟨g3, g4, g5, g6, fun a ha => ⟨?_, by rw [g2], ?_⟩⟩
    · rw [g1]
      exact up2_ne (f := S15.1) (fun z => ha (by subst z; unfold low; decide))
    · funext k
      exact g7 a k (fun z => ha (by rw [z.1]; unfold low; decide))
  have Rh : ∀ a k v, (a, k, v) ∈ cRs → gR Sh a k = v := fun a k v hm => by
    rw [g7 a k (fun z => by
      rw [z.1, z.2] at hm
      have : ∀ q ∈ cRs, ¬ (q.1 = 77 ∧ q.2.1 = 3) := by decide
      exact this _ hm ⟨rfl, rfl⟩)]
    exact L15.2.1 _ hm
  have Lh : LayC Sh := ⟨fun q hq => ⟨by rw [g5]; exact (L15.1 q hq).1, by rw [g3]; exact (L15.1 q hq).2⟩, fun q hq => Rh _ _ _ hq, fun q hq => by rw [g4]; exact L15.2.2.1 q hq, fun j hj => by rw [g2]; exact L15.2.2.2 j hj⟩
  have mh : gI Sh 79 10 = 0 := by
    rw [g1, gI_uI_ne (by decide), (B15.2.2.2.2.2 79 (by decide)).1, (B11.2.2.2.2.2 79 (by decide)).1]
    exact hF5.2.2.1
  refine ⟨fun _ => ?_, fun c => absurd (by decide) c⟩
  refine w_X11_compile_20 64 0 ⟨Lh.k 64 11, by rw [Lh.r 64 0 65]; exact Lh.k 65 8, 0, by decide, ?_⟩
  rw [Lh.r 64 0 65]
  refine c_Tape_clear (Lh.k 65 8) ⟨Lh.k 64 11, by rw [show gR (uI Sh 65 1 0) 64 4 = 79 from Lh.r 64 4 79]; exact Lh.k 79 6, 2, by decide, ?_⟩
  rw [show gR (uI Sh 65 1 0) 64 4 = 79 from Lh.r 64 4 79]
  refine c_reset0 (S := uI Sh 65 1 0) Lh (by rw [gI_uI_ne (by decide)]; exact mh) ⟨fun _ => ?_, fun c => absurd (by decide) c⟩
  refine w_X11_compile_44 64 0 64 0 ⟨Lh.k 64 11, Or.inl rfl, fun S3 e3 => ⟨Lh.k 64 11, fun _ => ?_, fun c => absurd (by rw [e3, gI_uI_eq]) c⟩⟩
  refine w_X11_compile_68 64 0 ((-10) - 0) ⟨_, rfl, q _ (Ah.trans ?_)⟩
  rw [e3]
  refine Ag.of (P := low) ?_ (fun a ha => ha)
  unfold rst mClear
  exact (((((((((((((((((But.refl.uI (by unfold low; decide)).uI (by unfold low; decide)).uI (by unfold low; decide)).uI (by unfold low; decide)).uI (by unfold low; decide)).uI (by unfold low; decide)).uI (by unfold low; decide)).uI (by unfold low; decide)).uI (by unfold low; decide)).uI (by unfold low; decide)).uI (by unfold low; decide)).uI (by unfold low; decide)).uI (by unfold low; decide)).uI (by unfold low; decide)).uI (by unfold low; decide)).uI (by unfold low; decide)).uI (by unfold low; decide)).uI (by unfold low; decide)
/-- the reference -/
def bgT (σ : Rm) : Nat → Rm
  | 0 => σ
  | n + 1 => wI (bgT σ n) 59 n 0
def bgn (σ : Rm) : Rm := wS (wS (wS (wS (wS (wS (wS (wS (wS (bgT (wS (wS σ 47 0) 48 0) 12) 75 0) 76 0) 77 0) 79 0) 80 0) 83 0) 87 0) 88 0) 97 (-9)
theorem begins_loop {X : Cx} {b : Nat} {σ : Rm} {Q : Res → Rm → Prop} (q : Q (.inl none) (wS (wS (wS (wS (wS (wS (wS (wS (wS (bgT σ 12) 75 0) 76 0) 77 0) 79 0) 80 0) 83 0) 87 0) 88 0) 97 (-9))) : ∀ m k, m + k = 12 → A X b 0 MX13_begins 12 [(0, vR b), (1, vI (nI k))] [] (bgT σ k) Q := by
  intro m
  induction m with
  | zero =>
    intro k hk
    have : k = 12 := by omega
    subst this
    refine a_begins_12 _ ⟨fun _ s2 e2 s3 e3 s4 e4 s5 e5 s6 e6 s7 e7 s8 e8 s9 e9 s10 e10 => ?_, fun c => absurd (by decide) c⟩
    rw [e10, e9, e8, e7, e6, e5, e4, e3, e2]; exact q
  | succ m ih =>
    intro k hk
    refine a_begins_12 _ ⟨fun c => ?_, fun _ => ⟨vp_in_lt (by omega) (by omega), fun s12 e12 => ?_⟩⟩
    · rw [litI 12, le_nI (by omega) (by omega)] at c; omega
    · rw [cl_nI (by omega)] at e12
      rw [nI_1, e12]; exact ih (k + 1) (by omega)
theorem ac_begins {X : Cx} {b : Nat} {σ : Rm} {F : Rm → Prop} (q : F (bgn σ)) : AC X b 0 MX13_begins [vR b] σ (aRV F) :=
  AC_of_A rfl (Nat.le_of_ble_eq_true rfl) rfl (a_begins_0 fun s1 e1 s2 e2 => by rw [e2, e1]; exact begins_loop ⟨rfl, q⟩ 12 0 rfl)
theorem ac_cut0 {X : Cx} {b : Nat} {σ : Rm} {F : Rm → Prop} (h : sI σ 4 = 0) (q : F (wI (wI (wI σ 6 0 0) 5 0 6) 7 0 0)) : AC X b 0 MX13_cut [vR b] σ (aRV F) := by
  have z : ((0 : Int32).toNatClampNeg) = 0 := by decide
  have v0 : vp_in (0 : Int32) 3002 := by unfold vp_in; decide
  refine AC_of_A rfl (Nat.le_of_ble_eq_true rfl) rfl (a_cut_0 (a_cut_6 0 0 1 ⟨fun c => absurd c (by decide), fun _ => a_cut_10 0 0 1 ⟨fun _ => a_cut_46 0 0 1 ⟨v0, fun s2 e2 => ?_⟩, fun c => absurd (by rw [h]; decide) c⟩⟩))
  rw [z] at e2
  have h2 : sI s2 4 = 0 := by rw [e2, sI_wI (by decide)]; exact h
  refine ⟨fun _ => a_cut_71 0 0 1 0 ⟨fun _ => ⟨v0, fun s3 e3 => a_cut_483 0 0 0 0 ⟨v0, fun s4 e4 => a_cut_6 (0 + 1) 0 0 ⟨fun _ => ⟨rfl, ?_⟩, fun c => absurd rfl c⟩⟩⟩, fun c => absurd h2.symm c⟩, fun c => absurd (by rw [h2]; decide) c⟩
  rw [z] at e3 e4
  rw [e4, e3, e2]; exact q
theorem ac_isWord0 {X : Cx} {b r : Nat} {σ : Rm} {F : Int32 → Rm → Prop} (h : sI σ 10 = 0) (h5 : aI σ 5 0 = 6) (q : F 0 σ) : AC X b 0 MX13_isWord [vR b, vR r] σ (aRI F) := by
  have z : ((0 : Int32).toNatClampNeg) = 0 := by decide
  refine AC_of_A rfl (Nat.le_of_ble_eq_true rfl) rfl (a_isWord_0 r ⟨by rw [h]; unfold vp_in; decide, fun c => ?_, fun _ => a_isWord_35 r (a_isWord_36 r 0 ⟨Or.inl rfl, _, rfl, q⟩)⟩)
  rw [h, z, h5] at c
  exact absurd c (by decide)
theorem ac_fail {X : Cx} {b : Nat} {σ : Rm} {x : Int32} {Q : Res → Rm → Prop} (q : Q (.inr (b + 1)) (wI σ 0 6 x)) : AC X b 0 MX13_fail [vR b, vI x] σ Q :=
  AC_of_A rfl (Nat.le_of_ble_eq_true rfl) rfl (a_fail_0 x fun s1 e1 => by rw [e1]; exact q)
theorem ac_readBody0 {X : Cx} {b : Nat} {σ : Rm} {Q : Res → Rm → Prop} (h18 : sI σ 18 = 0) (h : sI σ 10 = 0) (h5 : aI σ 5 0 = 6) (h6 : aI σ 6 0 = 0) (q : Q (.inr (b + 1)) (wI σ 0 6 0)) : AC X b 1 MX13_readBody [vR b] σ Q := by
  have z : ((0 : Int32).toNatClampNeg) = 0 := by decide
  refine AC_of_A rfl (Nat.le_of_ble_eq_true rfl) rfl (a_readBody_0 ⟨fun c => absurd (h18.symm.trans c) (by decide), fun _ => ⟨0, Nat.le_refl _, ac_isWord0 h h5 ⟨fun _ => ⟨0, Nat.le_refl _, ac_isWord0 h h5 ⟨fun _ => a_readBody_27 ⟨by rw [h]; unfold vp_in; decide, 0, Nat.le_refl _, ?_⟩, fun c => absurd rfl c⟩⟩, fun c => absurd rfl c⟩⟩⟩)
  rw [h, z, h6]
  exact ac_fail (Or.inr ⟨b + 1, rfl, q⟩)
/-- the reference's compile of an empty tape -/
theorem ac_compile0 {X : Cx} {b : Nat} {σ : Rm} {F : Int32 → Rm → Prop} (h : sI σ 2 = 0) (q : ∀ σ', F (-10) σ') : ACc X b 2 [vR b] σ (aRI F) := by
  refine ACc_of_A (Nat.le_of_ble_eq_true rfl) (a_compile_0 fun s1 e1 => a_compile_10 0 ⟨fun _ s2 e2 s3 e3 => ⟨0, by decide, ac_begins fun s8 e8 s9 e9 s10 e10 s11 e11 s12 e12 s13 e13 s14 e14 s15 e15 => ?_⟩, fun c => absurd ?_ c⟩)
  · have f : s15 = wS (wS (wS (wS (wS (wS (wS (wS (bgn (wS (wS (wS σ 4 (sI σ 2)) 2 0) 46 0)) 10 0) 12 0) 17 0) 18 0) 29 0) 34 0) 41 0) 37 (-9) := by rw [e15, e14, e13, e12, e11, e10, e9, e8, e3, e2, e1]
    have h4 : sI s15 4 = 0 := by rw [f]; exact h
    have h10 : sI s15 10 = 0 := by rw [f]; rfl
    have h18 : sI s15 18 = 0 := by rw [f]; rfl
    refine ⟨0, by decide, ac_cut0 h4 ⟨1, by decide, ac_readBody0 h18 h10 rfl rfl (Or.inr ⟨rfl, a_compile_123 0 fun s16 e16 => ⟨_, rfl, ?_⟩⟩)⟩⟩
    have h0 : aI s16 0 6 = 0 := by rw [e16]; rfl
    rw [h0]
    exact q _
  · rw [e1, sI_wI (by decide), h]; decide

