/-! feed in the reference -/
theorem c_in {X : Cx} {S : Mem} {F : Int32 → Mem → Prop} (v lo hi : Int32) (q : F (if ¬ v < lo ∧ ¬ hi < v then 1 else 0) S) : C X 0 MX13_in [vI v, vI lo, vI hi] S (RI F) := by
  refine C_of_V rfl (Nat.le_of_ble_eq_true rfl) rfl (w_X13_in_0 v lo hi ⟨fun h1 => ?_, fun h1 => ⟨fun h2 => ?_, fun h2 => ?_⟩⟩)
  · rw [if_neg (fun z => z.1 h1)] at q; exact w_X13_in_14 _ _ _ (w_X13_in_15 _ _ _ _ ⟨Or.inl rfl, _, rfl, q⟩)
  · rw [if_neg (fun z => z.2 h2)] at q; exact w_X13_in_14 _ _ _ (w_X13_in_15 _ _ _ _ ⟨Or.inl rfl, _, rfl, q⟩)
  · rw [if_pos ⟨h1, h2⟩] at q; exact w_X13_in_15 _ _ _ _ ⟨Or.inr rfl, _, rfl, q⟩
/-- the reference's tape: n bytes f -/
def RTape (S : Mem) (a n : Nat) (f : Nat → Int32) : Prop := isK S a 13 ∧ isK S (gR S a 1) 20 ∧ gN S (gR S a 1) = 3000 ∧ gI S a 2 = nI n ∧ n ≤ 3000 ∧ ∀ i, i < n → gI S (gR S a 1) i = f i
theorem rfeed_loop {X : Cx} {Q : Res → Mem → Prop} {a n : Nat} {l : Int64} {w : Nat} (hw : w ≤ 8) : ∀ (m k : Nat) (S : Mem) (f : Nat → Int32), m + k = w → n + w ≤ 3000 → isK S a 13 → isK S (gR S a 1) 20 → gN S (gR S a 1) = 3000 → gI S a 2 = nI n → (∀ i, i < n + k → gI S (gR S a 1) i = f i) →
    (∀ S' f', RTape S' a (n + w) f' → tp S' = tp S → sz S' = sz S → (∀ b j, (b ≠ a ∨ j ≠ 2) → b ≠ gR S a 1 → gI S' b j = gI S b j) → gL S' = gL S → gR S' = gR S → gK S' = gK S → gN S' = gN S → (∀ i, i < n + k → f' i = f i) → (∀ i, i < m → f' (n + k + i) = byR l (k + i)) → Q (.inl (some (vI (nI (n + w))))) S') →
    V X 1 MX13_feed 30 [(0, vR a), (1, vL l), (3, vI (nI w)), (4, vI (nI k))] [] S Q := by
  intro m
  induction m with
  | zero =>
    intro k S f hk hnw h1 h2 h3 h4 h5 q
    have hne : a ≠ gR S a 1 := isK_ne h1 h2 (by decide)
    refine w_X13_feed_30 a l (nI w) (nI k) ⟨fun _ => ⟨h1, fun S3 e3 => ?_⟩, fun hc => absurd (by rw [le_nI (by omega) (by omega)]; omega) hc⟩
    have e4 : gI S3 a 2 = nI (n + w) := by rw [e3, gI_uI, if_pos ⟨rfl, rfl⟩, h4, nI_add]
    rw [e4]
    refine q S3 f ⟨by rw [e3]; exact h1, by rw [e3]; exact h2, by rw [e3]; exact h3, e4, hnw, fun i hi => ?_⟩ (by rw [e3]; rfl) (by rw [e3]; rfl) (fun b j hb hb2 => ?_) (by rw [e3]; rfl) (by rw [e3]; rfl) (by rw [e3]; rfl) (by rw [e3]; rfl) (fun _ _ => rfl) (fun i hi => absurd hi (by omega))
    · rw [e3]
      show gI (uI S a 2 _) (gR S a 1) i = _
      rw [gI_uI, if_neg (fun z => hne z.1.symm)]; exact h5 i (by omega)
    · rw [e3, gI_uI, if_neg]
      rintro ⟨z1, z2⟩
      rcases hb with hb | hb
      · exact hb z1
      · exact hb z2
  | succ m ih =>
    intro k S f hk hnw h1 h2 h3 h4 h5 q
    have hne : a ≠ gR S a 1 := isK_ne h1 h2 (by decide)
    refine w_X13_feed_30 a l (nI w) (nI k) ⟨fun hc => ?_, fun _ => ⟨h1, h2, ?_, fun S7 e7 => ?_⟩⟩
    · rw [le_nI (by omega) (by omega)] at hc; omega
    · rw [h4, nI_add, h3]; exact vp_in_nI (by omega) (by omega)
    · rw [h4, nI_add, cl_nI (by omega)] at e7
      have e8 : ((l >>> ((8 * nI k : Int32).toInt64 &&& 63)).toInt32.toInt8.toInt32).toInt8.toInt32 = byR l k := by unfold byR; simp
      rw [e8] at e7
      rw [nI_1]
      refine ih (k + 1) S7 (upd f (n + k) (byR l k)) (by omega) hnw (by rw [e7]; exact h1) (by rw [e7]; exact h2) (by rw [e7]; exact h3) (by rw [e7, gI_uI, if_neg (fun z => hne z.1)]; exact h4) (fun i hi => ?_) (fun S' f' g1 g2 g3 g4 g5 g6 g7 g8 g9 g10 => ?_)
      · rw [e7]
        show gI (uI S (gR S a 1) (n + k) _) (gR S a 1) i = _
        rw [gI_uI]
        unfold upd
        by_cases c : i = n + k
        · subst c; rw [if_pos ⟨rfl, rfl⟩, if_pos rfl]
        · rw [if_neg (fun z => c z.2), if_neg c]; exact h5 i (by omega)
      · refine q S' f' g1 (by rw [g2, e7]; rfl) (by rw [g3, e7]; rfl) (fun b j hb hb2 => ?_) (by rw [g5, e7]; rfl) (by rw [g6, e7]; rfl) (by rw [g7, e7]; rfl) (by rw [g8, e7]; rfl) (fun i hi => ?_) (fun i hi => ?_)
        · rw [g4 b j hb (by rw [e7]; exact hb2), e7, gI_uI, if_neg (fun z => hb2 z.1)]
        · rw [g9 i (by omega)]; unfold upd; rw [if_neg (by omega)]
        · by_cases c : i = 0
          · subst c; rw [Nat.add_zero, Nat.add_zero, g9 (n + k) (by omega)]; unfold upd; rw [if_pos rfl]
          · have := g10 (i - 1) (by omega)
            rw [show n + (k + 1) + (i - 1) = n + k + i by omega, show k + 1 + (i - 1) = k + i by omega] at this
            exact this
/-- StoryRoundModel.feed -/
theorem c_rfeed {X : Cx} {Q : Res → Mem → Prop} {a n : Nat} {l : Int64} {x : Int32} {S : Mem} {f : Nat → Int32} (hT : RTape S a n f)
    (q1 : (x < 1 ∨ 8 < x) → Q (.inl (some (vI (-1)))) S) (q2 : ∀ w, 1 ≤ w → w ≤ 8 → x = nI w → 3000 < n + w → Q (.inl (some (vI (-3)))) S)
    (q3 : ∀ w S' f', 1 ≤ w → w ≤ 8 → x = nI w → n + w ≤ 3000 → RTape S' a (n + w) f' → tp S' = tp S → sz S' = sz S → (∀ b j, (b ≠ a ∨ j ≠ 2) → b ≠ gR S a 1 → gI S' b j = gI S b j) → gL S' = gL S → gR S' = gR S → gK S' = gK S → gN S' = gN S → (∀ i, i < n → f' i = f i) → (∀ i, i < w → f' (n + i) = byR l i) → Q (.inl (some (vI (nI (n + w))))) S') :
    C X 1 MX13_feed [vR a, vL l, vI x] S Q := by
  obtain ⟨h1, h2, h3, h4, h5, h6⟩ := hT
  refine C_of_V rfl (Nat.le_of_ble_eq_true rfl) rfl (w_X13_feed_0 a l x ⟨0, Nat.le_refl _, c_in _ _ _ ⟨fun hy => ?_, fun hy => ?_⟩⟩)
  · by_cases c : ¬ x < 1 ∧ ¬ 8 < x
    · obtain ⟨w, hw, rfl⟩ := nI_of2 (n := 8) (M := 8) (by decide) (fun z => c.1 (Int32.lt_trans z (by decide))) (Int32.not_lt.mp c.2)
      have c1 := c.1
      rw [litI 1, lt_nI (by omega) (by omega)] at c1
      refine ⟨h1, fun hc => ?_, fun hc => ?_⟩
      · rw [h4, nI_add, litI 3000, le_nI (by omega) (by omega)] at hc
        exact rfeed_loop hw w 0 S f (by omega) hc h1 h2 h3 h4 (fun i hi => h6 i (by omega)) (fun S' f' g1 g2 g3 g4 g5 g6 g7 g8 g9 g10 => q3 w S' f' (by omega) hw rfl hc g1 g2 g3 g4 g5 g6 g7 g8 (fun i hi => g9 i (by omega)) (fun i hi => by have := g10 i hi; rw [Nat.zero_add, Nat.add_zero] at this; exact this))
      · rw [h4, nI_add, litI 3000, le_nI (by omega) (by omega)] at hc
        exact q2 w (by omega) hw rfl (by omega)
    · rw [if_neg c] at hy; exact absurd rfl hy
  · by_cases c : ¬ x < 1 ∧ ¬ 8 < x
    · rw [if_pos c] at hy; exact absurd hy (by decide)
    · refine q1 ?_
      by_cases z : x < 1
      · exact Or.inl z
      · exact Or.inr (Decidable.not_not.mp (fun z2 => c ⟨z, z2⟩))
