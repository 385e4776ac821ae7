/-! feed, in the class and in the reference -/
/-- byte k of a long, as the class takes it -/
def byC (l : Int64) (k : Nat) : Int32 := (((l.toUInt64 >>> ((8 * nI k : Int32).toInt64.toUInt64 &&& Int64.toUInt64 63)).toInt64).toInt32).toInt8.toInt32
/-- as the reference takes it -/
def byR (l : Int64) (k : Nat) : Int32 := ((l >>> ((8 * nI k : Int32).toInt64 &&& 63)).toInt32).toInt8.toInt32
/-- StoryRound.feed: the loop -/
theorem feed_loop {X : Cx} {Q : Res → Mem → Prop} {a : Nat} {l : Int64} {w : Nat} (hw : w ≤ 8) : ∀ (m k n : Nat) (S : Mem) (f : Nat → Int32), m + k = w → isK S a 11 → Tape S (gR S a 0) n f → n + m ≤ 3000 →
    (∀ S' f', isK S' a 11 → Tape S' (gR S' a 0) (n + m) f' → tp S' = tp S → sz S' = sz S → (∀ b j, b ≠ gR S a 0 → b ≠ gR S (gR S a 0) 0 → gI S' b j = gI S b j) → gL S' = gL S → gR S' = gR S → gK S' = gK S → gN S' = gN S → (∀ i, i < n → f' i = f i) → (∀ i, i < m → f' (n + i) = byC l (k + i)) → Q (.inl (some (vI (nI (n + m))))) S') →
    V X 1 MX11_feed 30 [(0, vR a), (1, vL l), (3, vI (nI w)), (4, vI (nI k))] [] S Q := by
  intro m
  induction m with
  | zero =>
    intro k n S f hk h11 hT hn q
    refine w_X11_feed_30 a l (nI w) (nI k) ⟨fun _ => ⟨h11, hT.1, 0, Nat.le_refl _, c_Tape_size hT ?_⟩, fun hc => absurd (by rw [le_nI (by omega) (by omega)]; omega) hc⟩
    exact q S f h11 hT rfl rfl (fun _ _ _ _ => rfl) rfl rfl rfl rfl (fun _ _ => rfl) (fun i hi => absurd hi (by omega))
  | succ m ih =>
    intro k n S f hk h11 hT hn q
    refine w_X11_feed_30 a l (nI w) (nI k) ⟨fun hc => ?_, fun _ => ⟨h11, hT.1, 0, Nat.le_refl _, c_Tape_add _ hT (by omega) ?_⟩⟩
    · rw [le_nI (by omega) (by omega)] at hc; omega
    · rw [nI_1]
      have hT2 := hT.add (x := (((l.toUInt64 >>> ((8 * nI k : Int32).toInt64.toUInt64 &&& Int64.toUInt64 63)).toInt64).toInt32)) (by omega)
      refine ih (k + 1) (n + 1) _ _ (by omega) h11 hT2 (by omega) (fun S' f' g1 g2 g3 g4 g5 g6 g7 g8 g9 g10 g11 => ?_)
      refine (show n + 1 + m = n + (m + 1) by omega) ▸ q S' f' g1 ((show n + 1 + m = n + (m + 1) by omega) ▸ g2) g3 g4 (fun b j hb1 hb2 => ?_) g6 g7 g8 g9 (fun i hi => ?_) (fun i hi => ?_)
      · rw [g5 b j hb1 hb2, gI_uI, if_neg (fun z => hb1 z.1), gI_uI, if_neg (fun z => hb2 z.1)]
      · rw [g10 i (by omega)]; unfold upd; rw [if_neg (by omega)]
      · by_cases c : i = 0
        · subst c; rw [Nat.add_zero, g10 n (by omega)]; unfold upd; rw [if_pos rfl]; rfl
        · have := g11 (i - 1) (by omega)
          rw [show n + 1 + (i - 1) = n + i by omega, show k + 1 + (i - 1) = k + i by omega] at this
          exact this
/-- StoryRound.feed -/
theorem c_feed {X : Cx} {Q : Res → Mem → Prop} {a n : Nat} {l : Int64} {x : Int32} {S : Mem} {f : Nat → Int32} (h11 : isK S a 11) (hT : Tape S (gR S a 0) n f)
    (q1 : (x < 1 ∨ 8 < x) → Q (.inl (some (vI (-1)))) S) (q2 : ∀ w, 1 ≤ w → w ≤ 8 → x = nI w → 3000 < n + w → Q (.inl (some (vI (-3)))) S)
    (q3 : ∀ w S' f', 1 ≤ w → w ≤ 8 → x = nI w → n + w ≤ 3000 → isK S' a 11 → Tape S' (gR S' a 0) (n + w) f' → tp S' = tp S → sz S' = sz S → (∀ b j, b ≠ gR S a 0 → b ≠ gR S (gR S a 0) 0 → gI S' b j = gI S b j) → gL S' = gL S → gR S' = gR S → gK S' = gK S → gN S' = gN S → (∀ i, i < n → f' i = f i) → (∀ i, i < w → f' (n + i) = byC l i) → Q (.inl (some (vI (nI (n + w))))) S') :
    C X 1 MX11_feed [vR a, vL l, vI x] S Q := by
  refine C_of_V rfl (Nat.le_of_ble_eq_true rfl) rfl (w_X11_feed_0 a l x ⟨fun hc => w_X11_feed_11 _ _ _ (q1 (Or.inl hc)), fun hc => ⟨fun hc2 => ?_, fun hc2 => w_X11_feed_11 _ _ _ (q1 (Or.inr (Int32.not_le.mp hc2)))⟩⟩)
  obtain ⟨w, hw, rfl⟩ := nI_of2 (n := 8) (M := 8) (by decide) (fun z => hc (Int32.lt_trans z (by decide))) hc2
  rw [litI 1, lt_nI (by omega) (by omega)] at hc
  refine ⟨h11, hT.1, 0, Nat.le_refl _, c_Tape_hasRoom hT (by omega) ⟨fun hy => ?_, fun hy => ?_⟩⟩
  · by_cases c : n + w ≤ 3000
    · have hT5 := hT.2.2.2.2.1
      exact feed_loop hw w 0 n S f (by omega) h11 hT (by omega) (fun S' f' g1 g2 g3 g4 g5 g6 g7 g8 g9 g10 g11 => q3 w S' f' (by omega) hw rfl c g1 g2 g3 g4 g5 g6 g7 g8 g9 g10 (fun i hi => by have := g11 i hi; rw [Nat.zero_add] at this; exact this))
    · rw [if_neg c] at hy; exact absurd rfl hy
  · by_cases c : n + w ≤ 3000
    · rw [if_pos c] at hy; exact absurd hy (by decide)
    · exact q2 w (by omega) hw rfl (by omega)

