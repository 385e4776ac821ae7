/-! the class's lasting form; its leaves; compile of an empty tape -/
def cKs : List (Nat × Nat) := [(64, 11), (65, 8), (66, 20), (67, 7), (68, 1), (71, 24), (72, 9), (73, 22), (77, 5), (78, 3), (79, 6), (80, 4), (82, 4), (84, 2), (86, 21), (87, 21), (88, 21), (89, 25), (90, 26), (91, 21)]
def cRs : List (Nat × Nat × Nat) := [(64, 0, 65), (64, 1, 67), (64, 2, 77), (64, 3, 78), (64, 4, 79), (65, 0, 66), (67, 0, 68), (67, 1, 71), (72, 0, 65), (72, 1, 73), (77, 0, 72), (77, 1, 67), (77, 2, 68), (78, 0, 72), (78, 1, 67), (78, 2, 68), (79, 0, 80), (79, 1, 82), (79, 2, 84), (79, 3, 67), (79, 4, 68), (79, 5, 89), (79, 6, 90), (79, 7, 91), (84, 5, 86), (84, 6, 87), (84, 7, 88)]
def cNs : List (Nat × Nat) := [(66, 3000), (71, 12), (73, 23), (86, 40), (87, 40), (88, 40), (89, 61), (90, 12), (91, 12)]
/-- the class's lasting objects and arrays, at their addresses -/
def LayC (S : Mem) : Prop := (∀ q ∈ cKs, isK S q.1 q.2) ∧ (∀ q ∈ cRs, gR S q.1 q.2.1 = q.2.2) ∧ (∀ q ∈ cNs, gN S q.1 = q.2) ∧ ∀ j, j < 23 → gL S 73 j = kw j
theorem LayC.k {S : Mem} (h : LayC S) (a c : Nat) (hm : (a, c) ∈ cKs := by decide) : isK S a c := h.1 _ hm
theorem LayC.r {S : Mem} (h : LayC S) (a k v : Nat) (hm : (a, k, v) ∈ cRs := by decide) : gR S a k = v := h.2.1 _ hm
theorem LayC.n {S : Mem} (h : LayC S) (a v : Nat) (hm : (a, v) ∈ cNs := by decide) : gN S a = v := h.2.2.1 _ hm
theorem LayC.uI {S : Mem} {a k : Nat} {v : Int32} (h : LayC S) : LayC (uI S a k v) := h
theorem c_Code_clear {X : Cx} {S : Mem} {F : Mem → Prop} {r : Nat} (hk : isK S r 1) (q : F (uI S r 2 0)) : C X 0 MX1_clear [vR r] S (RV F) :=
  C_of_V rfl (Nat.le_of_ble_eq_true rfl) rfl (w_X1_clear_0 r ⟨hk, fun S2 e2 => ⟨rfl, by rw [e2]; exact q⟩⟩)
theorem c_Story_clear {X : Cx} {S : Mem} {F : Mem → Prop} {r : Nat} (hk : isK S r 7) (hc : isK S (gR S r 0) 1) (q : F (uI (uI (uI S (gR S r 0) 2 0) r 2 0) r 3 (-9))) : C X 1 MX7_clear [vR r] S (RV F) :=
  C_of_V rfl (Nat.le_of_ble_eq_true rfl) rfl (w_X7_clear_0 r ⟨hk, hc, 0, Nat.le_refl _, c_Code_clear hc ⟨hk, fun S8 e8 S9 e9 => ⟨rfl, by rw [e9, e8]; exact q⟩⟩⟩)
theorem c_Pairs_clear {X : Cx} {S : Mem} {F : Mem → Prop} {r : Nat} (hk : isK S r 4) (q : F (uI (uI S r 1 0) r 2 0)) : C X 0 MX4_clear [vR r] S (RV F) :=
  C_of_V rfl (Nat.le_of_ble_eq_true rfl) rfl (w_X4_clear_0 r ⟨hk, fun S2 e2 S3 e3 => ⟨rfl, by rw [e3, e2]; exact q⟩⟩)
theorem c_refuse {X : Cx} {S : Mem} {F : Int32 → Mem → Prop} {r : Nat} {x : Int32} (hk : isK S r 5) (q : F 0 (uI S r 5 x)) : C X 0 MX5_refuse [vR r, vI x] S (RI F) :=
  C_of_V rfl (Nat.le_of_ble_eq_true rfl) rfl (w_X5_refuse_0 r x ⟨hk, fun S2 e2 => ⟨_, rfl, by rw [e2]; exact q⟩⟩)
theorem gI_uI_ne {S : Mem} {a k b j : Nat} {v : Int32} (h : b ≠ a) : gI (uI S a k v) b j = gI S b j := by rw [gI_uI, if_neg (fun z => h z.1)]
theorem gI_uI_nk {S : Mem} {a k b j : Nat} {v : Int32} (h : j ≠ k) : gI (uI S a k v) b j = gI S b j := by rw [gI_uI, if_neg (fun z => h z.2)]
theorem gI_uI_eq {S : Mem} {a k : Nat} {v : Int32} : gI (uI S a k v) a k = v := by rw [gI_uI, if_pos ⟨rfl, rfl⟩]
theorem vp_in_lt {i n : Nat} (h : i < n) (hi : i < 2147483648) : vp_in (nI i) n := by
  rintro (c | c)
  · exact nI_pos hi c
  · rw [cl_nI hi] at c; omega
/-- one token more, where the rows have room -/
theorem c_Tok_add {X : Cx} {S : Mem} {F : Mem → Prop} {r n : Nat} {k p : Int32} {v : Int64} (hk : isK S r 9) (h5 : gI S r 5 = nI n) (hK : isK S (gR S r 2) 21) (hP : isK S (gR S r 3) 21) (hV : isK S (gR S r 4) 22) (nK : n < gN S (gR S r 2)) (nP : n < gN S (gR S r 3)) (nV : n < gN S (gR S r 4)) (bK : gN S (gR S r 2) < 2147483648)
    (q : F (uI (uL (uI (uI S (gR S r 2) n k) (gR S r 3) n p) (gR S r 4) n v) r 5 (nI (n + 1)))) : C X 0 MX9_add [vR r, vI k, vI p, vL v] S (RV F) := by
  have n1 : r ≠ gR S r 2 := isK_ne hk hK (by decide)
  have n2 : r ≠ gR S r 3 := isK_ne hk hP (by decide)
  refine C_of_V rfl (Nat.le_of_ble_eq_true rfl) rfl (w_X9_add_0 r k p v ⟨hk, hK, fun _ => w_X9_add_63 r k p v ⟨hk, hK, by rw [h5]; exact vp_in_lt nK (by omega), fun S4 e4 => ?_⟩, fun c => absurd (by rw [h5]; exact nI_lt nK bK) c⟩)
  rw [h5, cl_nI (by omega)] at e4
  have g4 : gI S4 r 5 = nI n := by rw [e4, gI_uI_ne n1]; exact h5
  refine ⟨hP, by rw [g4]; exact vp_in_lt nP (by omega), fun S7 e7 => ?_⟩
  rw [g4, cl_nI (by omega)] at e7
  have g7 : gI S7 r 5 = nI n := by rw [e7, gI_uI_ne n2]; exact g4
  refine ⟨hV, by rw [g7]; exact vp_in_lt nV (by omega), fun S10 e10 S11 e11 => ⟨rfl, ?_⟩⟩
  rw [g7, cl_nI (by omega)] at e10
  rw [e11, e10, g7, nI_1, e7, e4]
  exact q
/-- the next token: the one at m -/
theorem c_Tok_next {X : Cx} {S : Mem} {F : Mem → Prop} {r m : Nat} (hk : isK S r 9) (hK : isK S (gR S r 2) 21) (hP : isK S (gR S r 3) 21) (nK : m < gN S (gR S r 2)) (nP : m < gN S (gR S r 3)) (bK : gN S (gR S r 2) < 2147483648)
    (h : ((gI S r 5 - 1 ≤ gI S r 6) ∧ gI S r 6 = nI m) ∨ ((¬ gI S r 5 - 1 ≤ gI S r 6) ∧ gI S r 6 + 1 = nI m)) (q : F (uI (uI (uI S r 6 (nI m)) r 7 (gI S (gR S r 2) m)) r 8 (gI S (gR S r 3) m))) : C X 0 MX9_next [vR r] S (RV F) := by
  have n1 : gR S r 2 ≠ r := isK_ne hK hk (by decide)
  have n2 : gR S r 3 ≠ r := isK_ne hP hk (by decide)
  have go : V X 0 MX9_next 27 [(0, vR r)] [vI (nI m), vR r] S (RV F) := by
    refine w_X9_next_27 r r (nI m) ⟨hk, fun S2 e2 => ⟨hk, fun hc => ?_, fun _ => ⟨hK, fun hc => ?_, fun _ => ?_⟩⟩⟩
    · rw [e2, gI_uI_eq] at hc; exact absurd hc (nI_pos (by omega))
    · rw [e2, gI_uI_eq] at hc; exact absurd hc (nI_ge nK bK)
    · have g2 : gI S2 r 6 = nI m := by rw [e2, gI_uI_eq]
      refine ⟨by rw [g2]; exact vp_in_lt nK (by omega), fun S8 e8 => ?_⟩
      have g8 : gI S8 r 6 = nI m := by rw [e8, gI_uI_nk (by decide)]; exact g2
      rw [g2, cl_nI (by omega)] at e8
      refine ⟨hP, by rw [g8]; exact vp_in_lt nP (by omega), fun S11 e11 => w_X9_next_75 r ⟨rfl, ?_⟩⟩
      rw [g8, cl_nI (by omega)] at e11
      rw [e11, e8, e2, gI_uI_ne n2, gI_uI_ne n2, gI_uI_ne n1]
      exact q
  refine C_of_V rfl (Nat.le_of_ble_eq_true rfl) rfl (w_X9_next_0 r ⟨hk, fun hc => ?_, fun hc => ?_⟩)
  · rcases h with ⟨h1, h2⟩ | ⟨h1, h2⟩
    · rw [h2]; exact go
    · exact absurd hc h1
  · rcases h with ⟨h1, h2⟩ | ⟨h1, h2⟩
    · exact absurd h1 hc
    · rw [h2]; exact go
/-- before anything was done -/
def FreshC (S : Mem) : Prop := LayC S ∧ gI S 65 1 = 0 ∧ gI S 79 10 = 0 ∧ gI S 64 5 = 0 ∧ gR S 72 2 = 74 ∧ gR S 72 3 = 75 ∧ gR S 72 4 = 76 ∧ isK S 74 21 ∧ isK S 75 21 ∧ isK S 76 22 ∧ gN S 74 = 64 ∧ gN S 75 = 64 ∧ gN S 76 = 64
theorem c_size0 {X : Cx} {S : Mem} {F : Int32 → Mem → Prop} (hL : LayC S) (h : gI S 65 1 = 0) (q : F 0 S) : C X 0 MX8_size [vR 65] S (RI F) :=
  c_Tape_size (n := 0) (f := gI S 66) ⟨hL.k 65 8, by rw [hL.r 65 0 66]; exact hL.k 66 20, by rw [hL.r 65 0 66]; exact hL.n 66 3000, h, by decide, fun i hi => absurd hi (Nat.not_lt_zero _)⟩ q
/-- what a run may leave: all is as it was but at some addresses -/
def But (P : Nat → Prop) (S S' : Mem) : Prop := gR S' = gR S ∧ gK S' = gK S ∧ gN S' = gN S ∧ tp S' = tp S ∧ sz S' = sz S ∧ ∀ a, ¬ P a → gI S' a = gI S a ∧ gL S' a = gL S a
theorem But.refl {P : Nat → Prop} {S : Mem} : But P S S := ⟨rfl, rfl, rfl, rfl, rfl, fun _ _ => ⟨rfl, rfl⟩⟩
theorem But.uI {P : Nat → Prop} {S S1 : Mem} {a k : Nat} {v : Int32} (h : But P S S1) (ha : P a) : But P S (uI S1 a k v) := by
  obtain ⟨h1, h2, h3, h4, h5, h6⟩ := h
  refine ⟨h1, h2, h3, h4, h5, fun c hc => ⟨?_, (h6 c hc).2⟩⟩
  have : c ≠ a := fun z => hc (z ▸ ha)
  exact (up2_ne (f := S1.1) this).trans (h6 c hc).1
theorem But.uL {P : Nat → Prop} {S S1 : Mem} {a k : Nat} {v : Int64} (h : But P S S1) (ha : P a) : But P S (uL S1 a k v) := by
  obtain ⟨h1, h2, h3, h4, h5, h6⟩ := h
  refine ⟨h1, h2, h3, h4, h5, fun c hc => ⟨(h6 c hc).1, ?_⟩⟩
  have : c ≠ a := fun z => hc (z ▸ ha)
  exact (up2_ne (f := S1.2.1) this).trans (h6 c hc).2
theorem But.trans {P : Nat → Prop} {S S1 S2 : Mem} (h : But P S S1) (g : But P S1 S2) : But P S S2 := ⟨g.1.trans h.1, g.2.1.trans h.2.1, g.2.2.1.trans h.2.2.1, g.2.2.2.1.trans h.2.2.2.1, g.2.2.2.2.1.trans h.2.2.2.2.1, fun a ha => ⟨(g.2.2.2.2.2 a ha).1.trans (h.2.2.2.2.2 a ha).1, (g.2.2.2.2.2 a ha).2.trans (h.2.2.2.2.2 a ha).2⟩⟩
theorem But.layC {P : Nat → Prop} {S S1 : Mem} (h : But P S S1) (hp : ¬ P 73) (hL : LayC S) : LayC S1 := by
  obtain ⟨h1, h2, h3, h4⟩ := hL
  refine ⟨fun q hq => ⟨by rw [h.2.2.2.1]; exact (h1 q hq).1, by rw [h.2.1]; exact (h1 q hq).2⟩, fun q hq => by rw [h.1]; exact h2 q hq, fun q hq => by rw [h.2.2.1]; exact h3 q hq, fun j hj => by rw [(h.2.2.2.2.2 73 hp).2]; exact h4 j hj⟩
theorem But.k {P : Nat → Prop} {S S1 : Mem} {a c : Nat} (h : But P S S1) (hk : isK S a c) : isK S1 a c := ⟨by rw [h.2.2.2.1]; exact hk.1, by rw [h.2.1]; exact hk.2⟩
/-- an empty tape's tokens -/
theorem c_readTape0 {X : Cx} {S : Mem} {F : Mem → Prop} (h : FreshC S) (q : ∀ S', gI S' 72 7 = 0 → gI S' 72 8 = 0 → But (fun a => 72 ≤ a ∧ a ≤ 76 ∧ a ≠ 73) S S' → F S') : C X 1 MX9_readTape [vR 72] S (RV F) := by
  obtain ⟨hL, h1, h2, h3, h4, h5, h6, h7, h8, h9, h10, h11, h12⟩ := h
  have k72 := hL.k 72 9
  refine C_of_V rfl (Nat.le_of_ble_eq_true rfl) rfl (w_X9_readTape_0 72 ⟨k72, fun S2 e2 => ?_⟩)
  have L2 : LayC S2 := by rw [e2]; exact hL
  have r2 : gR S2 72 0 = 65 := L2.r 72 0 65
  have s2 : gI S2 65 1 = 0 := by rw [e2, gI_uI_ne (by decide)]; exact h1
  refine w_X9_readTape_9 72 0 0 ⟨fun c => absurd c (by decide), fun _ => ⟨L2.k 72 9, by rw [r2]; exact L2.k 65 8, 0, Nat.le_refl _, ?_⟩⟩
  rw [r2]
  refine c_size0 L2 s2 ⟨fun _ => ?_, fun c => absurd (by decide) c⟩
  refine w_X9_readTape_99 72 0 0 ⟨L2.k 72 9, by rw [r2]; exact L2.k 65 8, 0, Nat.le_refl _, ?_⟩
  rw [r2]
  refine c_size0 L2 s2 ⟨L2.k 72 9, 0, Nat.le_refl _, ?_⟩
  have g2 : gR S2 72 2 = 74 := by rw [e2]; exact h4
  have g3 : gR S2 72 3 = 75 := by rw [e2]; exact h5
  have g4 : gR S2 72 4 = 76 := by rw [e2]; exact h6
  refine c_Tok_add (n := 0) (L2.k 72 9) (by rw [e2, gI_uI_eq]; rfl) (by rw [g2, e2]; exact h7) (by rw [g3, e2]; exact h8) (by rw [g4, e2]; exact h9) (by rw [g2, e2]; show 0 < gN S 74; omega) (by rw [g3, e2]; show 0 < gN S 75; omega) (by rw [g4, e2]; show 0 < gN S 76; omega) (by rw [g2, e2]; show gN S 74 < _; omega) ?_
  rw [g2, g3, g4]
  refine ⟨L2.k 72 9, fun S14 e14 => ⟨0, Nat.le_refl _, ?_⟩⟩
  have B14 : But (fun a => 72 ≤ a ∧ a ≤ 76 ∧ a ≠ 73) S S14 := by
    rw [e14, e2]
    exact ((((((But.refl.uI (by decide)).uI (by decide)).uI (by decide)).uL (by decide)).uI (by decide)).uI (by decide))
  have a2 : gR S14 72 2 = 74 := by rw [B14.1]; exact h4
  have a3 : gR S14 72 3 = 75 := by rw [B14.1]; exact h5
  have a5 : gI S14 72 5 = nI 1 := by rw [e14, gI_uI_nk (by decide), gI_uI_eq]
  have a6 : gI S14 72 6 = -1 := by rw [e14, gI_uI_eq]
  have a7 : gI S14 74 0 = 0 := by rw [e14, gI_uI_ne (by decide), gI_uI_ne (by decide), gI_uL, gI_uI_ne (by decide), gI_uI_eq]
  have a8 : gI S14 75 0 = 0 := by rw [e14, gI_uI_ne (by decide), gI_uI_ne (by decide), gI_uL, gI_uI_eq]
  refine c_Tok_next (m := 0) (B14.k k72) (by rw [a2]; exact B14.k h7) (by rw [a3]; exact B14.k h8) (by rw [a2, B14.2.2.1]; omega) (by rw [a3, B14.2.2.1]; omega) (by rw [a2, B14.2.2.1]; omega) (Or.inr ⟨by rw [a5, a6]; decide, by rw [a6]; decide⟩) ⟨rfl, ?_⟩
  rw [a2, a3, a7, a8]
  exact q _ (by rw [gI_uI_nk (by decide), gI_uI_eq]) (by rw [gI_uI_eq]) (((B14.uI (by decide)).uI (by decide)).uI (by decide))
/-- the head of an empty text -/
theorem c_readHead0 {X : Cx} {S : Mem} {F : Int32 → Mem → Prop} (hL : LayC S) (h7 : gI S 72 7 = 0) (h8 : gI S 72 8 = 0) (q : ∀ S', gI S' = gI (uI S 77 5 0) → gL S' = gL S → gK S' = gK S → gN S' = gN S → tp S' = tp S → sz S' = sz S → (∀ a k, ¬ (a = 77 ∧ k = 3) → gR S' a k = gR S a k) → F 0 S') : C X 1 MX5_readHead [vR 77] S (RI F) := by
  have k77 := hL.k 77 5
  have r0 : gR S 77 0 = 72 := hL.r 77 0 72
  refine C_of_V rfl (Nat.le_of_ble_eq_true rfl) rfl (w_X5_readHead_0 77 ⟨k77, by rw [r0]; exact hL.k 72 9, fun _ => ?_, fun c => ?_⟩)
  · refine w_X5_readHead_18 77 0 ⟨fun n => absurd rfl n, fun _ => ⟨k77, by rw [r0]; exact hL.k 72 9, fun _ => ?_, fun c => ?_⟩⟩
    · refine w_X5_readHead_48 77 0 77 0 ⟨k77, fun S2 e2 => ⟨k77, fun c => ?_, fun _ => ?_⟩⟩
      · rw [e2, gR_uR, if_pos ⟨rfl, rfl⟩] at c; exact absurd rfl c
      · have r2 : gR S2 77 0 = 72 := by rw [e2, gR_uR, if_neg (by decide)]; exact r0
        have g8 : gI S2 72 8 = 0 := by rw [e2]; exact h8
        have k2 : isK S2 77 5 := by rw [e2]; exact k77
        refine ⟨by rw [r2]; exact hL.k 72 9, 0, Nat.le_refl _, ?_⟩
        rw [r2, h8]
        refine c_refuse k2 ⟨Or.inl rfl, _, rfl, q _ (by rw [e2]; rfl) (by rw [e2]; rfl) (by rw [e2]; rfl) (by rw [e2]; rfl) (by rw [e2]; rfl) (by rw [e2]; rfl) (fun a k hn => ?_)⟩
        rw [e2]
        show gR (uR S 77 3 0) a k = _
        rw [gR_uR, if_neg hn]
    · rw [r0, h7] at c; exact absurd c (by decide)
  · rw [r0, h7] at c; exact absurd c (by decide)

