/-! rows that grow -/
theorem cpy_eq {α : Type} {f g : Nat → α} {m : Nat} : va_cpy f g 0 0 m = fun i => if i < m then f i else g i := by
  funext i
  unfold va_cpy
  by_cases c : i < m
  · rw [if_pos ⟨Nat.zero_le _, by omega⟩, if_pos c, Nat.zero_add, Nat.sub_zero]
  · rw [if_neg (fun z => c (by omega)), if_neg c]
theorem min_nI {m n : Nat} (h : m < n) (hn : n < 2147483648) : (if nI n < nI m then nI n else nI m) = nI m := by
  rw [if_neg]
  rw [lt_nI hn (by omega)]
  omega
theorem c_copyI {X : Cx} {S : Mem} {F : Nat → Mem → Prop} {a m n : Nat} (hk : isK S a 21) (h64 : 64 ≤ a) (ht : 64 ≤ tp S) (hm : gN S a = m) (hn : m < n) (hn2 : n ≤ 1000000) (q : F (tp S) (rwI (nw S 21 n n) (tp S) (fun i => if i < m then gI S a i else 0))) : C X 1 MJ7_copyOf_59c91 [vR a, vI (nI n)] S (RR F) := by
  have hne : a ≠ tp S := Nat.ne_of_lt hk.1
  refine C_of_V rfl (Nat.le_of_ble_eq_true rfl) rfl (w_J7_copyOf_59c91_0 a (nI n) ⟨hk, fun _ => ⟨n, rfl, hn2, fun S7 e7 => ?_⟩, fun c => ?_⟩)
  · have g7 : gN S7 a = m := by rw [e7, gN_nw, if_neg hne]; exact hm
    have g8 : gN S7 (tp S) = n := by rw [e7, gN_nw, if_pos rfl]
    have z : ((0 : Int32).toNatClampNeg) = 0 := by decide
    rw [g7, g8, min_nI hn (by omega), cl_nI (by omega), z]
    refine ⟨Nat.le_refl _, Nat.le_refl _, h64, ht, nI_pos (by omega), by omega, by omega, fun S15 e15 => ⟨_, rfl, ?_⟩⟩
    rw [e15, cpy_eq, e7]
    have e1 : gI (nw S 21 n n) a = gI S a := by funext i; rw [gI_nw, if_neg hne]
    have e2 : gI (nw S 21 n n) (tp S) = fun _ => 0 := by funext i; rw [gI_nw, if_pos rfl]
    rw [e1, e2]
    exact q
  · rw [hm, eq_nI (by omega) (by omega)] at c; omega
theorem c_copyL {X : Cx} {S : Mem} {F : Nat → Mem → Prop} {a m n : Nat} (hk : isK S a 22) (h64 : 64 ≤ a) (ht : 64 ≤ tp S) (hm : gN S a = m) (hn : m < n) (hn2 : n ≤ 1000000) (q : F (tp S) (rwL (nw S 22 n n) (tp S) (fun i => if i < m then gL S a i else 0))) : C X 1 MJ7_copyOf_c38d5 [vR a, vI (nI n)] S (RR F) := by
  have hne : a ≠ tp S := Nat.ne_of_lt hk.1
  refine C_of_V rfl (Nat.le_of_ble_eq_true rfl) rfl (w_J7_copyOf_c38d5_0 a (nI n) ⟨hk, by omega, fun _ => ⟨n, rfl, hn2, fun S7 e7 => ?_⟩, fun c => ?_⟩)
  · have g7 : gN S7 a = m := by rw [e7, gN_nw, if_neg hne]; exact hm
    have g8 : gN S7 (tp S) = n := by rw [e7, gN_nw, if_pos rfl]
    have z : ((0 : Int32).toNatClampNeg) = 0 := by decide
    rw [g7, g8, min_nI hn (by omega), cl_nI (by omega), z]
    refine ⟨by omega, Nat.le_refl _, Nat.le_refl _, h64, ht, nI_pos (by omega), by omega, by omega, fun S15 e15 => ⟨_, rfl, ?_⟩⟩
    rw [e15, cpy_eq, e7]
    have e1 : gL (nw S 22 n n) a = gL S a := by funext i; rw [gL_nw, if_neg hne]
    have e2 : gL (nw S 22 n n) (tp S) = fun _ => 0 := by funext i; rw [gL_nw, if_pos rfl]
    rw [e1, e2]
    exact q
  · rw [hm, eq_nI (by omega) (by omega)] at c; omega
theorem fits_i8 {x : Int32} (h : x.toInt8.toInt32 = x) : fits (kel 20) (.int x) = true := by
  have hb : ∀ b : BitVec 8, (-128 : Int32) ≤ (Int8.ofBitVec b).toInt32 ∧ (Int8.ofBitVec b).toInt32 ≤ 127 := by decide
  have hx := hb x.toInt8.toBitVec
  have e : (Int8.ofBitVec x.toInt8.toBitVec).toInt32 = x := h
  rw [e] at hx
  show fits .byte (.int x) = true
  simp [fits, narrow, h, hx]
theorem c_copyB {X : Cx} {S : Mem} {F : Nat → Mem → Prop} {a m n : Nat} (hk : isK S a 20) (h64 : 64 ≤ a) (ht : 64 ≤ tp S) (hm : gN S a = m) (hn : m < n) (hn2 : n ≤ 1000000) (hb : ∀ i, (gI S a i).toInt8.toInt32 = gI S a i) (q : F (tp S) (rwI (nw S 20 n n) (tp S) (fun i => if i < m then gI S a i else 0))) : C X 1 MJ7_copyOf_9075b [vR a, vI (nI n)] S (RR F) := by
  have hne : a ≠ tp S := Nat.ne_of_lt hk.1
  refine C_of_V rfl (Nat.le_of_ble_eq_true rfl) rfl (w_J7_copyOf_9075b_0 a (nI n) ⟨hk, by omega, fun _ => ⟨n, rfl, hn2, fun S7 e7 => ?_⟩, fun c => ?_⟩)
  · have g7 : gN S7 a = m := by rw [e7, gN_nw, if_neg hne]; exact hm
    have g8 : gN S7 (tp S) = n := by rw [e7, gN_nw, if_pos rfl]
    have z : ((0 : Int32).toNatClampNeg) = 0 := by decide
    have e1 : gI S7 a = gI S a := by rw [e7]; funext i; rw [gI_nw, if_neg hne]
    rw [g7, g8, min_nI hn (by omega), cl_nI (by omega), z]
    refine ⟨by omega, Nat.le_refl _, Nat.le_refl _, h64, ht, nI_pos (by omega), by omega, by omega, fun i _ => by rw [e1]; exact fits_i8 (hb _), fun S15 e15 => ⟨_, rfl, ?_⟩⟩
    have e2 : gI S7 (tp S) = fun _ => 0 := by rw [e7]; funext i; rw [gI_nw, if_pos rfl]
    rw [e15, cpy_eq, e1, e2, e7]
    exact q
  · rw [hm, eq_nI (by omega) (by omega)] at c; omega
/-- a row laid anew, under its old handle -/
def cRow (κ : Km) (h n : Nat) (f : Nat → Int32) (l : Nat → Int64) : Km := (fun g j => if g = h then f j else κ.1 g j, fun g j => if g = h then l j else κ.2.1 g j, fun g => if g = h then n else κ.2.2.1 g, κ.2.2.2.1, κ.2.2.2.2.1, κ.2.2.2.2.2.1, κ.2.2.2.2.2.2.1 + 1, κ.2.2.2.2.2.2.2 + n)
theorem live_row {κ : Km} {h n : Nat} {f : Nat → Int32} {l : Nat → Int64} (hl : live κ h) (hn : n ≠ 0) (g : Nat) : live (cRow κ h n f l) g ↔ live κ g := by
  have e : ∀ g, kW (cRow κ h n f l) g = if g = h then n else kW κ g := fun _ => rfl
  have e1 : kB (cRow κ h n f l) = kB κ := rfl
  have e2 : kV (cRow κ h n f l) = kV κ := rfl
  unfold live
  rw [e1, e2, e]
  by_cases c : g = h
  · subst c
    rw [if_pos rfl]
    unfold live at hl
    constructor
    · intro _; exact hl
    · intro _
      rcases hl with h1 | h1 | h1 | h1 | h1 | h1
      · exact Or.inl h1
      · exact Or.inr (Or.inl h1)
      · exact Or.inr (Or.inr (Or.inl h1))
      · exact Or.inr (Or.inr (Or.inr (Or.inl h1)))
      · exact Or.inr (Or.inr (Or.inr (Or.inr (Or.inl ⟨h1.1, h1.2.1, h1.2.2.1, h1.2.2.2.1, hn⟩))))
      · exact Or.inr (Or.inr (Or.inr (Or.inr (Or.inr ⟨h1.1, h1.2.1, h1.2.2.1, hn⟩))))
  · rw [if_neg c]
/-- the memory in which a new cell at the top takes the place of the row h, whose owner is o at k -/
theorem CV.regrow {ad ad' : Nat → Nat} {κ : Km} {S S' : Mem} {h n o k : Nat} {f : Nat → Int32} {l : Nat → Int64} (hC : CV ad κ S) (hl : live κ h) (hkd : 20 ≤ hk h) (hns : ¬ still h) (hn : n ≠ 0) (hoo : isH κ o (hk o)) (hob : hk o < 20)
    (how : (o, k, h) ∈ hRs ∨ (∃ m, o = 1002 + 8 * m ∧ k = 12 ∧ h = 1003 + 8 * m))
    (t1 : tp S' = tp S + 1) (t2 : sz S' = sz S + n) (k1 : gK S' (tp S) = hk h) (k2 : gN S' (tp S) = n) (k3 : ∀ a, a < tp S → gK S' a = gK S a ∧ gN S' a = gN S a) (i1 : gI S' (tp S) = f) (i2 : gL S' (tp S) = l) (i3 : ∀ a, a < tp S → gI S' a = gI S a ∧ gL S' a = gL S a)
    (r1 : gR S' (ad o) k = tp S) (r2 : ∀ a j, a < tp S → ¬ (a = ad o ∧ j = k) → gR S' a j = gR S a j) (h69 : h = 69 → ∀ i, (f i).toInt8.toInt32 = f i) (ea : ad' h = tp S) (eb : ∀ g, g ≠ h → ad' g = ad g) :
    CV ad' (cRow κ h n f l) S' ∧ Ob κ ad ad' ∧ Fc S S' := by
  have hLV := fun g => live_row (κ := κ) (f := f) (l := l) hl hn g
  obtain ⟨c1, c2, c3, c4, c5, c6, c7, c8, c9, c10, c11, c12, c13, c14, c15, c16, c17, c18, c19, c20, c21⟩ := hC
  have lt : ∀ g, live κ g → ad g < tp S := fun g hg => (c1 g hg).2.1
  have hobj : ∀ g, hk g < 20 → g ≠ h := fun g hg e => by subst e; omega
  have fx : ∀ x, 64 ≤ x → x < 92 → live κ x := fun x a b => Or.inl ⟨a, b⟩
  have own : ∀ g, live κ g → g ≠ o → ad g ≠ ad o := fun g hg hn2 e => hn2 (c2 g o hg hoo.1 e)
  have hR : ∀ g j, live κ g → ¬ (g = o ∧ j = k) → gR S' (ad g) j = gR S (ad g) j := fun g j hg hn2 => r2 _ _ (lt g hg) (fun z => by
    by_cases e : g = o
    · exact hn2 ⟨e, z.2⟩
    · exact own g hg e z.1)
  have vwS : vw 92 S' = vw 92 S := vw_cong (fun a h1 h2 => i3 a (by omega))
  refine ⟨⟨fun g hg => ?_, fun g g' hg hg' e => ?_, fun g hg => ?_, fun q hq => ?_, fun i hi => ?_, fun m h1 h2 => ?_, ?_, ?_, fun i hi => ?_, fun i hi => ?_, fun s hs h0 => ?_, c12, c13, by rw [t1, c14]; rfl, by rw [t2, c15]; rfl, by omega, ?_, ?_, ?_, fun i => ?_, fun q hq => ?_⟩, fun g hg hg2 => eb g (hobj g hg2), vwS, (k3 1 (by omega)).2, (i3 1 (by omega)).1⟩
  · have hg' := (hLV g).mp hg
    by_cases c : g = h
    · subst c
      rw [ea]
      refine ⟨by omega, by omega, by omega, k1, fun _ => ?_, ?_, ?_⟩
      · rw [k2]; show n = if g = g then n else _; rw [if_pos rfl]
      · rw [i1]; funext j; show f j = if g = g then f j else _; rw [if_pos rfl]
      · rw [i2]; funext j; show l j = if g = g then l j else _; rw [if_pos rfl]
    · rw [eb g c]
      obtain ⟨b1, b2, b3, b4, b5, b6, b7⟩ := c1 g hg'
      refine ⟨b1, by omega, b3, by rw [(k3 _ b2).1]; exact b4, fun hh => ?_, ?_, ?_⟩
      · rw [(k3 _ b2).2, b5 hh]; show _ = if g = h then n else _; rw [if_neg c]; rfl
      · rw [(i3 _ b2).1, b6]; funext j; show _ = if g = h then f j else _; rw [if_neg c]; rfl
      · rw [(i3 _ b2).2, b7]; funext j; show _ = if g = h then l j else _; rw [if_neg c]; rfl
  · have a := (hLV g).mp hg
    have a' := (hLV g').mp hg'
    by_cases c : g = h
    · by_cases c' : g' = h
      · rw [c, c']
      · rw [c, ea, eb g' c'] at e; have := lt g' a'; omega
    · by_cases c' : g' = h
      · rw [c', ea, eb g c] at e; have := lt g a; omega
      · rw [eb g c, eb g' c'] at e; exact c2 g g' a a' e
  · rw [eb g (fun e => hns (e ▸ hg))]; exact c3 g hg
  · have hq1 : ∀ q ∈ hRs, 64 ≤ q.1 ∧ q.1 < 92 ∧ hk q.1 < 20 := by decide
    obtain ⟨b1, b2, b3⟩ := hq1 q hq
    rw [eb _ (hobj _ b3)]
    by_cases c : q.1 = o ∧ q.2.1 = k
    · rw [c.1, c.2, r1]
      rcases how with hw | ⟨m, e1, e2, e3⟩
      · have hu : ∀ q ∈ hRs, ∀ q' ∈ hRs, q.1 = q'.1 → q.2.1 = q'.2.1 → q.2.2 = q'.2.2 := by decide
        have := hu q hq (o, k, h) hw c.1 c.2
        rw [this, ea]
      · have := c.1; omega
    · rw [hR q.1 q.2.1 (fx _ b1 b2) c, c4 q hq]
      rcases how with hw | ⟨m, e1, e2, e3⟩
      · have hu : ∀ q ∈ hRs, ∀ q' ∈ hRs, q.2.2 = q'.2.2 → (q.2.2 = 69 ∨ q.2.2 = 70 ∨ q.2.2 = 74 ∨ q.2.2 = 75 ∨ q.2.2 = 76 ∨ q.2.2 = 81 ∨ q.2.2 = 83 ∨ q.2.2 = 85) → q.1 = q'.1 ∧ q.2.1 = q'.2.1 := by decide
        have hr : ∀ q ∈ hRs, 64 ≤ q.2.2 ∧ q.2.2 < 92 := by decide
        by_cases e : q.2.2 = h
        · exfalso
          have hr2 := hr q hq
          have h8 : q.2.2 = 69 ∨ q.2.2 = 70 ∨ q.2.2 = 74 ∨ q.2.2 = 75 ∨ q.2.2 = 76 ∨ q.2.2 = 81 ∨ q.2.2 = 83 ∨ q.2.2 = 85 := by
            rw [e]; rw [e] at hr2; unfold still at hns; omega
          exact c (hu q hq (o, k, h) hw e h8)
        · rw [eb _ e]
      · have hr : ∀ q ∈ hRs, q.2.2 < 92 := by decide
        rw [eb _ (by have := hr q hq; omega)]
  · have hb := isH_body (κ := κ) hi
    rw [eb _ (hobj _ (by rw [hb.2]; decide))]
    have n1 : 1001 + 8 * i ≠ h := by
      rcases how with hw | ⟨m, e1, e2, e3⟩
      · have hr : ∀ q ∈ hRs, q.2.2 < 92 := by decide
        have := hr _ hw
        have : h < 92 := this
        omega
      · omega
    rw [eb _ n1, hR _ _ hb.1 (fun z => ?_)]
    · exact c5 i hi
    · rcases how with hw | ⟨m, e1, e2, e3⟩
      · have hr : ∀ q ∈ hRs, q.1 < 92 := by decide
        have : o < 92 := hr _ hw
        omega
      · omega
  · have hb := isH_voice (κ := κ) h1 h2
    rw [eb _ (hobj _ (by rw [hb.2]; decide))]
    have hw' : kW (cRow κ h n f l) (1003 + 8 * m) = if 1003 + 8 * m = h then n else kW κ (1003 + 8 * m) := rfl
    rw [hw']
    by_cases c : 1003 + 8 * m = h
    · rw [if_pos c, c, ea]
      refine ⟨?_, fun z => absurd z hn⟩
      rcases how with hw | ⟨m', e1, e2, e3⟩
      · have hr : ∀ q ∈ hRs, q.2.2 < 92 := by decide
        have : h < 92 := hr _ hw
        omega
      · have : m' = m := by omega
        subst this
        rw [← e1, ← e2]; exact r1
    · rw [if_neg c, eb _ c]
      refine ⟨?_, (c6 m h1 h2).2⟩
      rw [hR _ _ hb.1 (fun z => ?_)]
      · exact (c6 m h1 h2).1
      · rcases how with hw | ⟨m', e1, e2, e3⟩
        · have hr : ∀ q ∈ hRs, q.1 < 92 := by decide
          have : o < 92 := hr _ hw
          omega
        · omega
  · show gR S' (ad' 77) 3 = if kC κ = 0 then 0 else ad' (kC κ)
    have n77 : (77 : Nat) ≠ h := hobj 77 (by decide)
    rw [eb _ n77, hR 77 3 (fx 77 (by decide) (by decide)) (fun z => ?_), c7]
    · by_cases c : kC κ = 0
      · rw [if_pos c, if_pos c]
      · rw [if_neg c, if_neg c, eb _ (hobj _ (by rw [(c8.resolve_left c).2]; decide))]
    · rcases how with hw | ⟨m', e1, e2, e3⟩
      · have hr : ∀ q ∈ hRs, ¬ (q.1 = 77 ∧ q.2.1 = 3) := by decide
        exact hr _ hw ⟨z.1.symm, z.2.symm⟩
      · omega
  · rcases c8 with c | c
    · exact Or.inl c
    · exact Or.inr ⟨(hLV _).mpr c.1, c.2⟩
  · show gR S' (ad' 71) i = if i < kB κ then ad' (1000 + 8 * i) else 0
    have o71 : (71 : Nat) ≠ o := fun e => by rw [← e] at hob; exact absurd hob (by decide)
    have n71 : (71 : Nat) ≠ h := fun e => hns (by rw [← e]; unfold still; decide)
    rw [eb _ n71, hR 71 i (fx 71 (by decide) (by decide)) (fun z => o71 z.1), c9 i hi]
    by_cases c : i < kB κ
    · rw [if_pos c, if_pos c, eb _ (hobj _ (by rw [(isH_body (κ := κ) c).2]; decide))]
    · rw [if_neg c, if_neg c]
  · show gR S' (ad' 89) i = if 1 ≤ i ∧ i ≤ kV κ then ad' (1002 + 8 * i) else 0
    have o89 : (89 : Nat) ≠ o := fun e => by rw [← e] at hob; exact absurd hob (by decide)
    have n89 : (89 : Nat) ≠ h := fun e => hns (by rw [← e]; unfold still; decide)
    rw [eb _ n89, hR 89 i (fx 89 (by decide) (by decide)) (fun z => o89 z.1), c10 i hi]
    by_cases c : 1 ≤ i ∧ i ≤ kV κ
    · rw [if_pos c, if_pos c, eb _ (hobj _ (by rw [(isH_voice (κ := κ) c.1 c.2).2]; decide))]
    · rw [if_neg c, if_neg c]
  · have o90 : (90 : Nat) ≠ o := fun e => by rw [← e] at hob; exact absurd hob (by decide)
    have n90 : (90 : Nat) ≠ h := fun e => hns (by rw [← e]; unfold still; decide)
    have ns : 1004 + 8 * s ≠ h := by
      rcases how with hw | ⟨m, e1, e2, e3⟩
      · have hr : ∀ q ∈ hRs, q.2.2 < 92 := by decide
        have : h < 92 := hr _ hw
        omega
      · omega
    have h0' : kW κ (1004 + 8 * s) ≠ 0 := by
      have e : kW (cRow κ h n f l) (1004 + 8 * s) = if 1004 + 8 * s = h then n else kW κ (1004 + 8 * s) := rfl
      rw [e, if_neg ns] at h0; exact h0
    rw [eb _ n90, eb _ ns, hR 90 s (fx 90 (by decide) (by decide)) (fun z => o90 z.1)]
    exact c11 s hs h0'
  · have hR92 : ∀ a j, 92 ≤ a → a < 168 → gR S' a j = gR S a j := fun a j h1 h2 => r2 a j (by omega) (fun z => by have := (c1 o hoo.1).2.2.1; omega)
    obtain ⟨l1, l2, l3, l4⟩ := c17
    refine ⟨l1, ⟨by have := l2.1; omega, by rw [(k3 92 (by omega)).1]; exact l2.2⟩, fun q hq h0 => ?_, fun i hi => by rw [hR92 _ _ (by decide) (by decide)]; exact l4 i hi⟩
    obtain ⟨q1, q2, q3⟩ := l3 q hq h0
    have hm := maf_lt q
    exact ⟨by rw [hR92 _ _ (by decide) (by decide)]; exact q1, ⟨by have := q2.1; omega, by rw [(k3 _ (by omega)).1]; exact q2.2⟩, by rw [(k3 _ (by omega)).2]; exact q3⟩
  · rw [(k3 27 (by omega)).1]; exact c18
  · rw [(k3 27 (by omega)).2]; exact c19
  · show (if 69 = h then f i else κ.1 69 i).toInt8.toInt32 = if 69 = h then f i else κ.1 69 i
    by_cases c : 69 = h
    · rw [if_pos c]; exact h69 c.symm i
    · rw [if_neg c]; exact c20 i
  · show (if q.1 = h then n else κ.2.2.1 q.1) = q.2
    have hr : ∀ q ∈ cNs, 64 ≤ q.1 ∧ q.1 < 92 ∧ q.1 ≠ 69 ∧ q.1 ≠ 70 ∧ q.1 ≠ 74 ∧ q.1 ≠ 75 ∧ q.1 ≠ 76 ∧ q.1 ≠ 81 ∧ q.1 ≠ 83 ∧ q.1 ≠ 85 := by decide
    rw [if_neg (fun e => hns (by rw [← e]; exact hr q hq))]
    exact c21 q hq
