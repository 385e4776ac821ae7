/-! a body more, a voice more -/
/-- new cells at the top; what was there stays -/
def Old (S S' : Mem) : Prop := ∀ a, a < tp S → gK S' a = gK S a ∧ gN S' a = gN S a ∧ gI S' a = gI S a ∧ gL S' a = gL S a
def newB (κ : Km) : Km := (fun g j => if g = 1000 + 8 * kB κ ∨ g = 1001 + 8 * kB κ then 0 else κ.1 g j, fun g j => if g = 1000 + 8 * kB κ ∨ g = 1001 + 8 * kB κ then 0 else κ.2.1 g j, fun g => if g = 1001 + 8 * kB κ then 12 else κ.2.2.1 g, κ.2.2.2.1, κ.2.2.2.2.1 + 1, κ.2.2.2.2.2.1, κ.2.2.2.2.2.2.1 + 2, κ.2.2.2.2.2.2.2 + 9 + 12)
theorem newB_live {κ : Km} {g : Nat} : live (newB κ) g ↔ live κ g ∨ g = 1000 + 8 * kB κ ∨ g = 1001 + 8 * kB κ := by
  have e1 : kB (newB κ) = kB κ + 1 := rfl
  have e2 : kV (newB κ) = kV κ := rfl
  have e3 : kW (newB κ) g = if g = 1001 + 8 * kB κ then 12 else kW κ g := rfl
  unfold live
  rw [e1, e2, e3]
  by_cases c : g = 1001 + 8 * kB κ
  · rw [if_pos c]; subst c
    constructor
    · intro _; exact Or.inr (Or.inr rfl)
    · intro _; exact Or.inr (Or.inr (Or.inl ⟨by omega, by omega, by omega⟩))
  · rw [if_neg c]
    constructor
    · rintro (h | h | h | h | h | h)
      · exact Or.inl (Or.inl h)
      · by_cases c2 : g = 1000 + 8 * kB κ
        · exact Or.inr (Or.inl c2)
        · exact Or.inl (Or.inr (Or.inl ⟨h.1, h.2.1, by omega⟩))
      · exact Or.inl (Or.inr (Or.inr (Or.inl ⟨h.1, h.2.1, by omega⟩)))
      · exact Or.inl (Or.inr (Or.inr (Or.inr (Or.inl h))))
      · exact Or.inl (Or.inr (Or.inr (Or.inr (Or.inr (Or.inl h)))))
      · exact Or.inl (Or.inr (Or.inr (Or.inr (Or.inr (Or.inr h)))))
    · rintro ((h | h | h | h | h | h) | h | h)
      · exact Or.inl h
      · exact Or.inr (Or.inl ⟨h.1, h.2.1, by omega⟩)
      · exact Or.inr (Or.inr (Or.inl ⟨h.1, h.2.1, by omega⟩))
      · exact Or.inr (Or.inr (Or.inr (Or.inl h)))
      · exact Or.inr (Or.inr (Or.inr (Or.inr (Or.inl h))))
      · exact Or.inr (Or.inr (Or.inr (Or.inr (Or.inr h))))
      · exact Or.inr (Or.inl ⟨by omega, by omega, by omega⟩)
      · exact absurd h c
theorem live_nB {κ : Km} {g : Nat} (h : live κ g) : g ≠ 1000 + 8 * kB κ ∧ g ≠ 1001 + 8 * kB κ := by
  unfold live at h
  omega
theorem CV.addB {ad ad' : Nat → Nat} {κ : Km} {S S' : Mem} (hC : CV ad κ S) (hB : kB κ < 12) (t1 : tp S' = tp S + 2) (t2 : sz S' = sz S + 9 + 12) (o : Old S S') (k1 : gK S' (tp S) = 0) (k2 : gK S' (tp S + 1) = 22) (n2 : gN S' (tp S + 1) = 12) (i1 : gI S' (tp S) = fun _ => 0) (i2 : gL S' (tp S) = fun _ => 0) (i3 : gI S' (tp S + 1) = fun _ => 0) (i4 : gL S' (tp S + 1) = fun _ => 0)
    (r1 : gR S' (tp S) 0 = tp S + 1) (r2 : gR S' (ad 71) (kB κ) = tp S) (r3 : ∀ a j, a < tp S → ¬ (a = ad 71 ∧ j = kB κ) → gR S' a j = gR S a j)
    (e1 : ad' (1000 + 8 * kB κ) = tp S) (e2 : ad' (1001 + 8 * kB κ) = tp S + 1) (e3 : ∀ g, g ≠ 1000 + 8 * kB κ → g ≠ 1001 + 8 * kB κ → ad' g = ad g) : CV ad' (newB κ) S' ∧ Ob κ ad ad' ∧ Fc S S' := by
  obtain ⟨c1, c2, c3, c4, c5, c6, c7, c8, c9, c10, c11, c12, c13, c14, c15, c16, c17, c18, c19, c20, c21⟩ := hC
  have lt : ∀ g, live κ g → ad g < tp S := fun g hg => (c1 g hg).2.1
  have fx : ∀ x, 64 ≤ x → x < 92 → live κ x := fun x a b => Or.inl ⟨a, b⟩
  have es : ∀ g, live κ g → ad' g = ad g := fun g hg => e3 g (live_nB hg).1 (live_nB hg).2
  have hR : ∀ g j, live κ g → g ≠ 71 → gR S' (ad g) j = gR S (ad g) j := fun g j hg hn => r3 _ _ (lt g hg) (fun z => hn (c2 g 71 hg (fx 71 (by decide) (by decide)) z.1))
  have vwS : vw 92 S' = vw 92 S := vw_cong (fun a h1 h2 => ⟨(o a (by omega)).2.2.1, (o a (by omega)).2.2.2⟩)
  have hq1 : ∀ q ∈ hRs, 64 ≤ q.1 ∧ q.1 < 92 ∧ q.1 ≠ 71 ∧ 64 ≤ q.2.2 ∧ q.2.2 < 92 := by decide
  refine ⟨⟨fun g hg => ?_, fun g g' hg hg' e => ?_, fun g hg => ?_, fun q hq => ?_, fun i hi => ?_, fun m h1 h2 => ?_, ?_, ?_, fun i hi => ?_, fun i hi => ?_, fun s hs h0 => ?_, by show kB κ + 1 ≤ 12; omega, c13, by rw [t1, c14]; rfl, by rw [t2, c15]; rfl, by omega, ?_, by rw [(o 27 (by omega)).1]; exact c18, by rw [(o 27 (by omega)).2.1]; exact c19, fun i => ?_, fun q hq => ?_⟩, fun g hg _ => es g hg, vwS, (o 1 (by omega)).2.1, (o 1 (by omega)).2.2.1⟩
  · rcases newB_live.mp hg with h | rfl | rfl
    · obtain ⟨b1, b2, b3, b4, b5, b6, b7⟩ := c1 g h
      have hn := live_nB h
      rw [es g h]
      obtain ⟨o1, o2, o3, o4⟩ := o _ b2
      refine ⟨b1, by omega, b3, by rw [o1]; exact b4, fun hh => ?_, ?_, ?_⟩
      · rw [o2, b5 hh]; show _ = if g = 1001 + 8 * kB κ then 12 else _; rw [if_neg hn.2]; rfl
      · rw [o3, b6]; funext j; show _ = if g = 1000 + 8 * kB κ ∨ g = 1001 + 8 * kB κ then 0 else _; rw [if_neg (by omega)]; rfl
      · rw [o4, b7]; funext j; show _ = if g = 1000 + 8 * kB κ ∨ g = 1001 + 8 * kB κ then 0 else _; rw [if_neg (by omega)]; rfl
    · have hkk : hk (1000 + 8 * kB κ) = 0 := by unfold hk; rw [if_neg (by omega), if_pos (by omega)]
      rw [e1, hkk]
      refine ⟨by omega, by omega, by omega, k1, fun hh => by omega, ?_, ?_⟩
      · rw [i1]; funext j; show (0 : Int32) = if 1000 + 8 * kB κ = 1000 + 8 * kB κ ∨ _ then 0 else _; rw [if_pos (Or.inl rfl)]
      · rw [i2]; funext j; show (0 : Int64) = if 1000 + 8 * kB κ = 1000 + 8 * kB κ ∨ _ then 0 else _; rw [if_pos (Or.inl rfl)]
    · have hkk : hk (1001 + 8 * kB κ) = 22 := by unfold hk; rw [if_neg (by omega), if_neg (by omega), if_pos (by omega)]
      rw [e2, hkk]
      refine ⟨by omega, by omega, by omega, k2, fun _ => ?_, ?_, ?_⟩
      · rw [n2]; show 12 = if 1001 + 8 * kB κ = 1001 + 8 * kB κ then 12 else _; rw [if_pos rfl]
      · rw [i3]; funext j; show (0 : Int32) = if _ ∨ 1001 + 8 * kB κ = 1001 + 8 * kB κ then 0 else _; rw [if_pos (Or.inr rfl)]
      · rw [i4]; funext j; show (0 : Int64) = if _ ∨ 1001 + 8 * kB κ = 1001 + 8 * kB κ then 0 else _; rw [if_pos (Or.inr rfl)]
  · have al : ∀ x, live (newB κ) x → (live κ x ∧ ad' x < tp S ∧ ad' x = ad x) ∨ (x = 1000 + 8 * kB κ ∧ ad' x = tp S) ∨ (x = 1001 + 8 * kB κ ∧ ad' x = tp S + 1) := fun x hx => by
      rcases newB_live.mp hx with h | rfl | rfl
      · exact Or.inl ⟨h, by rw [es x h]; exact lt x h, es x h⟩
      · exact Or.inr (Or.inl ⟨rfl, e1⟩)
      · exact Or.inr (Or.inr ⟨rfl, e2⟩)
    rcases al g hg with ⟨a1, a2, a3⟩ | ⟨a1, a2⟩ | ⟨a1, a2⟩ <;> rcases al g' hg' with ⟨b1, b2, b3⟩ | ⟨b1, b2⟩ | ⟨b1, b2⟩
    · rw [a3, b3] at e; exact c2 g g' a1 b1 e
    · omega
    · omega
    · omega
    · omega
    · omega
    · omega
    · omega
    · omega
  · rw [e3 g (by unfold still at hg; omega) (by unfold still at hg; omega)]; exact c3 g hg
  · obtain ⟨b1, b2, b3, b4, b5⟩ := hq1 q hq
    rw [es _ (fx _ b1 b2), es _ (fx _ b4 b5), hR _ _ (fx _ b1 b2) b3]; exact c4 q hq
  · by_cases c : i < kB κ
    · rw [es _ (isH_body c).1, es _ (isH_names c).1, hR _ _ (isH_body c).1 (by omega)]; exact c5 i c
    · have : i = kB κ := by have h : i < kB κ + 1 := hi; omega
      subst this
      rw [e1, e2]; exact r1
  · have h2' : m ≤ kV κ := h2
    have hw : kW (newB κ) (1003 + 8 * m) = kW κ (1003 + 8 * m) := by
      show (if 1003 + 8 * m = 1001 + 8 * kB κ then 12 else κ.2.2.1 (1003 + 8 * m)) = _
      rw [if_neg (by omega)]; rfl
    rw [es _ (isH_voice h1 h2').1, e3 (1003 + 8 * m) (by omega) (by omega), hw, hR _ _ (isH_voice h1 h2').1 (by omega)]
    exact c6 m h1 h2'
  · show gR S' (ad' 77) 3 = if kC κ = 0 then 0 else ad' (kC κ)
    rw [es 77 (fx 77 (by decide) (by decide)), hR 77 3 (fx 77 (by decide) (by decide)) (by decide), c7]
    by_cases c : kC κ = 0
    · rw [if_pos c, if_pos c]
    · rw [if_neg c, if_neg c, es _ (c8.resolve_left c).1]
  · rcases c8 with c | c
    · exact Or.inl c
    · exact Or.inr ⟨newB_live.mpr (Or.inl c.1), c.2⟩
  · show gR S' (ad' 71) i = if i < kB κ + 1 then ad' (1000 + 8 * i) else 0
    rw [es 71 (fx 71 (by decide) (by decide))]
    by_cases c : i = kB κ
    · rw [c, r2, if_pos (by omega), e1]
    · rw [r3 _ _ (lt 71 (fx 71 (by decide) (by decide))) (fun z => c z.2), c9 i hi]
      by_cases c' : i < kB κ
      · rw [if_pos c', if_pos (by omega), es _ (isH_body c').1]
      · rw [if_neg c', if_neg (by omega)]
  · show gR S' (ad' 89) i = if 1 ≤ i ∧ i ≤ kV κ then ad' (1002 + 8 * i) else 0
    rw [es 89 (fx 89 (by decide) (by decide)), hR 89 i (fx 89 (by decide) (by decide)) (by decide), c10 i hi]
    by_cases c : 1 ≤ i ∧ i ≤ kV κ
    · rw [if_pos c, if_pos c, es _ (isH_voice c.1 c.2).1]
    · rw [if_neg c, if_neg c]
  · have hw : kW (newB κ) (1004 + 8 * s) = kW κ (1004 + 8 * s) := by
      show (if 1004 + 8 * s = 1001 + 8 * kB κ then 12 else κ.2.2.1 (1004 + 8 * s)) = _
      rw [if_neg (by omega)]; rfl
    rw [hw] at h0
    rw [es 90 (fx 90 (by decide) (by decide)), e3 (1004 + 8 * s) (by omega) (by omega), hR 90 s (fx 90 (by decide) (by decide)) (by decide)]
    exact c11 s hs h0
  · have hR92 : ∀ a j, 92 ≤ a → a < 168 → gR S' a j = gR S a j := fun a j h1 h2 => r3 a j (by omega) (fun z => by have := (c1 71 (fx 71 (by decide) (by decide))).2.2.1; omega)
    obtain ⟨l1, l2, l3, l4⟩ := c17
    refine ⟨l1, ⟨by have := l2.1; omega, by rw [(o 92 (by omega)).1]; exact l2.2⟩, fun q hq h0 => ?_, fun i hi => by rw [hR92 _ _ (by decide) (by decide)]; exact l4 i hi⟩
    obtain ⟨q1, q2, q3⟩ := l3 q hq h0
    have hm := maf_lt q
    exact ⟨by rw [hR92 _ _ (by decide) (by decide)]; exact q1, ⟨by have := q2.1; omega, by rw [(o _ (by omega)).1]; exact q2.2⟩, by rw [(o _ (by omega)).2.1]; exact q3⟩
  · show (if 69 = 1000 + 8 * kB κ ∨ 69 = 1001 + 8 * kB κ then 0 else κ.1 69 i).toInt8.toInt32 = if 69 = 1000 + 8 * kB κ ∨ 69 = 1001 + 8 * kB κ then 0 else κ.1 69 i
    rw [if_neg (by omega)]; exact c20 i
  · have hr : ∀ q ∈ cNs, q.1 < 92 := by decide
    show (if q.1 = 1001 + 8 * kB κ then 12 else κ.2.2.1 q.1) = q.2
    rw [if_neg (by have := hr q hq; omega)]
    exact c21 q hq
/-- Story.add -/
theorem kc_Story_add {X : Cx} {κ : Km} {F : Nat → Km → Prop} {i : Nat} (h2 : kI κ 67 2 = nI i) (hi : i ≤ 12) (hiB : i ≤ kB κ) (q1 : i = 12 → F 0 κ) (q2 : i < kB κ → i < 12 → F (1000 + 8 * i) (cI (cL κ (1000 + 8 * i) 1 0) 67 2 (nI (i + 1)))) (q3 : i = kB κ → i < 12 → F (1000 + 8 * i) (cI (cL (newB κ) (1000 + 8 * i) 1 0) 67 2 (nI (i + 1)))) : KC' X 2 MX7_add [vR 67] κ (kRR F) := by
  have e67 : ∀ {ad : Nat → Nat} {κ : Km} {S : Mem}, CV ad κ S → ad 67 = 67 := fun hC => hC.2.2.1 67 (by unfold still; decide)
  have e71 : ∀ {ad : Nat → Nat} {κ : Km} {S : Mem}, CV ad κ S → ad 71 = 71 := fun hC => hC.2.2.1 71 (by unfold still; decide)
  have r71 : ∀ {ad : Nat → Nat} {κ : Km} {S : Mem}, CV ad κ S → gR S 67 1 = 71 := fun hC => by
    have := hC.2.2.2.1 (67, 1, 71) (by decide)
    rw [e67 hC, e71 hC] at this; exact this
  -- the second half: the body stands
  have tail : ∀ {ad : Nat → Nat} {κ : Km} {S : Mem}, CV ad κ S → kI κ 67 2 = nI i → i < kB κ → i < 12 → V X 2 MX7_add 39 [(0, vR 67)] [] S (fun r S' => r = .inl (some (vR (ad (1000 + 8 * i)))) ∧ CV ad (cI (cL κ (1000 + 8 * i) 1 0) 67 2 (nI (i + 1))) S' ∧ Fc S S') := by
    intro ad κ S hC h2 hlt hi12
    have h67 : isH κ 67 7 := fixH 67 7 (by decide) rfl
    have h71 : isH κ 71 24 := fixH 71 24 (by decide) rfl
    have hb := isH_body (κ := κ) hlt
    have g2 : gI S 67 2 = nI i := by rw [← e67 hC, hC.i h67.1]; exact h2
    have k67 : isK S 67 7 := by have := hC.k h67; rw [e67 hC] at this; exact this
    have k71 : isK S 71 24 := by have := hC.k h71; rw [e71 hC] at this; exact this
    have n71 : gN S 71 = 12 := by have := hC.n h71 (by decide); rw [e71 hC] at this; rw [this]; exact hC.2.2.2.2.2.2.2.2.2.2.2.2.2.2.2.2.2.2.2.2 (71, 12) (by decide)
    have rb : gR S 71 i = ad (1000 + 8 * i) := by have := hC.2.2.2.2.2.2.2.2.1 i hi12; rw [e71 hC, if_pos hlt] at this; exact this
    refine w_X7_add_39 67 ⟨k67, by rw [r71 hC]; exact k71, by rw [r71 hC, g2, n71]; exact vp_in_lt hi12 (by omega), by rw [r71 hC, g2, cl_nI (by omega), rb]; exact hC.k hb, fun S5 e5 S6 e6 => ?_⟩
    rw [r71 hC, g2, cl_nI (by omega), rb] at e5
    rw [g2, nI_1] at e6
    obtain ⟨C1, f1⟩ := hC.setL (k := 1) (v := 0) hb.1
    obtain ⟨C2, f2⟩ := C1.setI (h := 67) (k := 2) (v := nI (i + 1)) (Or.inl (by decide)) (fun e => absurd e (by decide))
    have g6 : gI S6 67 2 = nI (i + 1) := by rw [e6, gI_uI_eq]
    have s6 : S6 = uI (uL S (ad (1000 + 8 * i)) 1 0) (ad 67) 2 (nI (i + 1)) := by rw [e6, e5, e67 hC]
    have sub1 : nI (i + 1) - 1 = nI i := by rw [← nI_1]; exact Int32.add_sub_cancel _ _
    rw [g6, sub1, cl_nI (by omega), r71 hC, rb, n71]
    refine ⟨vp_in_lt hi12 (by omega), rfl, ?_, ?_⟩
    · rw [s6]; exact C2
    · rw [s6]; exact f1.trans f2
  -- the call
  by_cases c12 : i = 12
  · refine ⟨.inl (some (vR 0)), κ, ⟨Mo.refl, fun ad S hC => ⟨ad, S, ?_, hC, fun _ _ _ => rfl, Fc.refl⟩⟩, _, rfl, q1 c12⟩
    have h67 : isH κ 67 7 := fixH 67 7 (by decide) rfl
    have g2 : gI S 67 2 = nI i := by rw [← e67 hC, hC.i h67.1]; exact h2
    have k67 : isK S 67 7 := by have := hC.k h67; rw [e67 hC] at this; exact this
    have V1 : V X 2 MX7_add 0 (lvE 0 [vR 67]) [] S (fun r S' => r = .inl (some (vR 0)) ∧ S' = S) := w_X7_add_0 67 ⟨k67, fun c => absurd c (by rw [g2, c12]; decide), fun _ => ⟨rfl, rfl⟩⟩
    obtain ⟨r2, S2, cr, rfl, rfl⟩ := C_of_V (M := MX7_add) (as := [vR 67]) rfl (Nat.le_of_ble_eq_true rfl) rfl V1
    show CR X 2 MX7_add (mps ad [vR 67]) S2 _ S2
    rw [mps_R (by decide), e67 hC]; exact cr
  have hi12 : i < 12 := by omega
  by_cases cB : i < kB κ
  · refine ⟨.inl (some (vR (1000 + 8 * i))), cI (cL κ (1000 + 8 * i) 1 0) 67 2 (nI (i + 1)), ⟨Mo.refl, fun ad S hC => ?_⟩, _, rfl, q2 cB hi12⟩
    have h67 : isH κ 67 7 := fixH 67 7 (by decide) rfl
    have h71 : isH κ 71 24 := fixH 71 24 (by decide) rfl
    have g2 : gI S 67 2 = nI i := by rw [← e67 hC, hC.i h67.1]; exact h2
    have k67 : isK S 67 7 := by have := hC.k h67; rw [e67 hC] at this; exact this
    have k71 : isK S 71 24 := by have := hC.k h71; rw [e71 hC] at this; exact this
    have n71 : gN S 71 = 12 := by have := hC.n h71 (by decide); rw [e71 hC] at this; rw [this]; exact hC.2.2.2.2.2.2.2.2.2.2.2.2.2.2.2.2.2.2.2.2 (71, 12) (by decide)
    have rb : gR S 71 i = ad (1000 + 8 * i) := by have := hC.2.2.2.2.2.2.2.2.1 i hi12; rw [e71 hC, if_pos cB] at this; exact this
    have hge := (hC.1 _ (isH_body cB).1).1
    have V1 : V X 2 MX7_add 0 (lvE 0 [vR 67]) [] S (fun r S' => r = .inl (some (vR (ad (1000 + 8 * i)))) ∧ CV ad (cI (cL κ (1000 + 8 * i) 1 0) 67 2 (nI (i + 1))) S' ∧ Fc S S') := by
      refine w_X7_add_0 67 ⟨k67, fun _ => ⟨by rw [r71 hC]; exact k71, by rw [r71 hC, g2, n71]; exact vp_in_lt hi12 (by omega), fun _ => tail hC h2 cB hi12, fun c => ?_⟩, fun c => absurd (by rw [g2]; exact (by rw [litI 12, lt_nI (by omega) (by omega)]; exact hi12)) c⟩
      rw [r71 hC, g2, cl_nI (by omega), rb] at c
      omega
    obtain ⟨r2, S2, cr, rfl, cv, fc⟩ := C_of_V (M := MX7_add) (as := [vR 67]) rfl (Nat.le_of_ble_eq_true rfl) rfl V1
    refine ⟨ad, S2, ?_, cv, fun _ _ _ => rfl, fc⟩
    show CR X 2 MX7_add (mps ad [vR 67]) S (.inl (some (mpv ad (vR (1000 + 8 * i))))) S2
    rw [mps_R (by decide), e67 hC, show mpv ad (vR (1000 + 8 * i)) = vR (ad (1000 + 8 * i)) from by show Sum.inr (Sum.inr (if _ < 64 then _ else _)) = _; rw [if_neg (by omega)]]
    exact cr
  · have ce : i = kB κ := by omega
    subst ce
    refine ⟨.inl (some (vR (1000 + 8 * kB κ))), cI (cL (newB κ) (1000 + 8 * kB κ) 1 0) 67 2 (nI (kB κ + 1)), ⟨⟨Nat.le_succ _, Nat.le_refl _⟩, fun ad S hC => ?_⟩, _, rfl, q3 rfl hi12⟩
    have h67 : isH κ 67 7 := fixH 67 7 (by decide) rfl
    have h71 : isH κ 71 24 := fixH 71 24 (by decide) rfl
    have g2 : gI S 67 2 = nI (kB κ) := by rw [← e67 hC, hC.i h67.1]; exact h2
    have k67 : isK S 67 7 := by have := hC.k h67; rw [e67 hC] at this; exact this
    have k71 : isK S 71 24 := by have := hC.k h71; rw [e71 hC] at this; exact this
    have n71 : gN S 71 = 12 := by have := hC.n h71 (by decide); rw [e71 hC] at this; rw [this]; exact hC.2.2.2.2.2.2.2.2.2.2.2.2.2.2.2.2.2.2.2.2 (71, 12) (by decide)
    have rb : gR S 71 (kB κ) = 0 := by have := hC.2.2.2.2.2.2.2.2.1 (kB κ) hi12; rw [e71 hC, if_neg (Nat.lt_irrefl _)] at this; exact this
    have hT : 168 ≤ tp S := hC.2.2.2.2.2.2.2.2.2.2.2.2.2.2.2.1
    -- the new memory
    have hS16 : ∀ S16 : Mem, S16 = uR (uR (nw (nw S 0 0 9) 22 12 12) (tp S) 0 (tp (nw S 0 0 9))) 71 (kB κ) (tp S) → CV (fun x => if x = 1000 + 8 * kB κ then tp S else if x = 1001 + 8 * kB κ then tp S + 1 else ad x) (newB κ) S16 ∧ Ob κ ad (fun x => if x = 1000 + 8 * kB κ then tp S else if x = 1001 + 8 * kB κ then tp S + 1 else ad x) ∧ Fc S S16 := by
      intro S16 e16
      subst e16
      have tn : tp (nw S 0 0 9) = tp S + 1 := rfl
      refine hC.addB hi12 rfl rfl (fun a ha => ⟨?_, ?_, ?_, ?_⟩) ?_ ?_ ?_ ?_ ?_ ?_ ?_ ?_ ?_ (fun a j ha hn => ?_) (if_pos rfl) (by show (if 1001 + 8 * kB κ = 1000 + 8 * kB κ then _ else _) = _; rw [if_neg (by omega), if_pos rfl]) (fun g h1 h2 => by show (if g = _ then _ else _) = _; rw [if_neg h1, if_neg h2])
      · show gK (nw (nw S 0 0 9) 22 12 12) a = _; rw [gK_nw, tn, if_neg (by omega), gK_nw, if_neg (by omega)]
      · show gN (nw (nw S 0 0 9) 22 12 12) a = _; rw [gN_nw, tn, if_neg (by omega), gN_nw, if_neg (by omega)]
      · funext i; show gI (nw (nw S 0 0 9) 22 12 12) a i = _; rw [gI_nw, tn, if_neg (by omega), gI_nw, if_neg (by omega)]
      · funext i; show gL (nw (nw S 0 0 9) 22 12 12) a i = _; rw [gL_nw, tn, if_neg (by omega), gL_nw, if_neg (by omega)]
      · show gK (nw (nw S 0 0 9) 22 12 12) (tp S) = _; rw [gK_nw, tn, if_neg (by omega), gK_nw, if_pos rfl]
      · show gK (nw (nw S 0 0 9) 22 12 12) (tp S + 1) = _; rw [gK_nw, tn, if_pos rfl]
      · show gN (nw (nw S 0 0 9) 22 12 12) (tp S + 1) = _; rw [gN_nw, tn, if_pos rfl]
      · funext i; show gI (nw (nw S 0 0 9) 22 12 12) (tp S) i = _; rw [gI_nw, tn, if_neg (by omega), gI_nw, if_pos rfl]
      · funext i; show gL (nw (nw S 0 0 9) 22 12 12) (tp S) i = _; rw [gL_nw, tn, if_neg (by omega), gL_nw, if_pos rfl]
      · funext i; show gI (nw (nw S 0 0 9) 22 12 12) (tp S + 1) i = _; rw [gI_nw, tn, if_pos rfl]
      · funext i; show gL (nw (nw S 0 0 9) 22 12 12) (tp S + 1) i = _; rw [gL_nw, tn, if_pos rfl]
      · rw [gR_uR, if_neg (by omega), gR_uR, if_pos ⟨rfl, rfl⟩, tn]
      · rw [e71 hC, gR_uR, if_pos ⟨rfl, rfl⟩]
      · rw [e71 hC] at hn
        rw [gR_uR, if_neg hn, gR_uR, if_neg (by omega), gR_nw, tn, if_neg (by omega), gR_nw, if_neg (by omega)]
    have V1 : V X 2 MX7_add 0 (lvE 0 [vR 67]) [] S (fun r S' => r = .inl (some (vR (tp S))) ∧ CV (fun x => if x = 1000 + 8 * kB κ then tp S else if x = 1001 + 8 * kB κ then tp S + 1 else ad x) (cI (cL (newB κ) (1000 + 8 * kB κ) 1 0) 67 2 (nI (kB κ + 1))) S' ∧ Ob κ ad (fun x => if x = 1000 + 8 * kB κ then tp S else if x = 1001 + 8 * kB κ then tp S + 1 else ad x) ∧ Fc S S') := by
      refine w_X7_add_0 67 ⟨k67, fun _ => ⟨by rw [r71 hC]; exact k71, by rw [r71 hC, g2, n71]; exact vp_in_lt hi12 (by omega), fun c => absurd (by rw [r71 hC, g2, cl_nI (by omega)]; exact rb) c, fun _ S6 e6 => ?_⟩, fun c => absurd (by rw [g2, litI 12, lt_nI (by omega) (by omega)]; exact hi12) c⟩
      refine ⟨by omega, 1, by decide, C_of_V rfl (Nat.le_of_ble_eq_true rfl) rfl (w_X0_init_0 (tp S) ⟨by decide, by omega, fun S4 e4 => ⟨by rw [e4, e6]; exact isK_nw isK_new, fun S6' e6' => ⟨rfl, ?_⟩⟩⟩)⟩
      have f6 : S6' = uR (nw (nw S 0 0 9) 22 12 12) (tp S) 0 (tp (nw S 0 0 9)) := by rw [e6', e4, e6]
      rw [r71 hC, g2, cl_nI (by omega)]
      refine ⟨by rw [f6]; exact isK_nw (isK_nw k71), ?_, by rw [f6]; exact isK_nw isK_new, by omega, fun S16 e16 => ?_⟩
      · rw [f6]
        show vp_in (nI (kB κ)) (gN (nw (nw S 0 0 9) 22 12 12) 71)
        rw [gN_nw, show tp (nw S 0 0 9) = tp S + 1 from rfl, if_neg (by omega), gN_nw, if_neg (by omega), n71]
        exact vp_in_lt hi12 (by omega)
      · rw [f6] at e16
        obtain ⟨cv, ob, fc⟩ := hS16 S16 e16
        have T := tail cv (show kI (newB κ) 67 2 = nI (kB κ) from (if_neg (by omega) : (if 67 = 1000 + 8 * kB κ ∨ 67 = 1001 + 8 * kB κ then (0 : Int32) else κ.1 67 2) = κ.1 67 2).trans h2) (Nat.lt_succ_self _) hi12
        refine T.mono ?_
        rintro r S' ⟨rfl, cv2, fc2⟩
        refine ⟨?_, cv2, ob, fc.trans fc2⟩
        show Sum.inl (some (vR (if 1000 + 8 * kB κ = 1000 + 8 * kB κ then tp S else _))) = _
        rw [if_pos rfl]
    obtain ⟨r2, S2, cr, rfl, cv, ob, fc⟩ := C_of_V (M := MX7_add) (as := [vR 67]) rfl (Nat.le_of_ble_eq_true rfl) rfl V1
    refine ⟨_, S2, ?_, cv, ob, fc⟩
    have em : mpv (fun x => if x = 1000 + 8 * kB κ then tp S else if x = 1001 + 8 * kB κ then tp S + 1 else ad x) (vR (1000 + 8 * kB κ)) = vR (tp S) := by
      show Sum.inr (Sum.inr (if 1000 + 8 * kB κ < 64 then _ else if 1000 + 8 * kB κ = 1000 + 8 * kB κ then tp S else _)) = _
      rw [if_neg (by omega), if_pos rfl]
    show CR X 2 MX7_add (mps ad [vR 67]) S (.inl (some (mpv _ (vR (1000 + 8 * kB κ))))) S2
    rw [mps_R (by decide), e67 hC, em]
    exact cr
