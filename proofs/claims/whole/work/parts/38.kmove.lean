/-! rows change hands: a voice's cells and the spare rows -/
def mvR (κ : Km) (a b : Nat) : Km := (fun g j => if g = b then κ.1 a j else κ.1 g j, fun g j => if g = b then κ.2.1 a j else κ.2.1 g j, fun g => if g = b then κ.2.2.1 a else if g = a then 0 else κ.2.2.1 g, κ.2.2.2)
theorem mvR_live {κ : Km} {a b g : Nat} (hab : a ≠ b) (w : kW κ a ≠ 0) (hv : (1000 ≤ a ∧ (a % 8 = 3 ∨ a % 8 = 4)) ∧ (1000 ≤ b ∧ ((b % 8 = 3 ∧ 1 ≤ (b - 1000) / 8 ∧ (b - 1000) / 8 ≤ kV κ) ∨ (b % 8 = 4 ∧ (b - 1000) / 8 < 12)))) : live (mvR κ a b) g ↔ (live κ g ∧ g ≠ a) ∨ g = b := by
  have e1 : kB (mvR κ a b) = kB κ := rfl
  have e2 : kV (mvR κ a b) = kV κ := rfl
  have e3 : kW (mvR κ a b) g = if g = b then kW κ a else if g = a then 0 else kW κ g := rfl
  unfold live
  rw [e1, e2, e3]
  by_cases c : g = b
  · rw [if_pos c]; subst c
    constructor
    · intro _; exact Or.inr rfl
    · intro _
      rcases hv.2.2 with h | h
      · exact Or.inr (Or.inr (Or.inr (Or.inr (Or.inl ⟨hv.2.1, h.1, h.2.1, h.2.2, w⟩))))
      · exact Or.inr (Or.inr (Or.inr (Or.inr (Or.inr ⟨hv.2.1, h.1, h.2, w⟩))))
  · rw [if_neg c]
    by_cases c2 : g = a
    · rw [if_pos c2]; subst c2
      constructor
      · rintro (h | h | h | h | h | h)
        · omega
        · omega
        · omega
        · omega
        · exact absurd rfl h.2.2.2.2
        · exact absurd rfl h.2.2.2
      · rintro (h | h)
        · exact absurd rfl h.2
        · exact absurd h c
    · rw [if_neg c2]
      constructor
      · intro h; exact Or.inl ⟨h, c2⟩
      · rintro (h | h)
        · exact h.1
        · exact absurd h c
theorem CV.mvOut {ad ad' : Nat → Nat} {κ : Km} {S S' : Mem} {n s : Nat} (hC : CV ad κ S) (n1 : 1 ≤ n) (n2 : n ≤ kV κ) (hs : s < 12) (w1 : kW κ (1003 + 8 * n) ≠ 0) (w2 : kW κ (1004 + 8 * s) = 0) (f1 : gI S' = gI S) (f2 : gL S' = gL S) (f3 : gK S' = gK S) (f4 : gN S' = gN S) (f5 : tp S' = tp S) (f6 : sz S' = sz S)
    (r1 : gR S' (ad (1002 + 8 * n)) 12 = 27) (r2 : gR S' (ad 90) s = ad (1003 + 8 * n)) (r3 : ∀ a j, ¬ (a = ad (1002 + 8 * n) ∧ j = 12) → ¬ (a = ad 90 ∧ j = s) → gR S' a j = gR S a j)
    (e1 : ad' (1004 + 8 * s) = ad (1003 + 8 * n)) (e2 : ad' (1003 + 8 * n) = 27) (eo : ∀ g, g ≠ 1003 + 8 * n → g ≠ 1004 + 8 * s → ad' g = ad g) : CV ad' (mvR κ (1003 + 8 * n) (1004 + 8 * s)) S' ∧ Ob κ ad ad' ∧ Fc S S' := by
  have la : live κ (1003 + 8 * n) := by unfold live; omega
  have hLV : ∀ {g}, live (mvR κ (1003 + 8 * n) (1004 + 8 * s)) g ↔ (live κ g ∧ g ≠ 1003 + 8 * n) ∨ g = 1004 + 8 * s := fun {g} => mvR_live (by omega) w1 (by omega)
  obtain ⟨c1, c2, c3, c4, c5, c6, c7, c8, c9, c10, c11, c12, c13, c14, c15, c16, c17, c18, c19, c20, c21⟩ := hC
  have lt : ∀ g, live κ g → ad g < tp S := fun g hg => (c1 g hg).2.1
  have fx : ∀ x, 64 ≤ x → x < 92 → live κ x := fun x a b => Or.inl ⟨a, b⟩
  have ef : ∀ g, g < 1000 → ad' g = ad g := fun g hg => eo g (by omega) (by omega)
  have lv : live κ (1002 + 8 * n) := (isH_voice n1 n2).1
  have nb : ¬ live κ (1004 + 8 * s) := by unfold live; omega
  have hR : ∀ g j, live κ g → (g ≠ 90 ∧ g ≠ 1002 + 8 * n) → gR S' (ad g) j = gR S (ad g) j := fun g j hg hn => r3 _ _ (fun z => hn.2 (c2 _ _ hg lv z.1)) (fun z => hn.1 (c2 _ _ hg (fx 90 (by decide) (by decide)) z.1))
  have hRa : ∀ a j, (a ≠ ad (1002 + 8 * n) ∧ a ≠ ad 90) → gR S' a j = gR S a j := fun a j h => r3 a j (fun z => h.1 z.1) (fun z => h.2 z.1)
  have vwS : vw 92 S' = vw 92 S := vw_cong (fun a _ _ => ⟨by rw [f1], by rw [f2]⟩)
  have hq1 : ∀ q ∈ hRs, 64 ≤ q.1 ∧ q.1 < 92 ∧ q.1 ≠ 90 ∧ 64 ≤ q.2.2 ∧ q.2.2 < 92 := by decide
  refine ⟨⟨fun g hg => ?_, fun g g' hg hg' e => ?_, fun g hg => ?_, fun q hq => ?_, fun i hi => ?_, fun m h1 h2 => ?_, ?_, ?_, fun i hi => ?_, fun i hi => ?_, fun s' hs' h0 => ?_, c12, c13, by rw [f5]; exact c14, by rw [f6]; exact c15, by rw [f5]; exact c16, ?_, by rw [f3]; exact c18, by rw [f4]; exact c19, fun i => ?_, fun q hq => ?_⟩, fun g hg hg2 => ?_, vwS, by rw [f4], by rw [f1]⟩
  · rcases hLV.mp hg with ⟨h, hne⟩ | rfl
    · have hgb : g ≠ 1004 + 8 * s := fun z => nb (z ▸ h)
      obtain ⟨b1, b2, b3, b4, b5, b6, b7⟩ := c1 g h
      rw [eo g (by omega) (by omega), f1, f2, f3, f4, f5]
      refine ⟨b1, b2, b3, b4, fun hh => ?_, ?_, ?_⟩
      · rw [b5 hh]; show _ = if g = 1004 + 8 * s then _ else if g = 1003 + 8 * n then 0 else _; rw [if_neg hgb, if_neg hne]; rfl
      · rw [b6]; funext j; show _ = if g = 1004 + 8 * s then _ else _; rw [if_neg hgb]; rfl
      · rw [b7]; funext j; show _ = if g = 1004 + 8 * s then _ else _; rw [if_neg hgb]; rfl
    · obtain ⟨b1, b2, b3, b4, b5, b6, b7⟩ := c1 _ la
      have hka : hk (1003 + 8 * n) = 21 := by unfold hk; rw [if_neg (by omega), if_neg (by omega), if_neg (by omega), if_neg (by omega)]
      have hkb : hk (1004 + 8 * s) = 21 := by unfold hk; rw [if_neg (by omega), if_neg (by omega), if_neg (by omega), if_neg (by omega)]
      rw [e1, f1, f2, f3, f4, f5, hkb]
      rw [hka] at b4 b5
      refine ⟨b1, b2, b3, b4, fun hh => ?_, ?_, ?_⟩
      · rw [b5 hh]; show _ = if 1004 + 8 * s = 1004 + 8 * s then kW κ (1003 + 8 * n) else _; rw [if_pos rfl]
      · rw [b6]; funext j; show _ = if 1004 + 8 * s = 1004 + 8 * s then kI κ (1003 + 8 * n) j else _; rw [if_pos rfl]
      · rw [b7]; funext j; show _ = if 1004 + 8 * s = 1004 + 8 * s then kL κ (1003 + 8 * n) j else _; rw [if_pos rfl]
  · have al : ∀ x, live (mvR κ (1003 + 8 * n) (1004 + 8 * s)) x → ∃ y, live κ y ∧ ad' x = ad y ∧ ((y = x ∧ x ≠ 1003 + 8 * n ∧ x ≠ 1004 + 8 * s) ∨ (y = 1003 + 8 * n ∧ x = 1004 + 8 * s)) := fun x hx => by
      rcases hLV.mp hx with ⟨h, hne⟩ | rfl
      · have hgb : x ≠ 1004 + 8 * s := fun z => nb (z ▸ h)
        exact ⟨x, h, eo x (by omega) (by omega), Or.inl ⟨rfl, hne, hgb⟩⟩
      · exact ⟨_, la, e1, Or.inr ⟨rfl, rfl⟩⟩
    obtain ⟨y, y1, y2, y3⟩ := al g hg
    obtain ⟨z, z1, z2, z3⟩ := al g' hg'
    rw [y2, z2] at e
    have := c2 y z y1 z1 e
    omega
  · rw [ef g (by unfold still at hg; omega)]; exact c3 g hg
  · obtain ⟨b1, b2, b3, b4, b5⟩ := hq1 q hq
    rw [ef _ (by omega), ef _ (by omega), hR _ _ (fx _ b1 b2) (by omega)]; exact c4 q hq
  · have hi' : i < kB κ := hi
    rw [eo _ (by omega) (by omega), eo _ (by omega) (by omega), hR _ _ (isH_body hi').1 (by omega)]; exact c5 i hi'
  · have h2' : m ≤ kV κ := h2
    by_cases c : m = n
    · subst c
      have hw : kW (mvR κ (1003 + 8 * m) (1004 + 8 * s)) (1003 + 8 * m) = 0 := by
        show (if 1003 + 8 * m = 1004 + 8 * s then _ else if 1003 + 8 * m = 1003 + 8 * m then 0 else _) = 0
        rw [if_neg (by omega), if_pos rfl]
      rw [eo (1002 + 8 * m) (by omega) (by omega), e2]
      exact ⟨r1, fun _ => rfl⟩
    · have hw : kW (mvR κ (1003 + 8 * n) (1004 + 8 * s)) (1003 + 8 * m) = kW κ (1003 + 8 * m) := by
        show (if 1003 + 8 * m = 1004 + 8 * s then _ else if 1003 + 8 * m = 1003 + 8 * n then 0 else κ.2.2.1 (1003 + 8 * m)) = _
        rw [if_neg (by omega), if_neg (by omega)]; rfl
      rw [eo (1002 + 8 * m) (by omega) (by omega), eo (1003 + 8 * m) (by omega) (by omega), hw, hR _ _ (isH_voice h1 h2').1 (by omega)]
      exact c6 m h1 h2' 
  · show gR S' (ad' 77) 3 = if kC κ = 0 then 0 else ad' (kC κ)
    rw [ef 77 (by decide), hR 77 3 (fx 77 (by decide) (by decide)) (by omega), c7]
    by_cases c : kC κ = 0
    · rw [if_pos c, if_pos c]
    · have hb := (c8.resolve_left c).b
      rw [if_neg c, if_neg c, eo _ (by omega) (by omega)]
  · rcases c8 with c | c
    · exact Or.inl c
    · have hb := c.b
      have hne : kC κ ≠ 1003 + 8 * n := by omega
      exact Or.inr ⟨hLV.mpr (Or.inl ⟨c.1, hne⟩), c.2⟩
  · show gR S' (ad' 71) i = if i < kB κ then ad' (1000 + 8 * i) else 0
    rw [ef 71 (by decide), hR 71 i (fx 71 (by decide) (by decide)) (by omega), c9 i hi]
    by_cases c : i < kB κ
    · rw [if_pos c, if_pos c, eo _ (by omega) (by omega)]
    · rw [if_neg c, if_neg c]
  · show gR S' (ad' 89) i = if 1 ≤ i ∧ i ≤ kV κ then ad' (1002 + 8 * i) else 0
    rw [ef 89 (by decide), hR 89 i (fx 89 (by decide) (by decide)) (by omega), c10 i hi]
    by_cases c : 1 ≤ i ∧ i ≤ kV κ
    · rw [if_pos c, if_pos c, eo _ (by omega) (by omega)]
    · rw [if_neg c, if_neg c]
  · rw [ef 90 (by decide)]
    by_cases c : s' = s
    · subst c; rw [r2, e1]
    · have hw : kW (mvR κ (1003 + 8 * n) (1004 + 8 * s)) (1004 + 8 * s') = kW κ (1004 + 8 * s') := by
        show (if 1004 + 8 * s' = 1004 + 8 * s then _ else if 1004 + 8 * s' = 1003 + 8 * n then 0 else κ.2.2.1 (1004 + 8 * s')) = _
        rw [if_neg (by omega), if_neg (by omega)]; rfl
      rw [hw] at h0
      rw [r3 _ _ (fun z => by have := c2 _ _ (fx 90 (by decide) (by decide)) lv z.1; omega) (fun z => c z.2), eo (1004 + 8 * s') (by omega) (by omega)]
      exact c11 s' hs' h0
  · have hR92 : ∀ a j, 92 ≤ a → a < 168 → gR S' a j = gR S a j := fun a j h1 h2 => hRa a j (by have := (c1 _ lv).2.2.1; have := (c1 90 (fx 90 (by decide) (by decide))).2.2.1; omega)
    obtain ⟨l1, l2, l3, l4⟩ := c17
    refine ⟨l1, ⟨by rw [f5]; exact l2.1, by rw [f3]; exact l2.2⟩, fun q hq h0 => ?_, fun i hi => by rw [hR92 _ _ (by decide) (by decide)]; exact l4 i hi⟩
    obtain ⟨q1, q2, q3⟩ := l3 q hq h0
    exact ⟨by rw [hR92 _ _ (by decide) (by decide)]; exact q1, ⟨by rw [f5]; exact q2.1, by rw [f3]; exact q2.2⟩, by rw [f4]; exact q3⟩
  · show (if 69 = 1004 + 8 * s then κ.1 (1003 + 8 * n) i else κ.1 69 i).toInt8.toInt32 = if 69 = 1004 + 8 * s then κ.1 (1003 + 8 * n) i else κ.1 69 i
    rw [if_neg (by omega)]; exact c20 i
  · have hr : ∀ q ∈ cNs, q.1 < 92 := by decide
    have := hr q hq
    show (if q.1 = 1004 + 8 * s then _ else if q.1 = 1003 + 8 * n then 0 else κ.2.2.1 q.1) = q.2
    rw [if_neg (by omega), if_neg (by omega)]
    exact c21 q hq
  · have h2 := hk_obj hg hg2
    exact eo g (by omega) (by omega)
theorem CV.mvIn {ad ad' : Nat → Nat} {κ : Km} {S S' : Mem} {n s : Nat} (hC : CV ad κ S) (n1 : 1 ≤ n) (n2 : n ≤ kV κ) (hs : s < 12) (w1 : kW κ (1004 + 8 * s) ≠ 0) (w2 : kW κ (1003 + 8 * n) = 0) (f1 : gI S' = gI S) (f2 : gL S' = gL S) (f3 : gK S' = gK S) (f4 : gN S' = gN S) (f5 : tp S' = tp S) (f6 : sz S' = sz S)
    (r1 : gR S' (ad (1002 + 8 * n)) 12 = ad (1004 + 8 * s)) (r3 : ∀ a j, ¬ (a = ad (1002 + 8 * n) ∧ j = 12) → gR S' a j = gR S a j)
    (e1 : ad' (1003 + 8 * n) = ad (1004 + 8 * s)) (e2 : ad' (1004 + 8 * s) = 27) (eo : ∀ g, g ≠ 1003 + 8 * n → g ≠ 1004 + 8 * s → ad' g = ad g) : CV ad' (mvR κ (1004 + 8 * s) (1003 + 8 * n)) S' ∧ Ob κ ad ad' ∧ Fc S S' := by
  have la : live κ (1004 + 8 * s) := by unfold live; omega
  have hLV : ∀ {g}, live (mvR κ (1004 + 8 * s) (1003 + 8 * n)) g ↔ (live κ g ∧ g ≠ 1004 + 8 * s) ∨ g = 1003 + 8 * n := fun {g} => mvR_live (by omega) w1 (by omega)
  obtain ⟨c1, c2, c3, c4, c5, c6, c7, c8, c9, c10, c11, c12, c13, c14, c15, c16, c17, c18, c19, c20, c21⟩ := hC
  have lt : ∀ g, live κ g → ad g < tp S := fun g hg => (c1 g hg).2.1
  have fx : ∀ x, 64 ≤ x → x < 92 → live κ x := fun x a b => Or.inl ⟨a, b⟩
  have ef : ∀ g, g < 1000 → ad' g = ad g := fun g hg => eo g (by omega) (by omega)
  have lv : live κ (1002 + 8 * n) := (isH_voice n1 n2).1
  have nb : ¬ live κ (1003 + 8 * n) := by unfold live; omega
  have hR : ∀ g j, live κ g → (g ≠ 1002 + 8 * n) → gR S' (ad g) j = gR S (ad g) j := fun g j hg hn => r3 _ _ (fun z => hn (c2 _ _ hg lv z.1))
  have hRa : ∀ a j, (a ≠ ad (1002 + 8 * n) ∧ a ≠ ad 90) → gR S' a j = gR S a j := fun a j h => r3 a j (fun z => h.1 z.1)
  have vwS : vw 92 S' = vw 92 S := vw_cong (fun a _ _ => ⟨by rw [f1], by rw [f2]⟩)
  have hq1 : ∀ q ∈ hRs, 64 ≤ q.1 ∧ q.1 < 92 ∧ q.1 ≠ 90 ∧ 64 ≤ q.2.2 ∧ q.2.2 < 92 := by decide
  refine ⟨⟨fun g hg => ?_, fun g g' hg hg' e => ?_, fun g hg => ?_, fun q hq => ?_, fun i hi => ?_, fun m h1 h2 => ?_, ?_, ?_, fun i hi => ?_, fun i hi => ?_, fun s' hs' h0 => ?_, c12, c13, by rw [f5]; exact c14, by rw [f6]; exact c15, by rw [f5]; exact c16, ?_, by rw [f3]; exact c18, by rw [f4]; exact c19, fun i => ?_, fun q hq => ?_⟩, fun g hg hg2 => ?_, vwS, by rw [f4], by rw [f1]⟩
  · rcases hLV.mp hg with ⟨h, hne⟩ | rfl
    · have hgb : g ≠ 1003 + 8 * n := fun z => nb (z ▸ h)
      obtain ⟨b1, b2, b3, b4, b5, b6, b7⟩ := c1 g h
      rw [eo g (by omega) (by omega), f1, f2, f3, f4, f5]
      refine ⟨b1, b2, b3, b4, fun hh => ?_, ?_, ?_⟩
      · rw [b5 hh]; show _ = if g = 1003 + 8 * n then _ else if g = 1004 + 8 * s then 0 else _; rw [if_neg hgb, if_neg hne]; rfl
      · rw [b6]; funext j; show _ = if g = 1003 + 8 * n then _ else _; rw [if_neg hgb]; rfl
      · rw [b7]; funext j; show _ = if g = 1003 + 8 * n then _ else _; rw [if_neg hgb]; rfl
    · obtain ⟨b1, b2, b3, b4, b5, b6, b7⟩ := c1 _ la
      have hka : hk (1004 + 8 * s) = 21 := by unfold hk; rw [if_neg (by omega), if_neg (by omega), if_neg (by omega), if_neg (by omega)]
      have hkb : hk (1003 + 8 * n) = 21 := by unfold hk; rw [if_neg (by omega), if_neg (by omega), if_neg (by omega), if_neg (by omega)]
      rw [e1, f1, f2, f3, f4, f5, hkb]
      rw [hka] at b4 b5
      refine ⟨b1, b2, b3, b4, fun hh => ?_, ?_, ?_⟩
      · rw [b5 hh]; show _ = if 1003 + 8 * n = 1003 + 8 * n then kW κ (1004 + 8 * s) else _; rw [if_pos rfl]
      · rw [b6]; funext j; show _ = if 1003 + 8 * n = 1003 + 8 * n then kI κ (1004 + 8 * s) j else _; rw [if_pos rfl]
      · rw [b7]; funext j; show _ = if 1003 + 8 * n = 1003 + 8 * n then kL κ (1004 + 8 * s) j else _; rw [if_pos rfl]
  · have al : ∀ x, live (mvR κ (1004 + 8 * s) (1003 + 8 * n)) x → ∃ y, live κ y ∧ ad' x = ad y ∧ ((y = x ∧ x ≠ 1004 + 8 * s ∧ x ≠ 1003 + 8 * n) ∨ (y = 1004 + 8 * s ∧ x = 1003 + 8 * n)) := fun x hx => by
      rcases hLV.mp hx with ⟨h, hne⟩ | rfl
      · have hgb : x ≠ 1003 + 8 * n := fun z => nb (z ▸ h)
        exact ⟨x, h, eo x (by omega) (by omega), Or.inl ⟨rfl, hne, hgb⟩⟩
      · exact ⟨_, la, e1, Or.inr ⟨rfl, rfl⟩⟩
    obtain ⟨y, y1, y2, y3⟩ := al g hg
    obtain ⟨z, z1, z2, z3⟩ := al g' hg'
    rw [y2, z2] at e
    have := c2 y z y1 z1 e
    omega
  · rw [ef g (by unfold still at hg; omega)]; exact c3 g hg
  · obtain ⟨b1, b2, b3, b4, b5⟩ := hq1 q hq
    rw [ef _ (by omega), ef _ (by omega), hR _ _ (fx _ b1 b2) (by omega)]; exact c4 q hq
  · have hi' : i < kB κ := hi
    rw [eo _ (by omega) (by omega), eo _ (by omega) (by omega), hR _ _ (isH_body hi').1 (by omega)]; exact c5 i hi'
  · have h2' : m ≤ kV κ := h2
    by_cases c : m = n
    · subst c
      have hw : kW (mvR κ (1004 + 8 * s) (1003 + 8 * m)) (1003 + 8 * m) = kW κ (1004 + 8 * s) := by
        show (if 1003 + 8 * m = 1003 + 8 * m then _ else _) = _
        rw [if_pos rfl]; rfl
      rw [eo (1002 + 8 * m) (by omega) (by omega), e1, hw]
      exact ⟨r1, fun z => absurd z w1⟩
    · have hw : kW (mvR κ (1004 + 8 * s) (1003 + 8 * n)) (1003 + 8 * m) = kW κ (1003 + 8 * m) := by
        show (if 1003 + 8 * m = 1003 + 8 * n then _ else if 1003 + 8 * m = 1004 + 8 * s then 0 else κ.2.2.1 (1003 + 8 * m)) = _
        rw [if_neg (by omega), if_neg (by omega)]; rfl
      rw [eo (1002 + 8 * m) (by omega) (by omega), eo (1003 + 8 * m) (by omega) (by omega), hw, hR _ _ (isH_voice h1 h2').1 (by omega)]
      exact c6 m h1 h2' 
  · show gR S' (ad' 77) 3 = if kC κ = 0 then 0 else ad' (kC κ)
    rw [ef 77 (by decide), hR 77 3 (fx 77 (by decide) (by decide)) (by omega), c7]
    by_cases c : kC κ = 0
    · rw [if_pos c, if_pos c]
    · have hb := (c8.resolve_left c).b
      rw [if_neg c, if_neg c, eo _ (by omega) (by omega)]
  · rcases c8 with c | c
    · exact Or.inl c
    · have hb := c.b
      have hne : kC κ ≠ 1004 + 8 * s := by omega
      exact Or.inr ⟨hLV.mpr (Or.inl ⟨c.1, hne⟩), c.2⟩
  · show gR S' (ad' 71) i = if i < kB κ then ad' (1000 + 8 * i) else 0
    rw [ef 71 (by decide), hR 71 i (fx 71 (by decide) (by decide)) (by omega), c9 i hi]
    by_cases c : i < kB κ
    · rw [if_pos c, if_pos c, eo _ (by omega) (by omega)]
    · rw [if_neg c, if_neg c]
  · show gR S' (ad' 89) i = if 1 ≤ i ∧ i ≤ kV κ then ad' (1002 + 8 * i) else 0
    rw [ef 89 (by decide), hR 89 i (fx 89 (by decide) (by decide)) (by omega), c10 i hi]
    by_cases c : 1 ≤ i ∧ i ≤ kV κ
    · rw [if_pos c, if_pos c, eo _ (by omega) (by omega)]
    · rw [if_neg c, if_neg c]
  · rw [ef 90 (by decide)]
    have hw : kW (mvR κ (1004 + 8 * s) (1003 + 8 * n)) (1004 + 8 * s') = if 1004 + 8 * s' = 1004 + 8 * s then 0 else kW κ (1004 + 8 * s') := by
      show (if 1004 + 8 * s' = 1003 + 8 * n then _ else if 1004 + 8 * s' = 1004 + 8 * s then 0 else κ.2.2.1 (1004 + 8 * s')) = _
      rw [if_neg (by omega)]; rfl
    rw [hw] at h0
    by_cases c : s' = s
    · subst c; rw [if_pos rfl] at h0; exact absurd rfl h0
    · rw [if_neg (by omega)] at h0
      rw [hR 90 s' (fx 90 (by decide) (by decide)) (by omega), eo (1004 + 8 * s') (by omega) (by omega)]
      exact c11 s' hs' h0
  · have hR92 : ∀ a j, 92 ≤ a → a < 168 → gR S' a j = gR S a j := fun a j h1 h2 => hRa a j (by have := (c1 _ lv).2.2.1; have := (c1 90 (fx 90 (by decide) (by decide))).2.2.1; omega)
    obtain ⟨l1, l2, l3, l4⟩ := c17
    refine ⟨l1, ⟨by rw [f5]; exact l2.1, by rw [f3]; exact l2.2⟩, fun q hq h0 => ?_, fun i hi => by rw [hR92 _ _ (by decide) (by decide)]; exact l4 i hi⟩
    obtain ⟨q1, q2, q3⟩ := l3 q hq h0
    exact ⟨by rw [hR92 _ _ (by decide) (by decide)]; exact q1, ⟨by rw [f5]; exact q2.1, by rw [f3]; exact q2.2⟩, by rw [f4]; exact q3⟩
  · show (if 69 = 1003 + 8 * n then κ.1 (1004 + 8 * s) i else κ.1 69 i).toInt8.toInt32 = if 69 = 1003 + 8 * n then κ.1 (1004 + 8 * s) i else κ.1 69 i
    rw [if_neg (by omega)]; exact c20 i
  · have hr : ∀ q ∈ cNs, q.1 < 92 := by decide
    have := hr q hq
    show (if q.1 = 1003 + 8 * n then _ else if q.1 = 1004 + 8 * s then 0 else κ.2.2.1 q.1) = q.2
    rw [if_neg (by omega), if_neg (by omega)]
    exact c21 q hq
  · have h2 := hk_obj hg hg2
    exact eo g (by omega) (by omega)
