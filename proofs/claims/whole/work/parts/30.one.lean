theorem PI.mono {X : Cx} {M1 M2 : MI} {as : List AV} {S : Mem} {R R' : Mem → Prop} (h : PI X M1 M2 as S R) (hr : ∀ S, R S → R' S) : PI X M1 M2 as S R' := by
  obtain ⟨e, he, hc⟩ := h
  refine ⟨e, he, hc.mono ?_⟩
  rintro r S' ⟨y, rfl, g1, g2, g3, e', he', hc'⟩
  refine ⟨y, rfl, g1, g2, g3, e', he', hc'.mono ?_⟩
  rintro r2 S2 ⟨y', rfl, e1, h1⟩
  exact ⟨y', rfl, e1, hr S2 h1⟩
theorem PJ.mono {X : Cx} {M1 M2 : MI} {as : List AV} {S : Mem} {R R' : Mem → Prop} (h : PJ X M1 M2 as S R) (hr : ∀ S, R S → R' S) : PJ X M1 M2 as S R' := by
  obtain ⟨e, he, hc⟩ := h
  refine ⟨e, he, hc.mono ?_⟩
  rintro r S' ⟨y, rfl, g1, g2, g3, e', he', hc'⟩
  refine ⟨y, rfl, g1, g2, g3, e', he', hc'.mono ?_⟩
  rintro r2 S2 ⟨y', rfl, e1, h1⟩
  exact ⟨y', rfl, e1, hr S2 h1⟩
theorem PC.mono {X : Cx} {S : Mem} {R R' : Mem → Prop} (h : PC X S R) (hr : ∀ S, R S → R' S) : PC X S R' := by
  obtain ⟨e, he, hc⟩ := h
  refine ⟨e, he, hc.mono ?_⟩
  rintro r S' ⟨y, rfl, g1, g2, g3, e', he', r2, S2, hc', y', rfl, e1, h1⟩
  exact ⟨y, rfl, g1, g2, g3, e', he', _, S2, hc', y', rfl, e1, hr S2 h1⟩
theorem Ops.mono {X : Cx} {S : Mem} {R R' : Mem → Prop} (h : Ops X S R) (hr : ∀ S, R S → R' S) : Ops X S R' := by
  obtain ⟨o0, o1, o2, o3, o4, o5, o6, o7, o8, o9, o10, o11, o12, o13, o14, o15, o16, o17, o18, o19, o20⟩ := h
  exact ⟨fun l x => (o0 l x).mono hr, o1.mono hr, o2.mono hr, fun x0 x1 => (o3 x0 x1).mono hr, fun x0 x1 => (o4 x0 x1).mono hr, fun x0 x1 => (o5 x0 x1).mono hr, fun x0 x1 x2 => (o6 x0 x1 x2).mono hr, fun x0 => (o7 x0).mono hr, o8.mono hr, o9.mono hr, fun x0 x1 => (o10 x0 x1).mono hr, fun x0 x1 x2 => (o11 x0 x1 x2).mono hr, o12.mono hr, fun x0 x1 => (o13 x0 x1).mono hr, o14.mono hr, fun x0 x1 => (o15 x0 x1).mono hr, o16.mono hr, fun x0 x1 => (o17 x0 x1).mono hr, fun x0 => (o18 x0).mono hr, fun x0 => (o19 x0).mono hr, o20.mono hr⟩
/-! the first call on fresh objects -/
/-- the bounds that the law's end needs -/
def Bd (L : Nat) (S : Mem) : Prop := isK S 64 11 ∧ isK S 92 13 ∧ gN S 1 = L ∧ tp S ≤ 600000 ∧ sz S ≤ 7000000
theorem Bd.fr {L : Nat} {S S' : Mem} (h : Bd L S) (f : Fr 92 S S') : Bd L S' := ⟨⟨by rw [f.2.2.2.1]; exact h.1.1, by rw [f.2.1]; exact h.1.2⟩, ⟨by rw [f.2.2.2.1]; exact h.2.1.1, by rw [f.2.1]; exact h.2.1.2⟩, by rw [f.2.2.1]; exact h.2.2.1, by rw [f.2.2.2.1]; exact h.2.2.2.1, by rw [f.2.2.2.2.1]; exact h.2.2.2.2⟩
theorem Bd.ag {L : Nat} {S S' : Mem} (h : Bd L S) (f : Ag S S') : Bd L S' := ⟨⟨by rw [f.2.2.1]; exact h.1.1, by rw [f.1]; exact h.1.2⟩, ⟨by rw [f.2.2.1]; exact h.2.1.1, by rw [f.1]; exact h.2.1.2⟩, by rw [f.2.1]; exact h.2.2.1, by rw [f.2.2.1]; exact h.2.2.2.1, by rw [f.2.2.2.1]; exact h.2.2.2.2⟩
theorem PI.both {X : Cx} {M1 M2 : MI} {as : List AV} {S : Mem} {L e e' : Nat} (hb : Bd L S) (Ly : Lay 92 S) (he : e + 1 ≤ 2048) (he' : e' + 1 ≤ 2048) (h1 : ∀ F : Int32 → Mem → Prop, F (-2) S → C X e M1 (vR 64 :: as) S (RI F)) (h2 : ∀ F : Int32 → Rm → Prop, F (-2) (vw 92 S) → AC X 92 e' M2 (vR 92 :: as) (vw 92 S) (aRI F)) : PI X M1 M2 as S (Bd L) :=
  ⟨e, he, h1 _ ⟨hb.2.1, rfl, rfl, e', he', C_of_AC Ly (h2 (fun x _ => x = -2) rfl) (by rintro r σ' T' ⟨x, rfl, rfl⟩ _ hf; exact ⟨_, rfl, rfl, hb.fr hf⟩)⟩⟩
theorem fresh_ops {X : Cx} {S : Mem} {L : Nat} (hF : FreshC S) (Ly : Lay 92 S) (hv : vw 92 S = sg0) (hb : Bd L S) : Ops X S (Bd L) := by
  obtain ⟨hL, h1, h2, h3, h4⟩ := hF
  have k := hL.k 64 11
  have z : sI (vw 92 S) 46 = 0 := by rw [hv]; rfl
  have z2 : sI (vw 92 S) 2 = nI 0 := by rw [hv]; rfl
  have r65 : gR S 64 0 = 65 := hL.r 64 0 65
  have hT : Tape S (gR S 64 0) 0 (gI S 66) := by
    rw [r65]
    exact ⟨hL.k 65 8, by rw [hL.r 65 0 66]; exact hL.k 66 20, by rw [hL.r 65 0 66]; exact hL.n 66 3000, h1, by decide, fun i hi => absurd hi (Nat.not_lt_zero _)⟩
  refine ⟨fun l x => ?_, ?_, ?_, ?_, ?_, ?_, ?_, ?_, ?_, ?_, ?_, ?_, ?_, ?_, ?_, ?_, ?_, ?_, ?_, ?_, ?_⟩
  · refine ⟨1, by decide, c_feed k hT (fun hx => ⟨_, rfl, hb.2.1, rfl, rfl, 1, by decide, ?_⟩) (fun w w1 w2 hx hw => by omega) (fun w S' f' w1 w2 hx hw k' T' t' s' gi gl gr gk gn _ _ => ⟨_, rfl, ?_⟩)⟩
    · refine C_of_AC Ly (ac_feed (Q := aRI (fun y _ => y = -1)) z2 (by decide) (fun _ => ⟨_, rfl, rfl⟩) (fun w w1 w2 e hw => by omega) (fun w w1 w2 e hw => ?_)) (by rintro r σ' T' ⟨y, rfl, rfl⟩ _ hf; exact ⟨_, rfl, rfl, hb.fr hf⟩)
      subst e
      rcases hx with c | c
      · rw [litI 1, lt_nI (by omega) (by omega)] at c; omega
      · rw [litI 8, lt_nI (by omega) (by omega)] at c; omega
    · have hne : ∀ a, a ≠ 65 → a ≠ 66 → gI S' a = gI S a := fun a n1 n2 => by funext j; exact gi a j (by rw [r65]; exact n1) (by rw [r65, hL.r 65 0 66]; exact n2)
      have hA : Ag S S' := ⟨gk, gn, t', s', fun a ha => ⟨hne a (fun c => ha (by subst c; unfold low; decide)) (fun c => ha (by subst c; unfold low; decide)), by rw [gl], by rw [gr]⟩⟩
      have hb' := hb.ag hA
      refine ⟨hb'.2.1, by rw [gn], hne 1 (by decide) (by decide), 1, by decide, ?_⟩
      have z3 : sI (vw 92 S') 2 = nI 0 := by rw [hA.vw]; exact z2
      refine C_of_AC (hA.lay Ly) (ac_feed (Q := aRI (fun y _ => nI (0 + w) = y)) z3 (by decide) (fun hx2 => ?_) (fun w' w1' w2' e hw' => by omega) (fun w' w1' w2' e hw' => ⟨_, rfl, ?_⟩)) (by rintro r σ' T' ⟨y, rfl, rfl⟩ _ hf; exact ⟨_, rfl, rfl, hb'.fr hf⟩)
      · subst hx
        rcases hx2 with c | c
        · rw [litI 1, lt_nI (by omega) (by omega)] at c; omega
        · rw [litI 8, lt_nI (by omega) (by omega)] at c; omega
      · rw [hx, eq_nI (by omega) (by omega)] at e
        rw [e]
  · refine ⟨1, by decide, c_drop k hT ?_⟩
    rw [r65]
    have hA : Ag S (uI S 65 1 0) := Ag.of (P := low) (But.refl.uI (by unfold low; decide)) (fun a ha => ha)
    have hb' := hb.ag hA
    refine ⟨hb'.2.1, rfl, by funext j; exact gI_uI_ne (by decide), 0, by decide, ?_⟩
    refine C_of_AC (hA.lay Ly) (ac_drop (F := fun y _ => nI 0 = y) (by rw [hA.vw]; exact z2.symm)) (by rintro r σ' T' ⟨y, rfl, rfl⟩ _ hf; exact ⟨_, rfl, rfl, hb'.fr hf⟩)
  · refine ⟨4, by decide, c_compile0 ⟨hL, h1, h2, h3, h4⟩ fun S' hA => ?_⟩
    have hb' := hb.ag hA
    refine ⟨hb'.2.1, by rw [hA.2.1], (hA.2.2.2.2 1 (by unfold low; decide)).1, 2, by decide, ?_⟩
    exact Cc_of_ACc (hA.lay Ly) (ac_compile0 (F := fun y _ => y = -10) (by rw [hA.vw]; exact z2) (fun _ => rfl)) (by rintro r σ' T' ⟨y, rfl, rfl⟩ _ hf; exact ⟨_, rfl, rfl, hb'.fr hf⟩)
  · intro x0 x1
    exact PI.both hb Ly (e := 0) (e' := 0) (by decide) (by decide) (fun F q => u_body k h3 q) (fun F q => ua_body z q)
  · intro x0 x1
    exact PI.both hb Ly (e := 1) (e' := 1) (by decide) (by decide) (fun F q => u_voice k h3 q) (fun F q => ua_voice z q)
  · intro x0 x1
    exact PI.both hb Ly (e := 1) (e' := 1) (by decide) (by decide) (fun F q => u_resume k h3 q) (fun F q => ua_resume z q)
  · intro x0 x1 x2
    exact PI.both hb Ly (e := 1) (e' := 1) (by decide) (by decide) (fun F q => u_inject k h3 q) (fun F q => ua_inject z q)
  · intro x0
    exact PI.both hb Ly (e := 1) (e' := 1) (by decide) (by decide) (fun F q => u_close k h3 q) (fun F q => ua_close z q)
  · exact PI.both hb Ly (e := 1) (e' := 1) (by decide) (by decide) (fun F q => u_sweep k h3 q) (fun F q => ua_sweep z q)
  · exact PI.both hb Ly (e := 0) (e' := 0) (by decide) (by decide) (fun F q => u_answer k h3 q) (fun F q => ua_answer z q)
  · intro x0 x1
    exact PI.both hb Ly (e := 0) (e' := 0) (by decide) (by decide) (fun F q => u_told k h3 q) (fun F q => ua_told z q)
  · intro x0 x1 x2
    exact PI.both hb Ly (e := 0) (e' := 0) (by decide) (by decide) (fun F q => u_local k h3 q) (fun F q => ua_local z q)
  · exact PI.both hb Ly (e := 0) (e' := 0) (by decide) (by decide) (fun F q => u_lines k h3 q) (fun F q => ua_lines z q)
  · intro x0 x1
    exact PI.both hb Ly (e := 0) (e' := 0) (by decide) (by decide) (fun F q => u_line k h3 q) (fun F q => ua_line z q)
  · exact PI.both hb Ly (e := 0) (e' := 0) (by decide) (by decide) (fun F q => u_handings k h3 q) (fun F q => ua_handings z q)
  · intro x0 x1
    exact PI.both hb Ly (e := 0) (e' := 0) (by decide) (by decide) (fun F q => u_handing k h3 q) (fun F q => ua_handing z q)
  · exact PI.both hb Ly (e := 0) (e' := 0) (by decide) (by decide) (fun F q => u_failures k h3 q) (fun F q => ua_failures z q)
  · intro x0 x1
    exact PI.both hb Ly (e := 0) (e' := 0) (by decide) (by decide) (fun F q => u_failure k h3 q) (fun F q => ua_failure_ z q)
  · intro x0
    exact PI.both hb Ly (e := 0) (e' := 0) (by decide) (by decide) (fun F q => u_ring k h3 q) (fun F q => ua_ring z q)
  · intro x0
    exact PI.both hb Ly (e := 0) (e' := 0) (by decide) (by decide) (fun F q => u_count k h3 q) (fun F q => ua_count z q)
  · exact ⟨0, by decide, u_digest k h3 ⟨hb.2.1, rfl, rfl, 0, by decide, C_of_AC Ly (ua_digest (F := fun x _ => x = 0) z rfl) (by rintro r σ' T' ⟨x, rfl, rfl⟩ _ hf; exact ⟨_, rfl, rfl, hb.fr hf⟩)⟩⟩
/-- the law on a script of one call at most -/
theorem law_one {X : Cx} (hL : xL X ≤ 7) : V X 2048 ML_law 0 [(0, vR 1)] [] (mem0 (xL X) (xf X)) LawQ := by
  refine law_start (fun T hT => ?_)
  obtain ⟨f1, f2, f3, f4, f5, f6, f7⟩ := fresh_T hT
  have hb : Bd (xL X) T := ⟨f1.1.k 64 11, f2.2.1, f4, by omega, by omega⟩
  exact law_loop (X := X) (L := xL X) (by omega) (fun k S => Bd (xL X) S ∧ (k = 0 → FreshC S ∧ Lay 92 S ∧ vw 92 S = sg0)) (fun k S h => h.1) (fun k S h => ⟨h.1, fun z => absurd z (Nat.succ_ne_zero _)⟩) (fun k S h hk => by
    have k0 : k = 0 := by omega
    obtain ⟨g1, g2, g3⟩ := h.2 k0
    have hops := fresh_ops (X := X) (L := xL X) g1 g2 g3 h.1
    exact hops.mono (fun S'' hS => ⟨hS, fun z => absurd z (Nat.succ_ne_zero _)⟩)) 2 0 T (by decide) (by omega) ⟨hb, fun _ => ⟨f1, f2, f3⟩⟩
