theorem law_sub (q : Nat) : nI (q + 4) - 4 = nI q := by
  rw [← nI_add, ← litI 4]
  exact Int32.add_sub_cancel _ _
theorem law_neg {L k : Nat} (hL : L < 4) (hk : 4 * k < 2147483648) : nI L - 4 < nI (4 * k) := by
  have h1 : nI L - 4 < 0 := by
    have h : L = 0 ∨ L = 1 ∨ L = 2 ∨ L = 3 := by omega
    rcases h with rfl | rfl | rfl | rfl <;> decide
  exact Int32.lt_of_lt_of_le h1 (nI_pos' hk)
/-! the law's loop -/
/-- a call of the class and then the same of the reference: like answers, and R behind them -/
def PI (X : Cx) (M1 M2 : MI) (as : List AV) (S : Mem) (R : Mem → Prop) : Prop := ∃ e, e + 1 ≤ 2048 ∧ C X e M1 (vR 64 :: as) S (RI fun y S' => isK S' 92 13 ∧ gN S' 1 = gN S 1 ∧ gI S' 1 = gI S 1 ∧ ∃ e', e' + 1 ≤ 2048 ∧ C X e' M2 (vR 92 :: as) S' (RI fun y' S'' => y = y' ∧ R S''))
def PJ (X : Cx) (M1 M2 : MI) (as : List AV) (S : Mem) (R : Mem → Prop) : Prop := ∃ e, e + 1 ≤ 2048 ∧ C X e M1 (vR 64 :: as) S (RJ fun y S' => isK S' 92 13 ∧ gN S' 1 = gN S 1 ∧ gI S' 1 = gI S 1 ∧ ∃ e', e' + 1 ≤ 2048 ∧ C X e' M2 (vR 92 :: as) S' (RJ fun y' S'' => y = y' ∧ R S''))
def PC (X : Cx) (S : Mem) (R : Mem → Prop) : Prop := ∃ e, e + 1 ≤ 2048 ∧ C X e MX11_compile [vR 64] S (RI fun y S' => isK S' 92 13 ∧ gN S' 1 = gN S 1 ∧ gI S' 1 = gI S 1 ∧ ∃ e', e' + 1 ≤ 2048 ∧ Cc X e' [vR 92] S' (RI fun y' S'' => y = y' ∧ R S''))
theorem PI.go {X : Cx} {M1 M2 : MI} {as : List AV} {S : Mem} {R : Mem → Prop} {K K0 : Mem → Prop} (h : PI X M1 M2 as S R) (k : ∀ S'', R S'' → K S'') : ∃ e, e + 1 ≤ 2048 ∧ C X e M1 (vR 64 :: as) S (RI fun y S' => isK S' 92 13 ∧ gN S' 1 = gN S 1 ∧ gI S' 1 = gI S 1 ∧ ∃ e', e' + 1 ≤ 2048 ∧ C X e' M2 (vR 92 :: as) S' (RI fun y' S'' => ((y = y' → K S'') ∧ (¬ y = y' → K0 S'')))) := by
  obtain ⟨e, he, hc⟩ := h
  refine ⟨e, he, hc.mono ?_⟩
  rintro r S' ⟨y, rfl, g1, g2, g3, e', he', hc'⟩
  refine ⟨y, rfl, g1, g2, g3, e', he', hc'.mono ?_⟩
  rintro r2 S2 ⟨y', rfl, e1, hr⟩
  exact ⟨y', rfl, fun _ => k S2 hr, fun n => absurd e1 n⟩
theorem lg_cmp_self (w : Int64) : lg_cmp w w = 0 := by
  unfold lg_cmp
  simp
theorem PJ.go {X : Cx} {M1 M2 : MI} {as : List AV} {S : Mem} {R : Mem → Prop} {K K0 : Mem → Prop} (h : PJ X M1 M2 as S R) (k : ∀ S'', R S'' → K S'') : ∃ e, e + 1 ≤ 2048 ∧ C X e M1 (vR 64 :: as) S (RJ fun y S' => isK S' 92 13 ∧ gN S' 1 = gN S 1 ∧ gI S' 1 = gI S 1 ∧ ∃ e', e' + 1 ≤ 2048 ∧ C X e' M2 (vR 92 :: as) S' (RJ fun y' S'' => (((lg_cmp y y') = 0 → K S'') ∧ (¬ (lg_cmp y y') = 0 → K0 S'')))) := by
  obtain ⟨e, he, hc⟩ := h
  refine ⟨e, he, hc.mono ?_⟩
  rintro r S' ⟨y, rfl, g1, g2, g3, e', he', hc'⟩
  refine ⟨y, rfl, g1, g2, g3, e', he', hc'.mono ?_⟩
  rintro r2 S2 ⟨y', rfl, rfl, hr⟩
  exact ⟨y, rfl, fun _ => k S2 hr, fun n => absurd (lg_cmp_self y) n⟩
theorem PC.go {X : Cx} {S : Mem} {R : Mem → Prop} {K K0 : Mem → Prop} (h : PC X S R) (k : ∀ S'', R S'' → K S'') : ∃ e, e + 1 ≤ 2048 ∧ C X e MX11_compile [vR 64] S (RI fun y S' => isK S' 92 13 ∧ gN S' 1 = gN S 1 ∧ gI S' 1 = gI S 1 ∧ ∃ e', e' + 1 ≤ 2048 ∧ Cc X e' [vR 92] S' (RI fun y' S'' => ((y = y' → K S'') ∧ (¬ y = y' → K0 S'')))) := by
  obtain ⟨e, he, hc⟩ := h
  refine ⟨e, he, hc.mono ?_⟩
  rintro r S' ⟨y, rfl, g1, g2, g3, e', he', r2, S2, hc', y', rfl, e1, hr⟩
  exact ⟨y, rfl, g1, g2, g3, e', he', _, S2, hc', y', rfl, fun _ => k S2 hr, fun n => absurd e1 n⟩
/-- all 21 calls -/
def Ops (X : Cx) (S : Mem) (R : Mem → Prop) : Prop := (∀ (l : Int64) (x : Int32), PI X MX11_feed MX13_feed [vL l, vI x] S R) ∧ PI X MX11_drop MX13_drop [] S R ∧ PC X S R ∧ (∀ x0 x1 : Int32, PI X MX11_body MX13_body [vI x0, vI x1] S R) ∧ (∀ x0 x1 : Int32, PI X MX11_voice MX13_voice [vI x0, vI x1] S R) ∧ (∀ x0 x1 : Int32, PI X MX11_resume MX13_resume [vI x0, vI x1] S R) ∧ (∀ x0 x1 x2 : Int32, PI X MX11_inject MX13_inject [vI x0, vI x1, vI x2] S R) ∧ (∀ x0 : Int32, PI X MX11_close MX13_close [vI x0] S R) ∧ PI X MX11_sweep MX13_sweep [] S R ∧ PI X MX11_answer MX13_answer [] S R ∧ (∀ x0 x1 : Int32, PI X MX11_told MX13_told [vI x0, vI x1] S R) ∧ (∀ x0 x1 x2 : Int32, PI X MX11_local MX13_local [vI x0, vI x1, vI x2] S R) ∧ PI X MX11_lines MX13_lines [] S R ∧ (∀ x0 x1 : Int32, PI X MX11_line MX13_line [vI x0, vI x1] S R) ∧ PI X MX11_handings MX13_handings [] S R ∧ (∀ x0 x1 : Int32, PI X MX11_handing MX13_handing [vI x0, vI x1] S R) ∧ PI X MX11_failures MX13_failures [] S R ∧ (∀ x0 x1 : Int32, PI X MX11_failure MX13_failure_ [vI x0, vI x1] S R) ∧ (∀ x0 : Int32, PI X MX11_ring MX13_ring [vI x0] S R) ∧ (∀ x0 : Int32, PI X MX11_count MX13_count [vI x0] S R) ∧ PJ X MX11_digest MX13_digest [] S R
theorem law_loop {X : Cx} {L : Nat} (hL : L ≤ 2048) (Inv : Nat → Mem → Prop) (hI : ∀ k S, Inv k S → isK S 64 11 ∧ isK S 92 13 ∧ gN S 1 = L ∧ tp S ≤ 600000 ∧ sz S ≤ 7000000) (hnop : ∀ k S, Inv k S → Inv (k + 1) S) (hops : ∀ k S, Inv k S → 4 * k + 4 ≤ L → Ops X S (Inv (k + 1))) : ∀ (m k : Nat) (S : Mem), k ≤ 600 → L < 4 * (m + k) + 4 → Inv k S → V X 2048 ML_law 18 [(0, vR 1), (1, vR 64), (2, vR 92), (3, vI (nI (4 * k)))] [] S LawQ := by
  intro m
  induction m with
  | zero =>
    intro k S hk0 hk hi
    obtain ⟨h1, h2, h3, h4, h5⟩ := hI k S hi
    refine w_L_law_18 64 92 _ ⟨fun _ => ⟨rfl, h4, h5⟩, fun c => absurd ?_ c⟩
    rw [h3]
    by_cases c : 4 ≤ L
    · obtain ⟨q, rfl⟩ : ∃ q, L = q + 4 := ⟨L - 4, by omega⟩
      rw [show nI (q + 4) - 4 = nI q from law_sub q]
      exact nI_lt (by omega) (by omega)
    · exact law_neg (by omega) (by omega)
  | succ m ih =>
    intro k S hk0 hk hi
    obtain ⟨h1, h2, h3, h4, h5⟩ := hI k S hi
    by_cases hd : L < 4 * k + 4
    · refine w_L_law_18 64 92 _ ⟨fun _ => ⟨rfl, h4, h5⟩, fun c => absurd ?_ c⟩
      rw [h3]
      by_cases c : 4 ≤ L
      · obtain ⟨q, rfl⟩ : ∃ q, L = q + 4 := ⟨L - 4, by omega⟩
        rw [show nI (q + 4) - 4 = nI q from law_sub q]
        exact nI_lt (by omega) (by omega)
      · exact law_neg (by omega) (by omega)
    · have v0 : vp_in (nI (4 * k)) (gN S 1) := by rw [h3]; exact vp_in_lt (by omega) (by omega)
      have v1 : vp_in (nI (4 * k) + 1) (gN S 1) := by rw [nI_1, h3]; exact vp_in_lt (by omega) (by omega)
      have v2 : vp_in (nI (4 * k) + 2) (gN S 1) := by rw [litI 2, nI_add, h3]; exact vp_in_lt (by omega) (by omega)
      have v3 : vp_in (nI (4 * k) + 3) (gN S 1) := by rw [litI 3, nI_add, h3]; exact vp_in_lt (by omega) (by omega)
      have go : ∀ T, Inv (k + 1) T → V X 2048 ML_law 686 [(0, vR 1), (1, vR 64), (2, vR 92), (3, vI (nI (4 * k)))] [] T LawQ := fun T hT => w_L_law_686 64 92 _ (by
        rw [litI 4, nI_add, show 4 * k + 4 = 4 * (k + 1) by omega]
        exact ih (k + 1) T (by omega) (by omega) hT)
      obtain ⟨o0, o1, o2, o3, o4, o5, o6, o7, o8, o9, o10, o11, o12, o13, o14, o15, o16, o17, o18, o19, o20⟩ := hops k S hi (by omega)
      refine w_L_law_18 64 92 _ ⟨fun c => absurd c ?_, fun _ => ⟨v0, fun _ => ?_, fun _ => ?_, fun _ => ?_, fun _ => ?_, fun _ => ?_, fun _ => ?_, fun _ => ?_, fun _ => ?_, fun _ => ?_, fun _ => ?_, fun _ => ?_, fun _ => ?_, fun _ => ?_, fun _ => ?_, fun _ => ?_, fun _ => ?_, fun _ => ?_, fun _ => ?_, fun _ => ?_, fun _ => ?_, fun _ => ?_, fun _ => go S (hnop k S hi)⟩⟩
      · rw [h3]
        obtain ⟨q, rfl⟩ : ∃ q, L = q + 4 := ⟨L - 4, by omega⟩
        rw [show nI (q + 4) - 4 = nI q from law_sub q]
        exact nI_nlt (by omega) (by omega)
      · obtain ⟨e, he, hc⟩ := (o0 _ _).go go
        refine ⟨v1, v2, v3, h1, e, he, hc.mono ?_⟩
        rintro r S' ⟨y, rfl, g1, g2, g3, hc2⟩
        rw [← g3] at hc2
        exact ⟨y, rfl, by rw [g2]; exact v1, by rw [g2]; exact v2, by rw [g2]; exact v3, g1, hc2⟩
      · obtain ⟨e, he, hc⟩ := o1.go go
        refine ⟨h1, e, he, hc.mono ?_⟩
        rintro r S' ⟨y, rfl, g1, g2, g3, hc2⟩
        exact ⟨y, rfl, g1, hc2⟩
      · obtain ⟨e, he, hc⟩ := o2.go go
        refine ⟨h1, e, he, hc.mono ?_⟩
        rintro r S' ⟨y, rfl, g1, g2, g3, hc2⟩
        exact ⟨y, rfl, g1, hc2⟩
      · obtain ⟨e, he, hc⟩ := (o3 _ _).go go
        refine ⟨v1, v2, h1, e, he, hc.mono ?_⟩
        rintro r S' ⟨y, rfl, g1, g2, g3, hc2⟩
        rw [← g3] at hc2
        exact ⟨y, rfl, by rw [g2]; exact v1, by rw [g2]; exact v2, g1, hc2⟩
      · obtain ⟨e, he, hc⟩ := (o4 _ _).go go
        refine ⟨v1, v2, h1, e, he, hc.mono ?_⟩
        rintro r S' ⟨y, rfl, g1, g2, g3, hc2⟩
        rw [← g3] at hc2
        exact ⟨y, rfl, by rw [g2]; exact v1, by rw [g2]; exact v2, g1, hc2⟩
      · obtain ⟨e, he, hc⟩ := (o5 _ _).go go
        refine ⟨v1, v2, h1, e, he, hc.mono ?_⟩
        rintro r S' ⟨y, rfl, g1, g2, g3, hc2⟩
        rw [← g3] at hc2
        exact ⟨y, rfl, by rw [g2]; exact v1, by rw [g2]; exact v2, g1, hc2⟩
      · obtain ⟨e, he, hc⟩ := (o6 _ _ _).go go
        refine ⟨v1, v2, v3, h1, e, he, hc.mono ?_⟩
        rintro r S' ⟨y, rfl, g1, g2, g3, hc2⟩
        rw [← g3] at hc2
        exact ⟨y, rfl, by rw [g2]; exact v1, by rw [g2]; exact v2, by rw [g2]; exact v3, g1, hc2⟩
      · obtain ⟨e, he, hc⟩ := (o7 _).go go
        refine ⟨v1, h1, e, he, hc.mono ?_⟩
        rintro r S' ⟨y, rfl, g1, g2, g3, hc2⟩
        rw [← g3] at hc2
        exact ⟨y, rfl, by rw [g2]; exact v1, g1, hc2⟩
      · obtain ⟨e, he, hc⟩ := o8.go go
        refine ⟨h1, e, he, hc.mono ?_⟩
        rintro r S' ⟨y, rfl, g1, g2, g3, hc2⟩
        exact ⟨y, rfl, g1, hc2⟩
      · obtain ⟨e, he, hc⟩ := o9.go go
        refine ⟨h1, e, he, hc.mono ?_⟩
        rintro r S' ⟨y, rfl, g1, g2, g3, hc2⟩
        exact ⟨y, rfl, g1, hc2⟩
      · obtain ⟨e, he, hc⟩ := (o10 _ _).go go
        refine ⟨v1, v2, h1, e, he, hc.mono ?_⟩
        rintro r S' ⟨y, rfl, g1, g2, g3, hc2⟩
        rw [← g3] at hc2
        exact ⟨y, rfl, by rw [g2]; exact v1, by rw [g2]; exact v2, g1, hc2⟩
      · obtain ⟨e, he, hc⟩ := (o11 _ _ _).go go
        refine ⟨v1, v2, v3, h1, e, he, hc.mono ?_⟩
        rintro r S' ⟨y, rfl, g1, g2, g3, hc2⟩
        rw [← g3] at hc2
        exact ⟨y, rfl, by rw [g2]; exact v1, by rw [g2]; exact v2, by rw [g2]; exact v3, g1, hc2⟩
      · obtain ⟨e, he, hc⟩ := o12.go go
        refine ⟨h1, e, he, hc.mono ?_⟩
        rintro r S' ⟨y, rfl, g1, g2, g3, hc2⟩
        exact ⟨y, rfl, g1, hc2⟩
      · obtain ⟨e, he, hc⟩ := (o13 _ _).go go
        refine ⟨v1, v2, h1, e, he, hc.mono ?_⟩
        rintro r S' ⟨y, rfl, g1, g2, g3, hc2⟩
        rw [← g3] at hc2
        exact ⟨y, rfl, by rw [g2]; exact v1, by rw [g2]; exact v2, g1, hc2⟩
      · obtain ⟨e, he, hc⟩ := o14.go go
        refine ⟨h1, e, he, hc.mono ?_⟩
        rintro r S' ⟨y, rfl, g1, g2, g3, hc2⟩
        exact ⟨y, rfl, g1, hc2⟩
      · obtain ⟨e, he, hc⟩ := (o15 _ _).go go
        refine ⟨v1, v2, h1, e, he, hc.mono ?_⟩
        rintro r S' ⟨y, rfl, g1, g2, g3, hc2⟩
        rw [← g3] at hc2
        exact ⟨y, rfl, by rw [g2]; exact v1, by rw [g2]; exact v2, g1, hc2⟩
      · obtain ⟨e, he, hc⟩ := o16.go go
        refine ⟨h1, e, he, hc.mono ?_⟩
        rintro r S' ⟨y, rfl, g1, g2, g3, hc2⟩
        exact ⟨y, rfl, g1, hc2⟩
      · obtain ⟨e, he, hc⟩ := (o17 _ _).go go
        refine ⟨v1, v2, h1, e, he, hc.mono ?_⟩
        rintro r S' ⟨y, rfl, g1, g2, g3, hc2⟩
        rw [← g3] at hc2
        exact ⟨y, rfl, by rw [g2]; exact v1, by rw [g2]; exact v2, g1, hc2⟩
      · obtain ⟨e, he, hc⟩ := (o18 _).go go
        refine ⟨v1, h1, e, he, hc.mono ?_⟩
        rintro r S' ⟨y, rfl, g1, g2, g3, hc2⟩
        rw [← g3] at hc2
        exact ⟨y, rfl, by rw [g2]; exact v1, g1, hc2⟩
      · obtain ⟨e, he, hc⟩ := (o19 _).go go
        refine ⟨v1, h1, e, he, hc.mono ?_⟩
        rintro r S' ⟨y, rfl, g1, g2, g3, hc2⟩
        rw [← g3] at hc2
        exact ⟨y, rfl, by rw [g2]; exact v1, g1, hc2⟩
      · obtain ⟨e, he, hc⟩ := o20.go go
        refine ⟨h1, e, he, hc.mono ?_⟩
        rintro r S' ⟨y, rfl, g1, g2, g3, hc2⟩
        exact ⟨y, rfl, g1, hc2⟩

