/-! compile of both, up to where the class's stage is set back -/
section COMP
variable {X : Cx} {κ κ1 κ2 κ' : Km} {σ σ1 σ2 σ' : Rm}
/-- the reference as begins leaves it -/
def BgR (σ : Rm) : Prop := sI σ 2 = 0 ∧ (sI σ 47 = 0 ∧ sI σ 48 = 0 ∧ (∀ p, p < 12 → aI σ 59 p = 0)) ∧ (sI σ 75 = 0 ∧ sI σ 76 = 0 ∧ sI σ 77 = 0 ∧ sI σ 79 = 0 ∧ sI σ 80 = 0 ∧ sI σ 83 = 0 ∧ sI σ 87 = 0 ∧ sI σ 88 = 0 ∧ sI σ 97 = -9)
theorem BgR.fr (h : BgR σ) (e : ∀ k, k = 2 ∨ k = 47 ∨ k = 48 ∨ k = 59 ∨ (75 ≤ k ∧ k ≤ 97) → aI σ' k = aI σ k) : BgR σ' := by
  obtain ⟨h1, ⟨h2, h3, h4⟩, h5, h6, h7, h8, h9, h10, h11, h12, h13⟩ := h
  have s : ∀ k, k = 2 ∨ k = 47 ∨ k = 48 ∨ k = 59 ∨ (75 ≤ k ∧ k ≤ 97) → sI σ' k = sI σ k := fun k hk => congrFun (e k hk) 0
  unfold BgR
  rw [s 2 (by omega), s 47 (by omega), s 48 (by omega), e 59 (by omega), s 75 (by omega), s 76 (by omega), s 77 (by omega), s 79 (by omega), s 80 (by omega), s 83 (by omega), s 87 (by omega), s 88 (by omega), s 97 (by omega)]
  exact ⟨h1, ⟨h2, h3, h4⟩, h5, h6, h7, h8, h9, h10, h11, h12, h13⟩
theorem bgT_ne {k : Nat} (hk : k ≠ 59) : ∀ n, aI (bgT σ n) k = aI σ k := by
  intro n
  induction n with
  | zero => rfl
  | succ n ih => show aI (wI (bgT σ n) 59 n 0) k = _; rw [aI_ne hk, ih]
theorem bgT_l : ∀ n, aL (bgT σ n) = aL σ := by
  intro n
  induction n with
  | zero => rfl
  | succ n ih => exact ih
theorem bgT_59 : ∀ n p, p < n → aI (bgT σ n) 59 p = 0 := by
  intro n
  induction n with
  | zero => intro p hp; omega
  | succ n ih =>
    intro p hp
    show aI (wI (bgT σ n) 59 n 0) 59 p = 0
    by_cases c : p = n
    · rw [c, aI_eq]
    · rw [aI_ni c]; exact ih p (by omega)
/-- the reference where it begins to cut -/
def s15 (σ : Rm) : Rm := wS (wS (wS (wS (wS (wS (wS (wS (bgn (wS (wS σ 2 0) 46 0)) 10 0) 12 0) 17 0) 18 0) 29 0) 34 0) 41 0) 37 (-9)
theorem bgn_a {k : Nat} (h : k ≠ 47 ∧ k ≠ 48 ∧ k ≠ 59 ∧ k ≠ 75 ∧ k ≠ 76 ∧ k ≠ 77 ∧ k ≠ 79 ∧ k ≠ 80 ∧ k ≠ 83 ∧ k ≠ 87 ∧ k ≠ 88 ∧ k ≠ 97) : aI (bgn σ) k = aI σ k := by
  obtain ⟨h1, h2, h3, h4, h5, h6, h7, h8, h9, h10, h11, h12⟩ := h
  unfold bgn
  rw [aI_ne h12, aI_ne h11, aI_ne h10, aI_ne h9, aI_ne h8, aI_ne h7, aI_ne h6, aI_ne h5, aI_ne h4, bgT_ne h3, aI_ne h2, aI_ne h1]
theorem bgn_l : aL (bgn σ) = aL σ := by
  show aL (bgT (wS (wS σ 47 0) 48 0) 12) = _
  rw [bgT_l]
  rfl
theorem s15_a {k : Nat} (hk : (k ≤ 9 ∧ k ≠ 2) ∨ k = 11 ∨ (13 ≤ k ∧ k ≤ 16) ∨ (19 ≤ k ∧ k ≤ 28) ∨ (30 ≤ k ∧ k ≤ 33) ∨ k = 35 ∨ k = 36 ∨ (38 ≤ k ∧ k ≤ 40) ∨ (42 ≤ k ∧ k ≤ 45)) : aI (s15 σ) k = aI σ k := by
  unfold s15
  rw [aI_ne (by omega), aI_ne (by omega), aI_ne (by omega), aI_ne (by omega), aI_ne (by omega), aI_ne (by omega), aI_ne (by omega), aI_ne (by omega), bgn_a (by omega), aI_ne (by omega), aI_ne (by omega)]
theorem s15_0 : sI (s15 σ) 10 = 0 ∧ sI (s15 σ) 12 = 0 ∧ sI (s15 σ) 17 = 0 ∧ sI (s15 σ) 18 = 0 ∧ sI (s15 σ) 29 = 0 ∧ sI (s15 σ) 34 = 0 ∧ sI (s15 σ) 41 = 0 ∧ sI (s15 σ) 37 = -9 ∧ sI (s15 σ) 46 = 0 := by
  have e46 : sI (s15 σ) 46 = 0 := by
    show aI (s15 σ) 46 0 = 0
    unfold s15
    rw [aI_ne (by decide), aI_ne (by decide), aI_ne (by decide), aI_ne (by decide), aI_ne (by decide), aI_ne (by decide), aI_ne (by decide), aI_ne (by decide), bgn_a (by decide), aI_eq]
  exact ⟨rfl, rfl, rfl, rfl, rfl, rfl, rfl, rfl, e46⟩
theorem s15_bg : BgR (s15 σ) := by
  have c : ∀ k, k = 2 ∨ k = 47 ∨ k = 48 ∨ k = 59 ∨ (75 ≤ k ∧ k ≤ 97) → aI (s15 σ) k = aI (bgn (wS (wS σ 2 0) 46 0)) k := fun k hk => by
    unfold s15
    rw [aI_ne (by omega), aI_ne (by omega), aI_ne (by omega), aI_ne (by omega), aI_ne (by omega), aI_ne (by omega), aI_ne (by omega), aI_ne (by omega)]
  refine BgR.fr (σ := bgn (wS (wS σ 2 0) 46 0)) ?_ c
  have b2 : sI (bgn (wS (wS σ 2 0) 46 0)) 2 = 0 := by
    show aI (bgn (wS (wS σ 2 0) 46 0)) 2 0 = 0
    rw [bgn_a (by decide), aI_ne (by decide), aI_eq]
  have up : ∀ k, k ≠ 75 ∧ k ≠ 76 ∧ k ≠ 77 ∧ k ≠ 79 ∧ k ≠ 80 ∧ k ≠ 83 ∧ k ≠ 87 ∧ k ≠ 88 ∧ k ≠ 97 → aI (bgn (wS (wS σ 2 0) 46 0)) k = aI (bgT (wS (wS (wS (wS σ 2 0) 46 0) 47 0) 48 0) 12) k := fun k hk => by
    obtain ⟨h4, h5, h6, h7, h8, h9, h10, h11, h12⟩ := hk
    unfold bgn
    rw [aI_ne h12, aI_ne h11, aI_ne h10, aI_ne h9, aI_ne h8, aI_ne h7, aI_ne h6, aI_ne h5, aI_ne h4]
  refine ⟨b2, ⟨?_, ?_, fun p hp => ?_⟩, rfl, rfl, rfl, rfl, rfl, rfl, rfl, rfl, rfl⟩
  · show aI (bgn (wS (wS σ 2 0) 46 0)) 47 0 = 0
    rw [up 47 (by decide), bgT_ne (by decide), aI_ne (by decide), aI_eq]
  · show aI (bgn (wS (wS σ 2 0) 46 0)) 48 0 = 0
    rw [up 48 (by decide), bgT_ne (by decide), aI_eq]
  · rw [up 59 (by decide)]
    exact bgT_59 12 p hp
/-- the reference copies its tape -/
def cpS (f : Nat → Int32) (σ : Rm) : Nat → Rm
  | 0 => σ
  | n + 1 => wI (cpS f σ n) 3 n (f n)
theorem cpS_ne {f : Nat → Int32} {k : Nat} (hk : k ≠ 3) : ∀ n, aI (cpS f σ n) k = aI σ k := by
  intro n
  induction n with
  | zero => rfl
  | succ n ih => show aI (wI (cpS f σ n) 3 n (f n)) k = _; rw [aI_ne hk, ih]
theorem cpS_l {f : Nat → Int32} : ∀ n, aL (cpS f σ n) = aL σ := by
  intro n
  induction n with
  | zero => rfl
  | succ n ih => exact ih
theorem cpS_3 {f : Nat → Int32} : ∀ n i, i < n → aI (cpS f σ n) 3 i = f i := by
  intro n
  induction n with
  | zero => intro i hi; omega
  | succ n ih =>
    intro i hi
    show aI (wI (cpS f σ n) 3 n (f n)) 3 i = _
    by_cases c : i = n
    · rw [c, aI_eq]
    · rw [aI_ni c]; exact ih i (by omega)
theorem cp_loop {n d : Nat} {Q : Res → Rm → Prop} {f : Nat → Int32} (hn : n ≤ 3000) (hf : ∀ i, i8 (f i)) (h2 : sI σ 2 = nI n) (h1 : ∀ i, i < n → aI σ 1 i = f i) (q : A X 92 d MX13_compile 10 [(0, vR 92), (1, vI (nI n))] [] (cpS f σ n) Q) : ∀ (r k : Nat), k + r = n → A X 92 d MX13_compile 10 [(0, vR 92), (1, vI (nI k))] [] (cpS f σ k) Q := by
  intro r
  induction r with
  | zero =>
    intro k hk
    have e : k = n := by omega
    subst e
    exact q
  | succ r ih =>
    intro k hk
    refine a_compile_10 _ ?_
    rw [show sI (cpS f σ k) 2 = nI n from (congrFun (cpS_ne (by decide) k) 0).trans h2, le_nI (by omega) (by omega), vpn (by omega), cl_nI (by omega), cpS_ne (by decide), h1 k (by omega), nI_1]
    refine ⟨fun z => absurd z (by omega), fun _ => ⟨by omega, by omega, ?_⟩⟩
    rintro s26 rfl
    rw [show (f k).toInt8.toInt32 = f k from hf k]
    exact ih (k + 1) (by omega)
/-- handles that compile changes, but for the stage -/
def KR2 (κ κ' : Km) : Prop := (∀ h, ¬ (hRd h ∨ h = 74 ∨ h = 75 ∨ h = 76) → kI κ' h = kI κ h ∧ kL κ' h = kL κ h ∧ kW κ' h = kW κ h) ∧ kV κ' = kV κ ∧ RG κ κ' ∧ kB κ ≤ kB κ'
/-- widths of the rows of tokens -/
def TkW (κ : Km) : Prop := ∃ w, 64 ≤ w ∧ w ≤ 6100 ∧ kW κ 74 = w ∧ kW κ 75 = w ∧ kW κ 76 = w
theorem KR.two (h : KR κ κ') : KR2 κ κ' := ⟨fun g hg => h.1 g (fun z => hg (Or.inl z)), h.2⟩
theorem KR2.trans (a : KR2 κ κ1) (b : KR2 κ1 κ2) : KR2 κ κ2 := ⟨fun h n => ⟨(b.1 h n).1.trans (a.1 h n).1, (b.1 h n).2.1.trans (a.1 h n).2.1, (b.1 h n).2.2.trans (a.1 h n).2.2⟩, b.2.1.trans a.2.1, a.2.2.1.trans b.2.2.1, Nat.le_trans a.2.2.2 b.2.2.2⟩
theorem KF.kr2 {H : Nat → Prop} (h : KF H κ κ') (hH : ∀ g, H g → hRd g ∨ g = 74 ∨ g = 75 ∨ g = 76) (r : RG κ κ') : KR2 κ κ' := ⟨fun g hg => h.1 g (fun z => hg (hH g z)), h.2.2.2, r, by rw [h.2.2.1]; exact Nat.le_refl _⟩
theorem LkF.kr2 (h : LkF κ κ') : KR2 κ κ' := by
  have w := h.w
  refine ⟨fun g hg => ⟨h.1 g (fun z => hg (by unfold hRd; omega)) (fun z => hg (by unfold hRd; omega)), by rw [w.1], by rw [w.2.1]⟩, w.2.2.2, ?_, by rw [w.2.2.1]; exact Nat.le_refl _⟩
  refine RG.same w.2.1 w.2.2.2 w.2.2.1 ?_ ?_
  · show κ'.2.2.2.2.2.2.1 = κ.2.2.2.2.2.2.1; rw [h.2.2]
  · show κ'.2.2.2.2.2.2.2 = κ.2.2.2.2.2.2.2; rw [h.2.2]
theorem TkW.fr (h : TkW κ) (w : kW κ' 74 = kW κ 74 ∧ kW κ' 75 = kW κ 75 ∧ kW κ' 76 = kW κ 76) : TkW κ' := by
  obtain ⟨x, h1, h2, h3, h4, h5⟩ := h
  exact ⟨x, h1, h2, w.1.trans h3, w.2.1.trans h4, w.2.2.trans h5⟩
theorem NN.fr (h : NN σ) (e : ∀ k, k = 35 ∨ k = 36 ∨ k = 44 → aI σ' k = aI σ k) : NN σ' := by
  obtain ⟨h1, h2, h3⟩ := h
  have s : ∀ k, k = 35 ∨ k = 36 ∨ k = 44 → sI σ' k = sI σ k := fun k hk => congrFun (e k hk) 0
  unfold NN rK rE rU
  rw [s 35 (by omega), s 36 (by omega), s 44 (by omega)]
  exact ⟨h1, h2, h3⟩
/-- the reference's asks, and its end -/
theorem asks_end {N b P : Nat} {κ0 : Km} {σ0 : Rm} {D : Nat} (hD : 1 ≤ D) (li : LI N b P κ0 σ0 κ σ) : ∃ σ', AsD σ σ' b (rA σ) ∧ Wr σ' (fun z => z = fN (sI σ 37) ∨ AsW σ b (rA σ) z) ∧ ∀ Q' : Res → Rm → Prop, (sI σ' 37 < 0 → Q' (.inl (some (vI (nI b)))) (wS σ' 46 1)) → (¬ sI σ' 37 < 0 → Q' (.inl (some (vI (-10 - sI σ' 37)))) (wS σ' 18 0)) → A X 92 D MX13_compile 139 [(0, vR 92), (1, vI 0)] [] σ Q' := by
  obtain ⟨⟨a1, a2⟩, ⟨a3, a4⟩, a5, a6, a7, -⟩ := li.asks
  have w0 := li.1.2.2.2.2.2.2.2.2.1.2.1
  have h := asks_all (X := X) (e := D) (Q := fun r s => ∃ σ', AsD σ σ' b (rA σ) ∧ Wr σ' (fun z => z = fN (sI σ 37) ∨ AsW σ b (rA σ) z) ∧ ((sI σ' 37 < 0 ∧ r = .inl (some (vI (nI b))) ∧ s = wS σ' 46 1) ∨ (¬ sI σ' 37 < 0 ∧ r = .inl (some (vI (-10 - sI σ' 37))) ∧ s = wS σ' 18 0))) hD a1 a2 a3 a4 a5 a6 a7 (fun σ' ad wr => a_compile_139 _ ?_) (rA σ) 0 σ (by omega) ⟨fun _ _ _ => rfl, fun _ => rfl, fun _ _ => rfl, fun u _ _ _ z => absurd z (Nat.not_lt_zero _)⟩ ⟨w0, (Lst.one (fN_le _ w0)).cong (fun p _ => ⟨Or.inl, fun g => g.elim id (fun ⟨u, _, _, _, z, _⟩ => absurd z (Nat.not_lt_zero _))⟩)⟩
  · obtain ⟨r, s, ae, σ', ad, wr, c⟩ := h
    refine ⟨σ', ad, wr, fun Q' q1 q0 => ⟨r, s, ae, ?_⟩⟩
    rcases c with ⟨c, rfl, rfl⟩ | ⟨c, rfl, rfl⟩
    · exact q1 c
    · exact q0 c
  · have s41 : sI σ' 41 = nI (rA σ) := (congrFun (ad.1 41 (by decide) (by decide)) 0).trans a1
    have s18 : sI σ' 18 = nI b := (congrFun (ad.1 18 (by decide) (by decide)) 0).trans a3
    rw [s41]
    refine ⟨fun _ => ⟨fun c => ?_, fun c => ?_⟩, fun z => absurd (Int32.le_refl _) z⟩
    · rintro s3 rfl
      exact ⟨σ', ad, wr, Or.inl ⟨c, by rw [sI_ne (by decide), s18], rfl⟩⟩
    · rintro s4 rfl
      exact ⟨σ', ad, wr, Or.inr ⟨c, by rw [sI_ne (by decide)], rfl⟩⟩
theorem comp_core {n d : Nat} {Q : Res → Km → Prop} (hd : 800 ≤ d) (tp : Tp κ n) (t2 : sI σ 2 = nI n) (tb : ∀ i, i < n → aI σ 1 i = kI κ 66 i) (hw : TkW κ) (hy : Ky κ) (cw : ClW κ) (nn : NN σ)
    (q1 : ∀ b κ' σ', Sta b κ' σ' → kI κ' 67 2 = nI b → KR2 κ κ' → ClW κ' → TkW κ' → BgR σ' → NN σ' → (∀ F' : Int32 → Rm → Prop, F' (nI b) (wS σ' 46 1) → ACc X 92 800 [vR 92] σ (aRI F')) → K X d MX11_compile 20 [(0, vR 64), (1, vI (-9))] [] κ' Q)
    (q0 : ∀ x κ' σ', x < 4000 → KR2 κ κ' → ClW κ' → TkW κ' → BgR σ' → NN σ' → sI σ' 46 = 0 → (∀ F' : Int32 → Rm → Prop, F' (-10 - nI x) (wS σ' 18 0) → ACc X 92 800 [vR 92] σ (aRI F')) → K X d MX11_compile 20 [(0, vR 64), (1, vI (nI x))] [] κ' Q) : K X d MX11_compile 0 [(0, vR 64)] [] κ Q := by
  have hn := tp.2.2.1
  -- the reference up to its cutting
  have cgo : ∀ Q' : Res → Rm → Prop, A X 92 800 MX13_compile 10 [(0, vR 92), (1, vI (nI n))] [] (cpS (kI κ 66) (wS σ 4 (nI n)) n) Q' → ACc X 92 800 [vR 92] σ Q' := fun Q' hq => ACc_of_A (Nat.le_of_ble_eq_true rfl) (a_compile_0 (fun s1 e1 => by
      rw [e1, t2]
      exact cp_loop (σ := wS σ 4 (nI n)) hn tp.2.2.2 (by rw [sI_ne (by decide)]; exact t2) (fun i hi => by rw [aI_ne (by decide)]; exact tb i hi) hq n 0 (by omega)))
  generalize hσc : cpS (kI κ 66) (wS σ 4 (nI n)) n = σc at cgo
  have c2 : sI σc 2 = nI n := by
    rw [← hσc]
    show aI (cpS (kI κ 66) (wS σ 4 (nI n)) n) 2 0 = _
    rw [cpS_ne (by decide), aI_ne (by decide)]
    exact t2
  have c3 : ∀ k, k ≠ 3 → k ≠ 4 → aI σc k = aI σ k := fun k h1 h2 => by rw [← hσc, cpS_ne h1, aI_ne h2]
  have c4 : sI σc 4 = nI n := by
    rw [← hσc]
    show aI (cpS (kI κ 66) (wS σ 4 (nI n)) n) 4 0 = _
    rw [cpS_ne (by decide), aI_eq]
  have c5 : ∀ i, i < n → aI σc 3 i = kI κ 66 i := fun i hi => by rw [← hσc]; exact cpS_3 n i hi
  have sgo : ∀ Q' : Res → Rm → Prop, (∃ e16 : Nat, e16 + 1 ≤ 800 ∧ AC X 92 e16 MX13_cut [vR 92] (s15 σc) (aRV fun s19 => ∃ e20 : Nat, e20 + 1 ≤ 800 ∧ AC X 92 e20 MX13_readBody [vR 92] s19 (aTVC X 92 800 MX13_compile [(0, vR 92), (1, vI (nI n))] Q' fun s23 => A X 92 800 MX13_compile 99 [(0, vR 92), (1, vI (nI n))] [] s23 Q'))) → ACc X 92 800 [vR 92] σ Q' := fun Q' hq => cgo Q' (a_compile_10 _ (by
    rw [c2]
    refine ⟨fun _ => ?_, fun z => absurd (Int32.le_refl _) z⟩
    rintro s2 rfl s3 rfl
    refine ⟨0, by omega, ac_begins ?_⟩
    rintro s8 rfl s9 rfl s10 rfl s11 rfl s12 rfl s13 rfl s14 rfl s15' rfl
    exact hq))
  have a15 := fun k hk => s15_a (σ := σc) (k := k) hk
  obtain ⟨z10, z12, z17, z18, z29, z34, z41, z37, z46⟩ := s15_0 (σ := σc)
  have bg15 := s15_bg (σ := σc)
  have s3544 : ∀ k, k = 35 ∨ k = 36 ∨ k = 44 → aI (s15 σc) k = aI σ k := fun k hk => (a15 k (by omega)).trans (c3 k (by omega) (by omega))
  have x4 : sI (s15 σc) 4 = nI n := (congrFun (a15 4 (by omega)) 0).trans c4
  have x3 : ∀ i, i < n → aI (s15 σc) 3 i = kI κ 66 i := fun i hi => by rw [a15 3 (by omega)]; exact c5 i hi
  generalize s15 σc = σ1 at *
  -- the class reads
  refine k_11_compile_0 ⟨799, by omega, KC_of_K rfl (Nat.le_of_ble_eq_true rfl) rfl (k_5_read_0 ⟨1, by omega, KC_of_K rfl (Nat.le_of_ble_eq_true rfl) rfl (k_7_clear_0 ⟨0, by omega, KC_of_K rfl (Nat.le_of_ble_eq_true rfl) rfl (k_1_clear_0 ?_)⟩)⟩)⟩
  rintro κ1 rfl
  refine ⟨rfl, ?_⟩
  rintro κ2 rfl κ3 rfl
  refine ⟨rfl, ?_⟩
  have kf3 : KF (fun h => h = 67 ∨ h = 68) κ (cI (cI (cI κ 68 2 0) 67 2 0) 67 3 (-9)) := ((KF.cI (Or.inr rfl)).trans (KF.cI (Or.inl rfl))).trans (KF.cI (Or.inl rfl))
  have rg3 : RG κ (cI (cI (cI κ 68 2 0) 67 2 0) 67 3 (-9)) := (RG.cI.trans RG.cI).trans RG.cI
  have v3 : kI (cI (cI (cI κ 68 2 0) 67 2 0) 67 3 (-9)) 68 2 = 0 ∧ kI (cI (cI (cI κ 68 2 0) 67 2 0) 67 3 (-9)) 67 2 = 0 ∧ kI (cI (cI (cI κ 68 2 0) 67 2 0) 67 3 (-9)) 67 3 = -9 := by
    simp (disch := decide) only [kI_eq, kI_ne, kI_nk, kL_eq, kL_ne, kL_nk, aI_eq, aI_ne, aI_ni, sI_eq, sI_ne, aL_eq, aL_ne, aL_ni, aL_w, aI_w, sI_w, kI_w, kL_w, kW_i, kW_l, kB_i, kB_l, kV_i, kV_l, kC_i, kC_l, kI_c, kL_c, kW_c, kB_c, kC_c, and_self]
  have w3 : kW (cI (cI (cI κ 68 2 0) 67 2 0) 67 3 (-9)) = kW κ := rfl
  generalize cI (cI (cI κ 68 2 0) 67 2 0) 67 3 (-9) = κ3 at *
  have c3' : ∀ h, h ≠ 67 → h ≠ 68 → kI κ3 h = kI κ h ∧ kL κ3 h = kL κ h := fun h h1 h2 => ⟨(kf3.1 h (by omega)).1, (kf3.1 h (by omega)).2.1⟩
  have tp3 : Tp κ3 n := by
    unfold Tp at *
    rw [(c3' 65 (by decide) (by decide)).1, (c3' 66 (by decide) (by decide)).1, w3]
    exact tp
  refine ⟨6, by omega, (read_both (X := X) (G := fun κ' σ' => ∃ N, TkA κ' σ' N ∧ Cur κ' 0 ∧ KF hT κ3 κ' ∧ RG κ3 κ' ∧ AF hR σ1 σ') tp3 (by unfold TkW at hw; rw [w3]; exact hw) (by unfold Ky at *; rw [w3, (c3' 73 (by decide) (by decide)).2]; exact hy) ⟨x4, fun i hi => by rw [x3 i hi, (c3' 66 (by decide) (by decide)).1]⟩ (fun κ' σ' N h1 h2 h3 h4 h5 => ⟨N, h1, h2, h3, h4, h5⟩)).mono ?_⟩
  rintro r κ9 ⟨rfl, r9, σ9, cr9, rfl, N, tk, cur, kf9, rg9, af9⟩
  refine ⟨rfl, ?_⟩
  rintro κ11 rfl κ12 rfl
  have kf12 : KF (fun h => h = 77) κ9 (cI (cI κ9 77 4 0) 77 5 (-9)) := (KF.cI (H := fun h => h = 77) rfl).trans (KF.cI (H := fun h => h = 77) rfl)
  have rg12 : RG κ9 (cI (cI κ9 77 4 0) 77 5 (-9)) := RG.cI.trans RG.cI
  have v12 : kI (cI (cI κ9 77 4 0) 77 5 (-9)) 77 4 = 0 ∧ kI (cI (cI κ9 77 4 0) 77 5 (-9)) 77 5 = -9 := by
    simp (disch := decide) only [kI_eq, kI_ne, kI_nk, kL_eq, kL_ne, kL_nk, aI_eq, aI_ne, aI_ni, sI_eq, sI_ne, aL_eq, aL_ne, aL_ni, aL_w, aI_w, sI_w, kI_w, kL_w, kW_i, kW_l, kB_i, kB_l, kV_i, kV_l, kC_i, kC_l, kI_c, kL_c, kW_c, kB_c, kC_c, and_self]
  generalize cI (cI κ9 77 4 0) 77 5 (-9) = κb at *
  have cb : ∀ h, h ≠ 77 → kI κb h = kI κ9 h ∧ kL κb h = kL κ9 h ∧ kW κb h = kW κ9 h := fun h hh => kf12.1 h hh
  have ct : ∀ h, h ≠ 72 → h ≠ 74 → h ≠ 75 → h ≠ 76 → h ≠ 77 → kI κb h = kI κ3 h ∧ kL κb h = kL κ3 h ∧ kW κb h = kW κ3 h := fun h h1 h2 h3 h4 h5 => by
    have x := cb h h5
    have y := kf9.1 h (by unfold hT; omega)
    exact ⟨x.1.trans y.1, x.2.1.trans y.2.1, x.2.2.trans y.2.2⟩
  have kr0 : KR2 κ κb := ((kf3.kr2 (fun g hg => Or.inl (by unfold hRd; omega)) rg3).trans (kf9.kr2 (fun g hg => by unfold hT at hg; unfold hRd; omega) rg9)).trans (kf12.kr2 (fun g hg => Or.inl (by unfold hRd; omega)) rg12)
  have tkb : TkA κb σ9 N := tk.fr (cb 74 (by decide)).1 (cb 75 (by decide)).1 (cb 76 (by decide)).2.1 ⟨(cb 74 (by decide)).2.2, (cb 75 (by decide)).2.2, (cb 76 (by decide)).2.2⟩ (by rw [(cb 72 (by decide)).1]) rfl rfl rfl rfl rfl
  have e72 := (cb 72 (by decide)).1
  have a9 : ∀ k, ¬ hR k → aI σ9 k = aI σ1 k := fun k hk => (af9 k hk).1
  have s9 : ∀ k, ¬ hR k → sI σ9 k = sI σ1 k := fun k hk => congrFun (a9 k hk) 0
  have bg9 : BgR σ9 := bg15.fr (fun k hk => a9 k (by unfold hR; omega))
  have nn9 : NN σ9 := nn.fr (fun k hk => (a9 k (by unfold hR; omega)).trans (s3544 k hk))
  have p0 : pC κb = 0 := by unfold pC; rw [e72, cur.1, cl_nI (by omega)]
  have o0 : oC κb = 0 := by unfold oC; rw [v12.1]; rfl
  have i0 : iC κb = 0 := by unfold iC; rw [(ct 68 (by decide) (by decide) (by decide) (by decide) (by decide)).1, v3.1]; rfl
  have j0 : rJ σ9 = 0 := by unfold rJ; rw [s9 17 (by unfold hR; decide), z17]; rfl
  have t0 : rT σ9 = 0 := by unfold rT; rw [s9 29 (by unfold hR; decide), z29]; rfl
  have k0 : rC σ9 = 0 := by unfold rC; rw [s9 34 (by unfold hR; decide), z34]; rfl
  have r0 : rA σ9 = 0 := by unfold rA; rw [s9 41 (by unfold hR; decide), z41]; rfl
  have hB : kB κb = kB κ := by rw [kf12.2.2.1, kf9.2.2.1, kf3.2.2.1]
  have cwb : ClW κb := by
    unfold ClW at *
    rw [hB, (ct 69 (by decide) (by decide) (by decide) (by decide) (by decide)).2.2, (ct 70 (by decide) (by decide) (by decide) (by decide) (by decide)).2.2, w3]
    refine ⟨cw.1, cw.2.1, fun i hi => ?_⟩
    rw [(ct (1001 + 8 * i) (by omega) (by omega) (by omega) (by omega) (by omega)).2.2, w3]
    exact cw.2.2 i hi
  have tkw : ∀ κ', KR κb κ' → TkW κ' := fun κ' kr => by
    obtain ⟨m, m1, m2, w, y1, y2, y3, y4, y5, y6, y7⟩ := tkb.2.2.2.2.2
    exact ⟨w, y3, y4, (kr.1 74 (by unfold hRd; decide)).2.2.trans y5, (kr.1 75 (by unfold hRd; decide)).2.2.trans y6, (kr.1 76 (by unfold hRd; decide)).2.2.trans y7⟩
  have bt : BT κb σ9 N 0 5000 := by
    refine ⟨⟨tkb, ?_⟩, o0, by omega, by omega, by rw [hB]; exact cw.2.1, ?_, ?_, fun i hi => ?_, ⟨Or.inl ?_, Or.inl ?_, ?_⟩, fun i hi => absurd hi (Nat.not_lt_zero _)⟩
    · obtain ⟨w, y1, y2, y3, y4⟩ := cwb.1
      unfold PB
      rw [p0, o0, i0, j0, t0, k0, r0, e72]
      refine ⟨cur.1, ?_, ?_, ?_, Nat.zero_le _, v12.1, ?_, by omega, ?_, ⟨w, y1, y2, by omega, y3, y4⟩, ?_, ?_, ?_, nn9.2.2, ?_, nn9.1, nn9.2.1⟩
      · rw [(cb 74 (by decide)).1]; exact cur.2.1
      · rw [(cb 75 (by decide)).1]; exact cur.2.2
      · rw [s9 10 (by unfold hR; decide)]; exact z10
      · rw [s9 12 (by unfold hR; decide)]; exact z12
      · rw [(ct 68 (by decide) (by decide) (by decide) (by decide) (by decide)).1]; exact v3.1
      · rw [s9 17 (by unfold hR; decide)]; exact z17
      · rw [s9 29 (by unfold hR; decide)]; exact z29
      · rw [s9 34 (by unfold hR; decide)]; exact z34
      · rw [s9 41 (by unfold hR; decide)]; exact z41
    · rw [(ct 67 (by decide) (by decide) (by decide) (by decide) (by decide)).1]; exact v3.2.1
    · rw [s9 18 (by unfold hR; decide)]; exact z18
    · exact cwb.2.2 i hi
    · rw [(ct 67 (by decide) (by decide) (by decide) (by decide) (by decide)).1]; exact v3.2.2
    · rw [s9 37 (by unfold hR; decide)]; exact z37
    · rw [(ct 67 (by decide) (by decide) (by decide) (by decide) (by decide)).1, v3.2.2, s9 37 (by unfold hR; decide), z37, fN_neg]
      omega
  have li0 : LI N 0 5000 κb σ9 κb σ9 := by
    refine ⟨bt, by omega, fun i hi => absurd hi (Nat.not_lt_zero _), fun c hc => absurd hc (by omega), Lst.nil.cong (fun p _ => ⟨fun z => z.elim, fun ⟨i, z, _⟩ => absurd z (Nat.not_lt_zero _)⟩), KR.refl, AF.refl, v12.2, fun i j _ z => absurd z (Nat.not_lt_zero _), ⟨fun u hu => absurd hu (by omega), fun u w _ hw => absurd hw (by omega)⟩, fun i z => absurd z (Nat.not_lt_zero _)⟩
  have go0 : ∀ Q', RefGo X 800 (nI n) 0 σ9 Q' → ACc X 92 800 [vR 92] σ Q' := fun Q' rg => sgo Q' ⟨6, by omega, ⟨_, σ9, cr9, rfl, by
    rcases rg with ⟨-, h⟩ | ⟨z, -⟩
    · exact h
    · exact absurd rfl z⟩⟩
  refine read_loop (X := X) (D := 800) (x1 := nI n) (Gl := fun Q' => ACc X 92 800 [vR 92] σ Q') (by omega) (by omega) (fun b P κ' σ' hb1 li gl => ⟨_, rfl, fun z => absurd z (by decide), fun _ => ?_⟩) (fun κ' σ' x fl hx gl => ⟨_, rfl, fun _ => ?_, fun z => absurd (nI_pos' (by omega)) z⟩) 13 0 5000 κb σ9 (by omega) li0 go0
  · -- the text has no fault but in its names
    obtain ⟨ho, hbs, cd, tpk, ls, wn0⟩ := li.link
    obtain ⟨σ7, ad, wr, fin⟩ := asks_end (X := X) (D := 800) (by omega) li
    have kr : KR κb κ' := li.2.2.2.2.2.1
    have ar := li.2.2.2.2.2.2.1
    have bt' := li.1
    have cw' : ClW κ' := by
      obtain ⟨w, y1, y2, y3, y4, y5⟩ := bt'.1.2.2.2.2.2.2.2.2.2.2.1
      exact ⟨⟨w, y1, y2, y4, y5⟩, bt'.2.2.2.2.1, bt'.2.2.2.2.2.2.2.1⟩
    have pb := bt'.1.2
    have nn7 : NN σ7 := NN.fr (σ := σ') ⟨pb.2.2.2.2.2.2.2.2.2.2.2.2.2.2.2.1, pb.2.2.2.2.2.2.2.2.2.2.2.2.2.2.2.2, pb.2.2.2.2.2.2.2.2.2.2.2.2.2.1⟩ (fun k hk => ad.1 k (by omega) (by omega))
    have bg7 : BgR σ7 := (bg9.fr (σ' := σ') (fun k hk => (ar k (by unfold qR qB qP qE; omega)).1)).fr (fun k hk => ad.1 k (by omega) (by omega))
    have e46 : sI σ7 46 = 0 := by
      have x1 := congrFun (ad.1 46 (by decide) (by decide)) 0
      have x2 := congrFun (ar 46 (by unfold qR qB qP qE; omega)).1 0
      have x3 := s9 46 (by unfold hR; decide)
      exact x1.trans (x2.trans (x3.trans z46))
    refine ⟨4, by omega, kc_link ho hbs cd tpk ls wn0 (fun κ8 lf lk wn => ?_)⟩
    have same := same_fault li wn wr
    have cw8 : ClW κ8 := by
      unfold ClW at *
      rw [lf.w.2.1, lf.w.2.2.1]
      exact cw'
    have tk8 : TkW κ8 := (tkw κ' kr).fr (by rw [lf.w.2.1]; exact ⟨rfl, rfl, rfl⟩)
    have kr8 : KR2 κ κ8 := (kr0.trans kr.two).trans lf.kr2
    rcases wn.1 with c | ⟨g, g1, g2⟩
    · rw [c]
      have nf := nof_of li wn c
      have st := sta_of hb1 li lf lk ad nf
      refine q1 b κ8 σ7 st st.1.1 kr8 cw8 tk8 bg7 nn7 (fun F' hF => gl _ (fin _ (fun _ => ⟨_, rfl, hF⟩) (fun z => absurd ?_ z)))
      rw [← same, c]
      decide
    · rw [g2]
      refine q0 g κ8 σ7 (by omega) kr8 cw8 tk8 bg7 nn7 e46 (fun F' hF => gl _ (fin _ (fun z => absurd z ?_) (fun _ => ⟨_, rfl, ?_⟩)))
      · rw [← same, g2, n0_lt (by omega)]
        exact id
      · rw [← same, g2]
        exact hF
  · obtain ⟨⟨y, y1, y2, y3, yn⟩, kr, ar, cw'⟩ := fl
    have bg' : BgR σ' := bg9.fr (fun k hk => (ar k (by unfold qR qB qP qE; omega)).1)
    have e46 : sI σ' 46 = 0 := by
      have x2 := congrFun (ar 46 (by unfold qR qB qP qE; omega)).1 0
      have x3 := s9 46 (by unfold hR; decide)
      exact x2.trans (x3.trans z46)
    exact q0 x κ' σ' hx (kr0.trans kr.two) cw' (tkw κ' kr) bg' yn e46 (fun F' hF => gl _ ⟨_, rfl, hF⟩)
end COMP
