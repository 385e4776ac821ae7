/-! one body after the other, both -/
section READ
variable {X : Cx} {N b P n s : Nat} {κ0 κ κ1 κ2 κ' : Km} {σ0 σ σ1 σ2 σ' : Rm}
/-- widths of the class's rows that later texts need -/
def ClW (κ : Km) : Prop := (∃ w, kW κ 69 = w ∧ kW κ 70 = w ∧ 128 ≤ w ∧ w ≤ 20000) ∧ kB κ ≤ 12 ∧ ∀ i, i < kB κ → kW κ (1001 + 8 * i) = 12
/-- an ask of body i, in both -/
def AskIn (N i : Nat) (κ : Km) (σ : Rm) (u : Nat) : Prop := ∃ t m k q, (t ≤ N ∧ kI κ 74 t = 2) ∧ m < 8 ∧ aI σ 39 u = nI t ∧ aI σ 40 u = nI m ∧ q < rJ σ ∧ aI σ 38 u = nI q ∧ bdS κ i ≤ k ∧ k < bdE κ i ∧ kI κ 70 k = nI (8 * t + m) ∧ ((kI κ 69 k = 23 ∧ aI σ 13 q = 16) ∨ (kI κ 69 k = 24 ∧ aI σ 13 q = 20))
/-- all asks are of bodies, their acts go upwards -/
def Cov (N b : Nat) (κ : Km) (σ : Rm) : Prop := (∀ u, u < rA σ → ∃ i, i < b ∧ AskIn N i κ σ u) ∧ ∀ u w, u < w → w < rA σ → ∃ q r, q < r ∧ r < rJ σ ∧ aI σ 38 u = nI q ∧ aI σ 38 w = nI r
theorem AskIn.step {i u : Nat} (h : AskIn N i κ σ u) (rc : Rec N i κ σ) (hi : i < b) (hu : u < rA σ) (t : Pst b κ σ κ' σ') : AskIn N i κ' σ' u := by
  obtain ⟨t0, m, k, q, h1, h2, h3, h4, h5, h6, h7, h8, h9, h10⟩ := h
  obtain ⟨t1, t2, t3, ⟨e74, -⟩, ⟨t4, t5, t6, t7⟩, t8, t9, -⟩ := t
  obtain ⟨a1, a2, a3⟩ := t9 u hu
  obtain ⟨b1, -⟩ := t8 q h5
  have hk := rc.be.1
  obtain ⟨c1, c2⟩ := t2 k (by omega)
  have eS : bdS κ' i = bdS κ i := by unfold bdS; rw [(t3 i hi).1]
  have eE : bdE κ' i = bdE κ i := by unfold bdE; rw [(t3 i hi).1]
  exact ⟨t0, m, k, q, ⟨h1.1, by rw [e74]; exact h1.2⟩, h2, by rw [a2]; exact h3, by rw [a3]; exact h4, by omega, by rw [a1]; exact h6, by rw [eS]; exact h7, by rw [eE]; exact h8, by rw [c2]; exact h9, by rw [c1, b1]; exact h10⟩
theorem cov_step {κ5 : Km} {σ6 : Rm} {n' : Nat} (cv : Cov N b κ σ) (rec : ∀ i, i < b → Rec N i κ σ) (pst : Pst b κ σ κ5 σ6) (us0 : UsA N κ2 σ2 (iC κ1) (iC κ2) (rJ σ1) (rJ σ2) 0 (rU σ2) (rA σ1) (rA σ2) n' (rV σ2)) (ec : EdC b κ2 κ5) (er : EdR b σ2 σ6) (g3 : iC κ1 = iC κ) (g4 : rJ σ1 = rJ σ) (g6 : rA σ1 = rA σ) (hi : iC κ2 ≤ 9500) (hj : rJ σ2 ≤ 9500) (sb : bdS κ5 b = iC κ) : Cov N (b + 1) κ5 σ6 := by
  obtain ⟨c1, c2, c3, c4, c5, c6, c7, c8, c9⟩ := ec
  obtain ⟨r1, r2, r3, r4, r5, r6, r7, r8⟩ := er
  obtain ⟨v1, v2⟩ := cv
  have A6 : ∀ k, (k < 13 ∨ 17 < k) → k ≠ 21 → k ≠ 37 → aI σ6 k = aI σ2 k := fun k h1 h2 h3 => (r1 k (by omega)).1
  have m4 : rJ σ6 = rJ σ2 + 2 := by unfold rJ at *; rw [r2, cl_nI (by omega)]
  have m6 : rA σ6 = rA σ2 := by unfold rA; exact congrArg _ (congrFun (A6 41 (by decide) (by decide) (by decide)) 0)
  have eE : bdE κ5 b = iC κ2 + 2 := by unfold bdE; rw [c8, cl_nI (by omega)]
  have e38 := A6 38 (by decide) (by decide) (by decide)
  have one : ∀ u, rA σ ≤ u → u < rA σ6 → AskIn N b κ5 σ6 u ∧ ∃ q, rJ σ ≤ q ∧ q < rJ σ6 ∧ aI σ6 38 u = nI q := fun u l1 l2 => by
    obtain ⟨t, m, k, q, h1, h2, h3, h4, h5, h6, h7, h8, h9, h10, h11, h12⟩ := us0.2.2.2.2.2.1 u (by omega) (by omega)
    obtain ⟨x1, x2⟩ := c3 k h10
    refine ⟨⟨t, m, k, q, ⟨h1, ?_⟩, h2, ?_, ?_, by omega, ?_, by omega, by omega, ?_, ?_⟩, q, by omega, by omega, ?_⟩
    · rw [(c5.1 74 (by omega)).1]; exact h5
    · rw [A6 39 (by decide) (by decide) (by decide)]; exact h3
    · rw [A6 40 (by decide) (by decide) (by decide)]; exact h4
    · rw [e38]; exact h8
    · rw [x2]; exact h11
    · rw [x1, (r4 q h7).1]; exact h12
    · rw [e38]; exact h8
  have oldA := pst.2.2.2.2.2.2.1
  have hJ := pst.2.2.2.2.1.1
  refine ⟨fun u hu => ?_, fun u w huw hw => ?_⟩
  · by_cases c : u < rA σ
    · obtain ⟨i, i1, i2⟩ := v1 u c
      exact ⟨i, by omega, i2.step (rec i i1) i1 c pst⟩
    · exact ⟨b, by omega, (one u (by omega) hu).1⟩
  · by_cases c : w < rA σ
    · obtain ⟨q, r, h1, h2, h3, h4⟩ := v2 u w huw c
      exact ⟨q, r, h1, by omega, by rw [(oldA u (by omega)).1]; exact h3, by rw [(oldA w c).1]; exact h4⟩
    · by_cases c2 : u < rA σ
      · obtain ⟨i, i1, ⟨t, m, k, q, h1, h2, h3, h4, h5, h6, -⟩⟩ := v1 u c2
        obtain ⟨-, r, r1', r2', r3'⟩ := one w (by omega) hw
        exact ⟨q, r, by omega, r2', by rw [(oldA u c2).1]; exact h6, r3'⟩
      · obtain ⟨q, r, h1, h2, h3, h4, h5⟩ := us0.2.2.2.2.2.2.2 u w (by omega) huw (by omega)
        exact ⟨q, r, h1, by omega, by rw [e38]; exact h4, by rw [e38]; exact h5⟩
/-- where no name is wrong, both have the same variables -/
def VEq (b : Nat) (κ : Km) (σ : Rm) : Prop := ∀ i, i < b → kI κ 67 3 = -9 → kI κ (1000 + 8 * i) 8 = -9 → aI σ 21 i = kI κ (1000 + 8 * i) 5
theorem veq_step {κ5 : Km} {σ6 : Rm} (ve : VEq b κ σ) (pst : Pst b κ σ κ5 σ6) (ps : Ps κ2 σ2 N b P) (ec : EdC b κ2 κ5) (er : EdR b σ2 σ6) (n9 : kI κ2 67 3 = -9 → kI κ 67 3 = -9) : VEq (b + 1) κ5 σ6 := by
  obtain ⟨c1, c2, c3, c4, c5, c6, c7, c8, c9⟩ := ec
  obtain ⟨r1, r2, r3, r4, r5, r6, r7, r8⟩ := er
  have hb := ps.1.2.2.2.1
  intro i hi h67 h8
  rw [(c5.1 67 (by omega)).1] at h67
  by_cases c : i = b
  · subst c
    rw [c7 8 (by decide)] at h8
    obtain ⟨E, D, n1, n2, n3, n4, n5, n6, n7, n8, nE, n9', n10, n11, n12, n13⟩ := ps.1.2.2.2.2
    have eE : E.length = D.length := by
      by_cases e : E.length = D.length
      · exact e
      · obtain ⟨t, t1, t2⟩ := n13 e
        rw [h67, fN_neg] at t2
        obtain ⟨f, f1, f2, f3, f4⟩ := ps.1.1.pl2 (Nat.le_trans t1 ps.2.2.2.2.2.1)
        omega
    have lD : D.length ≤ 12 := by
      by_cases l : D.length ≤ 12
      · exact l
      · have hs : D[12]? = some (D[12]'(by omega)) := List.getElem?_eq_getElem (by omega)
        rw [hs] at n7
        obtain ⟨f, f1, f2, f3, f4⟩ := ps.1.1.pl2 (Nat.le_trans (n2 _ (List.mem_of_getElem? hs)).1 ps.2.2.2.2.2.1)
        rw [n7] at h8
        have h8 : kI κ2 75 (D[12]'(by omega)) = -9 := h8
        rw [f1] at h8
        exact absurd h8 (neg9 (by omega))
    rw [r6, if_pos rfl, c7 5 (by decide), n4]
    unfold rV
    rw [n8, cl_nI (by omega), eE]
    congr 1
    omega
  · have hi' : i < b := by omega
    have e := (pst.2.2.1 i hi').1
    rw [e] at h8
    rw [e, (pst.2.2.2.2.2.2.2.2.2.2.1 i hi').2.2.1]
    exact ve i hi' (n9 h67) h8
/-- b bodies are read -/
def LI (N b P : Nat) (κ0 : Km) (σ0 : Rm) (κ : Km) (σ : Rm) : Prop := BT κ σ N b P ∧ (iC κ ≤ 3 * pC κ ∧ rJ σ ≤ 3 * pC κ ∧ 2 * rA σ ≤ pC κ ∧ 6 * rT σ ≤ pC κ ∧ 4 * rC σ ≤ pC κ) ∧ (∀ i, i < b → Rec N i κ σ) ∧ TcO σ ∧ Lst (fun p => ∃ i, i < b ∧ FSc N κ i p) P ∧ KR κ0 κ ∧ AF qR σ0 σ ∧ kI κ 77 5 = -9 ∧ (∀ i j, i < j → j < b → bdE κ i ≤ bdS κ j) ∧ Cov N b κ σ ∧ VEq b κ σ
/-- a fault of the text -/
def FltR (κ0 : Km) (σ0 : Rm) (κ' : Km) (σ' : Rm) : Prop := (∃ x, x < 4000 ∧ kI κ' 77 5 = nI x ∧ aI σ' 0 6 = nI x ∧ NN σ') ∧ KR κ0 κ' ∧ AF qR σ0 σ' ∧ ClW κ'
theorem KH.kr (h : KH b κ κ1) : KR κ κ1 := ⟨fun g hg => h.1 g (fun z => hg (by unfold hB at z; unfold hRd; omega)), h.2.1, h.2.2.1, h.2.2.2.1⟩
theorem FltH.r (kr : KR κ0 κ) (ar : AF qR σ0 σ) (bt : BT κ σ N b P) (h : FltH b κ σ κ' σ') : FltR κ0 σ0 κ' σ' := by
  obtain ⟨⟨x, x1, x2, x3, xn⟩, kh, af⟩ := h
  obtain ⟨w, w1, w2, w3, w4, w5⟩ := bt.1.2.2.2.2.2.2.2.2.2.2.1
  refine ⟨⟨x, x1, x2, x3, xn⟩, kr.trans kh.kr, ar.trans (af.weak (fun k hk => Or.inl hk)), ⟨w, ?_, ?_, w4, w5⟩, kh.2.2.2.2.1, kh.2.2.2.2.2.2⟩
  · rw [(kh.1 69 (by unfold hB; omega)).2.2]; exact w1
  · rw [(kh.1 70 (by unfold hB; omega)).2.2]; exact w2
theorem Flt.r (kr : KR κ0 κ) (ar : AF qR σ0 σ) (hb : HB N b P n s κ σ κ1 σ1) (h : Flt b κ1 σ1 9200 κ' σ') : FltR κ0 σ0 κ' σ' := by
  obtain ⟨⟨x, x1, x2, x3, xn⟩, ⟨t1, t2, t3, t4, t5, t6, t7⟩, af, f1, ⟨w, w1, w2, w3, w4, w5⟩, f3⟩ := h
  have kh := hb.2.2.1
  have k1 : KR κ1 κ' := ⟨fun g hg => t1.1 g (fun z => hg (by unfold hP hE at z; unfold hRd; omega)), t1.2.2.2, t2, by rw [t1.2.2.1]; exact Nat.le_refl _⟩
  refine ⟨⟨x, x1, x2, x3, xn⟩, (kr.trans kh.kr).trans k1, (ar.trans (hb.2.2.2.2.2.2.2.2.2.2.2.2.2.1.weak (fun k hk => Or.inl hk))).trans (af.weak (fun k hk => Or.inr hk)), ⟨w, w1, w2, w4, w5⟩, by rw [t1.2.2.1]; exact kh.2.2.2.2.1, fun i hi => ?_⟩
  rw [t1.2.2.1] at hi
  by_cases c : i = b
  · rw [c, t7, ← c]; exact kh.2.2.2.2.2.2 i hi
  · rw [(t1.1 (1001 + 8 * i) (by unfold hP hE; omega)).2.2]; exact kh.2.2.2.2.2.2 i hi
theorem lst_step {P' : Nat} (h : Lst (fun p => ∃ i, i < b ∧ FSc N κ i p) P) (g : Lst (fun p => p = P ∨ FSc N κ' b p) P') (e : ∀ i p, i < b → (FSc N κ' i p ↔ FSc N κ i p)) : Lst (fun p => ∃ i, i < b + 1 ∧ FSc N κ' i p) P' := by
  refine g.turn (fun z hz => ?_)
  have hp := h.2 z hz
  constructor
  · rintro A y ⟨i, hi, hy⟩
    by_cases c : i = b
    · subst c; exact A y (Or.inr hy)
    · exact hp.mp (A P (Or.inl rfl)) y ⟨i, by omega, (e i y (by omega)).mp hy⟩
  · rintro A y (rfl | hy)
    · exact hp.mpr (fun q ⟨i, hi, hq⟩ => A q ⟨i, by omega, (e i q hi).mpr hq⟩)
    · exact A y ⟨b, by omega, hy⟩
theorem one_body {d : Nat} {x : Int32} {Q : Res → Km → Prop} (hd : 790 ≤ d) (li : LI N b P κ0 σ0 κ σ)
    (q1 : ∀ κ' σ' P', LI N (b + 1) P' κ0 σ0 κ' σ' → b < 12 → (∀ Q' : Res → Rm → Prop, Q' (.inl none) σ' → AC X 92 790 MX13_readBody [vR 92] σ Q') → K X d MX5_read 115 [(0, vR 77), (1, vI x)] [] κ' Q)
    (q0 : ∀ κ' σ', FltR κ0 σ0 κ' σ' → (∀ Q' : Res → Rm → Prop, Q' (.inr 93) σ' → AC X 92 790 MX13_readBody [vR 92] σ Q') → K X d MX5_read 115 [(0, vR 77), (1, vI x)] [] κ' Q) : K X d MX5_read 59 [(0, vR 77), (1, vI x)] [] κ Q := by
  obtain ⟨bt, ⟨i1, i2, i3, i4, i5⟩, rec, tc, lst, kr, ar, h775, ord, cov, veq⟩ := li
  refine k_5_read_59 _ ⟨d - 1, by omega, hd_core bt (by omega) (fun κ1 σ1 n s hs hn hb path hb12 => ⟨fun z => absurd z (by decide), fun _ => ?_⟩) (fun κ1 σ1 fl path => ⟨fun _ => q0 κ1 σ1 (fl.r kr ar bt) (fun Q' hq => AC_of_A rfl (Nat.le_of_ble_eq_true rfl) rfl (path 790 Q' (by omega) hq)), fun z => absurd rfl z⟩)⟩
  have g := hb.2.1
  obtain ⟨g1, g2, g3, g4, g5, g6, g7, g8, g9, g10, g11⟩ := g
  have ps1 := hb.1
  have hp1 := ps1.p3
  have bdb : Bdb κ1 σ1 := by
    unfold Bdb
    omega
  have sp := blk_all (X := X) (N := N) (b := b) (P := P) (N + 1 - pC κ1) κ1 σ1 ps1 bdb (Nat.le_refl _)
  have e780 : dS (oC κ1) = 780 := by rw [g2]
  rw [e780] at sp
  refine ⟨780, by omega, sp.k (fun κ2 σ2 rs ok => ⟨fun z => absurd z (by decide), fun _ => ?_⟩) (fun κ2 σ2 rs fl => ⟨fun _ => q0 κ2 σ2 (fl.r kr ar hb) (fun Q' hq => AC_of_A rfl (Nat.le_of_ble_eq_true rfl) rfl (path 790 Q' (by omega) ⟨780, by omega, acr_bad rs hq⟩)), fun z => absurd rfl z⟩)⟩
  obtain ⟨st, b1, b2, b3, b4, b5⟩ := ok
  have ps2 := st.1
  have hp2 := ps2.p3
  have ds := st.2.2.2.2
  obtain ⟨l1, l2, l3, l4, l5, l6, l7, l8, l9, l10, l11⟩ := ds
  have hkc : kC κ2 = 1000 + 8 * b := ps2.1.2.1
  have hkb : b < kB κ2 := ps2.1.2.2.1
  have hi9 : iC κ2 ≤ 9500 := by omega
  have hj9 : rJ σ2 ≤ 9500 := by omega
  have us0 : UsA N κ2 σ2 (iC κ1) (iC κ2) (rJ σ1) (rJ σ2) 0 (rU σ2) (rA σ1) (rA σ2) n (rV σ2) := by rw [← g9, ← g5]; exact st.2.2.1.2
  have hA : A X 92 790 MX13_readBody 397 (LU (nI s) (nI (pC κ + 1)) (nI b) (nI n) (nI (rJ (em σ2 1 0 0))) (nI 0)) [] (em2 b σ2) (fun r s6 => r = .inl none ∧ UsQ (em2 b σ2) (rV σ2) 0 (rU σ2) s6) := uses_all (by omega) (rU σ2) 0 (em2 b σ2) (by omega) (ed_uh ps2 us0 hj9 (by omega) (by omega)) (fun σ6 uq => ⟨rfl, uq⟩)
  obtain ⟨r6, σ6, ev, rfl, uq⟩ := hA
  have er := ed_r ps2 us0 hj9 uq
  have ref : ∀ Q' : Res → Rm → Prop, Q' (.inl none) σ6 → AC X 92 790 MX13_readBody [vR 92] σ Q' := fun Q' hq => AC_of_A rfl (Nat.le_of_ble_eq_true rfl) rfl (path 790 Q' (by omega) ⟨780, by omega, acr_ok rs ⟨0, by omega, ac_emit ps2.2.2.2.2.2.2.2.2.2.2.2.1 (by omega) ⟨0, by omega, ac_emit (by rw [em_17]; unfold rJ; rw [em_17, cl_nI (by unfold rJ at hj9; omega)]) (by rw [(em2_f (b := b) hj9).1]; omega) ⟨by rw [vpn (by omega)]; omega, fun s26 e26 => by
    rw [cl_nI (by omega)] at e26
    rw [e26]
    exact ⟨_, σ6, ev, hq⟩⟩⟩⟩⟩)
  refine ⟨Or.inr (by rw [hkc]; exact (isH_body hkb).1), fun z => absurd z (by omega), fun _ => ⟨2, by omega, ps2.add (by omega) (by unfold i8; decide) (fun κ3 a1 => ?_)⟩⟩
  have e3 : iC κ3 = iC κ2 + 1 := by
    have := a1.1
    unfold iC at this ⊢
    rw [this, cl_nI (by unfold iC at hi9; omega)]
  refine ⟨2, by omega, kc_addC (by rw [e3]; exact a1.1) (by rw [e3]; exact a1.2.2.2.2.1) (by omega) (by unfold i8; decide) (fun κ4 a2 => ?_)⟩
  have k4 : kC κ4 = 1000 + 8 * b := by rw [a2.2.2.2.2.2.1.2.1, a1.2.2.2.2.2.1.2.1]; exact hkc
  have kb4 : kB κ4 = kB κ2 := by rw [a2.2.2.2.2.2.1.2.2.1, a1.2.2.2.2.2.1.2.2.1]
  refine ⟨by rw [k4]; exact isH_body (by omega), 0, by omega, kc_size0 ?_⟩
  rintro κ5 rfl
  rw [k4]
  obtain ⟨P', bt', rc, pst, tc', lst', kr', ar', h5', sb, m1, m2, m3, m4, m5, m6⟩ := body_done bt hb hn hs st ⟨hi9, hj9, by omega, by omega, by omega, by omega⟩ tc (ed_c (b := b) a1 a2 hi9) er lst.1
  refine q1 _ σ6 P' ⟨bt', ⟨?_, ?_, ?_, ?_, ?_⟩, fun i hi => ?_, tc', lst_step lst lst' (fun i p hi => FSc.step (rec i hi) hi pst), kr.trans kr', ar.trans ar', h5'.trans h775, fun i j hij hj => ?_, cov_step cov rec pst us0 (ed_c (b := b) a1 a2 hi9) er g3 g4 g6 hi9 hj9 sb, veq_step veq pst ps2 (ed_c (b := b) a1 a2 hi9) er (fun z => hb.2.2.2.2.2.2.2.2.2.2.2.2.2.2 (by rw [← st.2.1.1.2.2.2.1]; exact z))⟩ hb12 ref
  · omega
  · omega
  · omega
  · omega
  · omega
  · by_cases c : i = b
    · subst c; exact rc
    · exact (rec i (by omega)).step (by omega) pst
  · have eE : bdE (cI κ4 (1000 + 8 * b) 7 (kI κ4 68 2)) i = bdE κ i := by unfold bdE; rw [(pst.2.2.1 i (by omega)).1]
    rw [eE]
    by_cases c : j = b
    · subst c; rw [sb]; exact (rec i hij).be.1
    · have eS : bdS (cI κ4 (1000 + 8 * b) 7 (kI κ4 68 2)) j = bdS κ j := by unfold bdS; rw [(pst.2.2.1 j (by omega)).1]
      rw [eS]; exact ord i j hij (by omega)
/-- the reference's compile, where body b is due -/
def RefGo (X : Cx) (D : Nat) (x1 : Int32) (b : Nat) (σ : Rm) (Q : Res → Rm → Prop) : Prop := (b = 0 ∧ ∃ e, e + 1 ≤ D ∧ AC X 92 e MX13_readBody [vR 92] σ (aTVC X 92 D MX13_compile [(0, vR 92), (1, vI x1)] Q fun s => A X 92 D MX13_compile 99 [(0, vR 92), (1, vI x1)] [] s Q)) ∨ (b ≠ 0 ∧ A X 92 D MX13_compile 99 [(0, vR 92), (1, vI x1)] [] σ Q)
theorem read_loop {d D : Nat} {x1 : Int32} {Q : Res → Km → Prop} {Gl : (Res → Rm → Prop) → Prop} (hd : 790 ≤ d) (hD : 791 ≤ D)
    (q1 : ∀ b P κ' σ', 1 ≤ b → LI N b P κ0 σ0 κ' σ' → (∀ Q', A X 92 D MX13_compile 139 [(0, vR 92), (1, vI 0)] [] σ' Q' → Gl Q') → Q (.inl (some (vI (-9)))) κ')
    (q0 : ∀ κ' σ' x, FltR κ0 σ0 κ' σ' → x < 4000 → (∀ Q', Q' (.inl (some (vI (-10 - nI x)))) (wS σ' 18 0) → Gl Q') → Q (.inl (some (vI (nI x)))) κ') : ∀ (m b P : Nat) (κ : Km) (σ : Rm), b + m = 13 → LI N b P κ0 σ0 κ σ → (∀ Q', RefGo X D x1 b σ Q' → Gl Q') → K X d MX5_read 27 [(0, vR 77), (1, vI (nI b))] [] κ Q := by
  intro m
  induction m with
  | zero =>
    intro b P κ σ hb li path
    have := li.1.2.2.1
    omega
  | succ m ih =>
    intro b P κ σ hb li path
    have bt := li.1
    have h5 := li.2.2.2.2.2.2.2.1
    obtain ⟨f, t, t1, t2, t3, t4, t5, t6, t7, t8⟩ := bt.1.tok
    have hp := bt.1.p3
    have h10 : sI σ 10 = nI (pC κ) := bt.1.2.2.2.2.1
    -- a body is due
    have go : (∀ Q', (∃ e, e + 1 ≤ D ∧ AC X 92 e MX13_readBody [vR 92] σ (aTVC X 92 D MX13_compile [(0, vR 92), (1, vI x1)] Q' fun s => A X 92 D MX13_compile 99 [(0, vR 92), (1, vI x1)] [] s Q')) → Gl Q') → K X d MX5_read 59 [(0, vR 77), (1, vI (nI b))] [] κ Q := fun gl => by
      refine one_body hd li (fun κ' σ' P' li' hb12 ref => k_5_read_115 _ ?_) (fun κ' σ' fl ref => k_5_read_115 _ (k_5_read_27 _ ?_))
      · rw [nI_1]
        exact ih (b + 1) P' κ' σ' (by omega) li' (fun Q' rg => gl Q' ⟨790, hD, ref _ (Or.inl ⟨rfl, by
          rcases rg with ⟨z, -⟩ | ⟨-, h⟩
          · omega
          · exact h⟩)⟩)
      · obtain ⟨x, x1', x2, x3, -⟩ := fl.1
        have fin : K X d MX5_read 121 [(0, vR 77), (1, vI (nI b + 1))] [] κ' Q := k_5_read_121 _ (by
          rw [x2]
          exact q0 κ' σ' x fl x1' (fun Q' hq => gl Q' ⟨790, hD, ref _ (Or.inr ⟨rfl, a_compile_123 _ (by
            rintro s1 rfl
            rw [aI_ne (by decide), x3]
            exact hq)⟩)⟩))
        refine ⟨fun _ => fin, fun _ => ⟨fun z => ?_, fun _ => fin⟩⟩
        rw [x2] at z
        exact absurd z (neg9 (by omega))
    refine k_5_read_27 _ ?_
    rw [litI 12, lt_nI (by omega) (by omega), nI_le0 (by omega), h5]
    refine ⟨fun z => absurd z (by omega), fun _ => ⟨fun _ => ⟨fun z => go (fun Q' h => path Q' (Or.inl ⟨z, h⟩)), fun z => ⟨fun z0 => k_5_read_121 _ ?_, fun z0 => go (fun Q' h => path Q' (Or.inr ⟨z, a_compile_99 _ ?_⟩))⟩⟩, fun z => absurd rfl z⟩⟩
    · rw [h5]
      refine q1 b P κ σ (by omega) li (fun Q' h => path Q' (Or.inr ⟨z, a_compile_99 _ ?_⟩))
      rw [h10, vpn (by omega), cl_nI (by omega)]
      exact ⟨by omega, fun _ => h, fun y => absurd (t7.ends.mpr z0) y⟩
    · rw [h10, vpn (by omega), cl_nI (by omega)]
      exact ⟨by omega, fun y => absurd (t7.ends.mp y) z0, fun _ => h⟩
end READ
