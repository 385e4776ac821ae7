/-! the class's stage is set back -/
section RESET
variable {X : Cx} {d e : Nat} {κ0 κ κ1 κ2 κ' : Km} {σ0 σ σ1 σ2 σ' : Rm} {b V al S T sp z LT HT F0 n k s p o j i x t g : Nat} {st : Nat → Nat} {fr : Nat → List Frm} {pt : Nat → Nat} {w m : Nat → Nat} {y hi rd : Int32}
theorem SC.cg (h : SC κ V sp) (e79 : ∀ k, kI κ' 79 k = kI κ 79 k) (ev : kV κ' = kV κ) (ek : ∀ n, kI κ' (1002 + 8 * n) = kI κ (1002 + 8 * n)) (ew : ∀ g, (79 ≤ g ∧ g < 92) ∨ (1000 ≤ g ∧ 2 ≤ g % 8) → kW κ' g = kW κ g) : SC κ' V sp := by
  obtain ⟨⟨s1, s2, s3, s4⟩, s5, s6, s7, s8, s9, ⟨w1, w2, w3, w4⟩, w5, w6, w7⟩ := h
  have eh : cn (hwd κ') 60 = cn (hwd κ) 60 := cn_cg 60 (fun n _ _ => by unfold hwd; rw [ew (1003 + 8 * n) (by omega)])
  refine ⟨⟨by rw [e79]; exact s1, s2, by rw [ev]; exact s3, by rw [ev]; exact s4⟩, by rw [e79]; exact s5, by rw [eh]; exact s6, fun k hk => ?_, fun n h1 h2 => ?_, fun n h1 h2 => ?_, ⟨?_, ?_, ?_, ?_⟩, ?_, ?_, ?_⟩
  · rw [ew (1004 + 8 * k) (by omega)]; exact s7 k hk
  · rw [ew (1003 + 8 * n) (by omega)]; exact s8 n h1 h2
  · rw [ew (1003 + 8 * n) (by omega), ek n]; exact s9 n h1 h2
  · rw [ew 91 (by omega)]; exact w1
  · rw [ew 86 (by omega)]; exact w2
  · rw [ew 87 (by omega)]; exact w3
  · rw [ew 88 (by omega)]; exact w4
  · rw [ew 81 (by omega)]; exact w5
  · rw [ew 83 (by omega)]; exact w6
  · rw [ew 85 (by omega)]; exact w7
/-- what failAll changes -/
def Fz (κ κ' : Km) : Prop := (∀ g, g ≠ 79 → (g < 1000 ∨ g % 8 ≤ 1 ∨ g = 1003) → kI κ' g = kI κ g ∧ kL κ' g = kL κ g ∧ kW κ' g = kW κ g) ∧ (kV κ' = kV κ ∧ kB κ' = kB κ) ∧ RG κ κ'
theorem Fz.refl : Fz κ κ := ⟨fun _ _ _ => ⟨rfl, rfl, rfl⟩, ⟨rfl, rfl⟩, RG.refl⟩
theorem Fz.trans (a : Fz κ κ1) (b : Fz κ1 κ2) : Fz κ κ2 := ⟨fun g h1 h2 => ⟨(b.1 g h1 h2).1.trans (a.1 g h1 h2).1, (b.1 g h1 h2).2.1.trans (a.1 g h1 h2).2.1, (b.1 g h1 h2).2.2.trans (a.1 g h1 h2).2.2⟩, ⟨b.2.1.1.trans a.2.1.1, b.2.1.2.trans a.2.1.2⟩, a.2.2.trans b.2.2⟩
theorem SC.end (h : SC κ V sp) (hn : 1 ≤ n ∧ n ≤ V) : SC (enK κ n sp 5) V (sp + hwd κ n) ∧ Fz κ (enK κ n sp 5) := by
  have h40 := h.w40 n hn.1 (by have := h.1.2.1; omega)
  obtain ⟨⟨s1, s2, s3, s4⟩, s5, s6, s7, s8, s9, ⟨w1, w2, w3, w4⟩, w5, w6, w7⟩ := h
  have up := cn_up (g := hwd κ) (g' := un (hwd κ) n 0) (n := n) (fun k hk => un_ne hk) 60 hn.1 (by omega)
  rw [un_eq] at up
  have h1 : hwd κ n ≤ 1 := by unfold hwd; split <;> omega
  have hw0 : kW κ (1003 + 8 * n) = 0 → hwd κ n = 0 := fun z => if_pos z
  have hw1 : kW κ (1003 + 8 * n) ≠ 0 → hwd κ n = 1 := fun z => if_neg z
  have hsp : kW κ (1003 + 8 * n) ≠ 0 → sp < 12 ∧ kW κ (1004 + 8 * sp) = 0 := fun z => by
    have := hw1 z
    have : sp < 12 := by omega
    exact ⟨this, (s7 sp this).2 (Nat.le_refl _)⟩
  have ew : ∀ g, g ≠ 1003 + 8 * n → g ≠ 1004 + 8 * sp → kW (enK κ n sp 5) g = kW κ g := fun g g1 g2 => enK_w g1 g2
  have eh : cn (hwd (enK κ n sp 5)) 60 = cn (un (hwd κ) n 0) 60 := cn_cg 60 (fun m m1 m2 => by
    by_cases c : m = n
    · rw [c, un_eq]; exact if_pos enK_w0
    · rw [un_ne c]; unfold hwd; rw [ew (1003 + 8 * m) (by omega) (by omega)])
  obtain ⟨n0, ⟨ns, nt1, nt2, nt3⟩, nw⟩ := s9 n hn.1 hn.2
  refine ⟨⟨⟨by rw [enK_79 (by decide) (by decide)]; exact s1, s2, by rw [enK_BV.2]; exact s3, by rw [enK_BV.2]; exact s4⟩, ?_, by rw [eh]; omega, fun k hk => ?_, fun m m1 m2 => ?_, fun m m1 m2 => ?_, ⟨by rw [ew 91 (by omega) (by omega)]; exact w1, by rw [ew 86 (by omega) (by omega)]; exact w2, by rw [ew 87 (by omega) (by omega)]; exact w3, by rw [ew 88 (by omega) (by omega)]; exact w4⟩, by rw [ew 81 (by omega) (by omega)]; exact w5, by rw [ew 83 (by omega) (by omega)]; exact w6, by rw [ew 85 (by omega) (by omega)]; exact w7⟩, fun g g1 g2 => ⟨(enK_h g1 (by omega) (by omega)).1, (enK_h g1 (by omega) (by omega)).2, ew g (by omega) (by omega)⟩, ⟨enK_BV.2, enK_BV.1⟩, enK_rg (by omega) hsp⟩
  · by_cases c : kW κ (1003 + 8 * n) = 0
    · rw [enK_8A c, hw0 c]; exact s5
    · rw [enK_8B c, hw1 c]
  · by_cases c : kW κ (1003 + 8 * n) = 0
    · rw [enK_wA c, hw0 c]; exact s7 k hk
    · rw [hw1 c]
      by_cases ck : k = sp
      · subst ck
        rw [enK_wB c]
        rcases nw with z | ⟨z1, z2⟩
        · exact absurd z c
        · exact ⟨fun _ => ⟨c, z2, z1⟩, fun z => by omega⟩
      · rw [ew (1004 + 8 * k) (by omega) (by omega)]
        exact ⟨fun z => (s7 k hk).1 (by omega), fun z => (s7 k hk).2 (by omega)⟩
  · rw [ew (1003 + 8 * m) (by omega) (by omega)]; exact s8 m m1 m2
  · by_cases c : m = n
    · rw [c, enK_w0, enK_v1, enK_v (by decide) (by decide)]
      exact ⟨n0, ⟨5, by omega, rfl, fun _ => rfl⟩, Or.inl rfl⟩
    · rw [ew (1003 + 8 * m) (by omega) (by omega), (enK_h (by omega) (by omega) (by omega)).1]
      exact s9 m m1 m2
theorem kc_failAllS {F : Km → Prop} (sc : SC κ V sp) (q : ∀ κ' sp', SC κ' V sp' → Fz κ κ' → (∀ m, 1 ≤ m → m ≤ V → kW κ' (1003 + 8 * m) = 0) → F κ') : KC' X 3 MX6_failAll [vR 79] κ (kRV F) := by
  have hV60 : V ≤ 60 := sc.1.2.1
  have loop : ∀ r i κ1 sp1, i + r = V + 1 → 1 ≤ i → SC κ1 V sp1 → Fz κ κ1 → (∀ m, 1 ≤ m → m < i → kW κ1 (1003 + 8 * m) = 0) → K X 3 MX6_failAll 2 [(0, vR 79), (1, vI (nI i))] [] κ1 (kRV F) := by
    intro r
    induction r with
    | zero =>
      intro i κ1 sp1 hi i1 sc1 fz hw
      have ei : i = V + 1 := hi
      subst ei
      refine k_6_failAll_2 _ ?_
      rw [sc1.1.1, lt_nI (by omega) (by omega)]
      exact ⟨fun _ => ⟨rfl, q κ1 sp1 sc1 fz (fun m m1 m2 => hw m m1 (by omega))⟩, fun z => absurd (by omega) z⟩
    | succ r ih =>
      intro i κ1 sp1 hi i1 sc1 fz hw
      have hkV := sc1.1.2.2.1
      have hH : isH κ1 (1002 + 8 * i) 10 := isH_voice i1 (by omega)
      obtain ⟨n0, ⟨s, s6, s1, sw⟩, nw⟩ := sc1.2.2.2.2.2.1 i i1 (by omega)
      refine k_6_failAll_2 _ ?_
      rw [sc1.1.1, lt_nI (by omega) (by omega)]
      refine ⟨fun z => by omega, fun _ => ⟨0, by omega, kc_vfind sc1.1.1 hV60 hkV (fun n n1 n2 e => ?_) (fun hz => (vno_no hV60 hz i i1 (by omega) rfl).elim)⟩⟩
      have en : i = n := (nI_eq (by omega) (by omega)).mp e
      subst en
      refine ⟨Or.inr hH.1, fun z => absurd z (by omega), fun _ => ⟨hH, 0, by omega, kc_isOver hH s1 s6 (fun c4 => ⟨fun z => absurd z (by decide), fun _ => k_6_failAll_33 _ _ ?_⟩) (fun c4 => ⟨fun _ => ⟨2, by omega, ?_⟩, fun z => absurd rfl z⟩)⟩⟩
      · rw [nI_1]
        refine ih (i + 1) κ1 sp1 (by omega) (by omega) sc1 fz (fun m m1 m2 => ?_)
        by_cases c : m = i
        · rw [c]; exact sw c4
        · exact hw m m1 (by omega)
      · obtain ⟨sc2, fz2⟩ := sc1.end (n := i) ⟨i1, by omega⟩
        have h40 := sc1.w40 i i1 (by omega)
        have hsp : kW κ1 (1003 + 8 * i) ≠ 0 → sp1 < 12 ∧ kW κ1 (1004 + 8 * sp1) = 0 := fun z => by
          have h1 : hwd κ1 i = 1 := if_neg z
          have up := cn_up (g := hwd κ1) (g' := un (hwd κ1) i 0) (n := i) (fun k hk => un_ne hk) 60 i1 (by omega)
          rw [un_eq] at up
          have := sc1.2.2.1
          have : sp1 < 12 := by omega
          exact ⟨this, (sc1.2.2.2.1 sp1 this).2 (Nat.le_refl _)⟩
        have h1 : hwd κ1 i ≤ 1 := by unfold hwd; split <;> omega
        have nx : K X 3 MX6_failAll 33 [(0, vR 79), (1, vI (nI i)), (2, vR (1002 + 8 * i))] [] (enK κ1 i sp1 5) (kRV F) := by
          refine k_6_failAll_33 _ _ ?_
          rw [nI_1]
          refine ih (i + 1) _ _ (by omega) (by omega) sc2 (fz.trans fz2) (fun m m1 m2 => ?_)
          by_cases c : m = i
          · rw [c]; exact enK_w0
          · by_cases c0 : kW κ1 (1003 + 8 * i) = 0
            · rw [enK_wA c0]; exact hw m m1 (by omega)
            · rw [enK_w (by omega) (by omega)]; exact hw m m1 (by omega)
        unfold enK at nx
        exact kc_Stage_end (s := sp1) i1 (by omega) sc1.2.1 (by omega) hsp (fun w0 => by rw [if_pos w0] at nx; exact nx) (fun w0 => by rw [if_neg w0] at nx; exact nx)
  exact KC_of_K rfl (Nat.le_of_ble_eq_true rfl) rfl (k_6_failAll_0 (loop V 1 κ sp (by omega) (Nat.le_refl _) sc Fz.refl (fun m m1 m2 => by omega)))
/-- the lists and the stage, empty -/
def rsS (κ : Km) : Km := cI (cI (cI (cI (cI (cI (cI (cI (cI (cI (cI (cI (cI (cI (cI (cI κ 80 1 0) 80 2 0) 82 1 0) 82 2 0) 84 1 1) 84 2 0) 84 3 0) 79 9 0) 79 10 0) 79 11 0) 79 12 0) 79 13 0) 79 14 0) 79 15 1) 79 16 0) 79 17 0
theorem rsS_h (h1 : g ≠ 79) (h2 : g ≠ 80) (h3 : g ≠ 82) (h4 : g ≠ 84) : kI (rsS κ) g = kI κ g := by
  unfold rsS
  rw [kI_ne h1, kI_ne h1, kI_ne h1, kI_ne h1, kI_ne h1, kI_ne h1, kI_ne h1, kI_ne h1, kI_ne h1, kI_ne h4, kI_ne h4, kI_ne h4, kI_ne h3, kI_ne h3, kI_ne h2, kI_ne h2]
theorem rsS_79 : kI (rsS κ) 79 8 = kI κ 79 8 ∧ kI (rsS κ) 79 9 = 0 ∧ kI (rsS κ) 79 10 = 0 ∧ kI (rsS κ) 79 11 = 0 ∧ kI (rsS κ) 79 12 = 0 ∧ kI (rsS κ) 79 13 = 0 ∧ kI (rsS κ) 79 14 = 0 ∧ kI (rsS κ) 79 16 = 0 ∧ kI (rsS κ) 79 17 = 0 := by
  unfold rsS
  refine ⟨?_, ?_, ?_, ?_, ?_, ?_, ?_, ?_, kI_eq⟩
  · rw [kI_nk (by decide), kI_nk (by decide), kI_nk (by decide), kI_nk (by decide), kI_nk (by decide), kI_nk (by decide), kI_nk (by decide), kI_nk (by decide), kI_nk (by decide), kI_ne (by decide), kI_ne (by decide), kI_ne (by decide), kI_ne (by decide), kI_ne (by decide), kI_ne (by decide), kI_ne (by decide)]
  · rw [kI_nk (by decide), kI_nk (by decide), kI_nk (by decide), kI_nk (by decide), kI_nk (by decide), kI_nk (by decide), kI_nk (by decide), kI_nk (by decide), kI_eq]
  · rw [kI_nk (by decide), kI_nk (by decide), kI_nk (by decide), kI_nk (by decide), kI_nk (by decide), kI_nk (by decide), kI_nk (by decide), kI_eq]
  · rw [kI_nk (by decide), kI_nk (by decide), kI_nk (by decide), kI_nk (by decide), kI_nk (by decide), kI_nk (by decide), kI_eq]
  · rw [kI_nk (by decide), kI_nk (by decide), kI_nk (by decide), kI_nk (by decide), kI_nk (by decide), kI_eq]
  · rw [kI_nk (by decide), kI_nk (by decide), kI_nk (by decide), kI_nk (by decide), kI_eq]
  · rw [kI_nk (by decide), kI_nk (by decide), kI_nk (by decide), kI_eq]
  · rw [kI_nk (by decide), kI_eq]
theorem rsS_80 : (kI (rsS κ) 80 1 = 0 ∧ kI (rsS κ) 80 2 = 0) ∧ (kI (rsS κ) 82 1 = 0 ∧ kI (rsS κ) 82 2 = 0) ∧ kI (rsS κ) 84 1 = 1 ∧ kI (rsS κ) 84 2 = 0 ∧ kI (rsS κ) 84 3 = 0 := by
  have e : ∀ g, g ≠ 79 → kI (rsS κ) g = kI (cI (cI (cI (cI (cI (cI (cI κ 80 1 0) 80 2 0) 82 1 0) 82 2 0) 84 1 1) 84 2 0) 84 3 0) g := fun g h1 => by
    unfold rsS
    rw [kI_ne h1, kI_ne h1, kI_ne h1, kI_ne h1, kI_ne h1, kI_ne h1, kI_ne h1, kI_ne h1, kI_ne h1]
  rw [e 80 (by decide), e 82 (by decide), e 84 (by decide)]
  refine ⟨⟨?_, ?_⟩, ⟨?_, ?_⟩, ?_, ?_, kI_eq⟩
  · rw [kI_ne (by decide), kI_ne (by decide), kI_ne (by decide), kI_ne (by decide), kI_ne (by decide), kI_nk (by decide), kI_eq]
  · rw [kI_ne (by decide), kI_ne (by decide), kI_ne (by decide), kI_ne (by decide), kI_ne (by decide), kI_eq]
  · rw [kI_ne (by decide), kI_ne (by decide), kI_ne (by decide), kI_nk (by decide), kI_eq]
  · rw [kI_ne (by decide), kI_ne (by decide), kI_ne (by decide), kI_eq]
  · rw [kI_nk (by decide), kI_nk (by decide), kI_eq]
  · rw [kI_nk (by decide), kI_eq]
theorem kc_reset {F : Km → Prop} (sc : SC κ V sp) (q : ∀ κ2 sp', SC κ2 V sp' → Fz κ κ2 → (∀ m, 1 ≤ m → m ≤ 60 → kW κ2 (1003 + 8 * m) = 0) → F (rsS κ2)) : KC' X 4 MX6_reset [vR 79] κ (kRV F) := by
  refine KC_of_K rfl (Nat.le_of_ble_eq_true rfl) rfl (k_6_reset_0 ⟨3, by omega, kc_failAllS sc (fun κ2 sp' sc2 fz hw => ⟨0, by omega, KC_of_K rfl (Nat.le_of_ble_eq_true rfl) rfl (k_4_clear_0 _ ⟨fixH 80 4 (by decide) rfl, ?_⟩)⟩)⟩)
  rintro κ3 rfl κ4 rfl
  refine ⟨rfl, 0, by omega, KC_of_K rfl (Nat.le_of_ble_eq_true rfl) rfl (k_4_clear_0 _ ⟨fixH 82 4 (by decide) rfl, ?_⟩)⟩
  rintro κ5 rfl κ6 rfl
  refine ⟨rfl, 1, by omega, KC_of_K rfl (Nat.le_of_ble_eq_true rfl) rfl (k_2_clear_0 ?_)⟩
  rintro κ7 rfl
  refine ⟨0, by omega, KC_of_K rfl (Nat.le_of_ble_eq_true rfl) rfl (k_2_comeOut_0 _ ?_)⟩
  rintro κ8 rfl κ9 rfl
  refine ⟨rfl, rfl, ?_⟩
  rintro κ21 rfl κ22 rfl κ23 rfl κ24 rfl κ25 rfl κ26 rfl κ27 rfl κ28 rfl κ29 rfl
  refine ⟨rfl, q κ2 sp' sc2 fz (fun m m1 m2 => ?_)⟩
  by_cases c : m ≤ V
  · exact hw m m1 c
  · exact sc2.2.2.2.2.1 m (by omega) m2
end RESET
