/-! what is asked for and changes nothing: body, answer, told, lines, handings, ring, count -/
section ASKED
variable {X : Cx} {d e : Nat} {κ0 κ κ1 κ' : Km} {σ0 σ σ1 σ' : Rm} {b V al S T sp z LT HT F0 n k s m p hh : Nat} {st : Nat → Nat} {fr : Nat → List Frm} {pt : Nat → Nat} {w : Nat → Nat} {fs : List Frm} {x x0 x1 x2 y hi : Int32} {g : Nat → Int32}
/-- a number within a count, or not -/
theorem ac_inC {F : Int32 → Rm → Prop} (e : hi = nI T) (hm : T < 2147483648) (q1 : ∀ j, j < T → x = nI j → F 1 σ) (q0 : (∀ j, j < T → x ≠ nI j) → F 0 σ) : AC X 92 0 MX13_in [vI x, vI 0, vI (hi - 1)] σ (aRI F) := by
  by_cases c : T = 0
  · subst c
    refine ac_in _ _ _ ?_
    rw [if_neg (fun z => ?_)]
    · exact q0 (fun j hj => absurd hj (Nat.not_lt_zero _))
    · obtain ⟨j, hj, rfl⟩ := nI_of z.1
      refine z.2 ?_
      rw [e]
      exact Int32.lt_of_lt_of_le (show nI 0 - 1 < 0 by decide) (nI_pos' hj)
  · rw [e, show nI T - 1 = nI (T - 1) by rw [litI 1, nI_sb (by omega)]]
    exact ac_inN rfl (by omega) (fun j hj => q1 j (by omega)) (fun h => q0 (fun j hj => h j (by omega)))
theorem body_ok (h : Rr k κ σ) : P2I X MX11_body MX13_body [vI x0, vI x1] κ σ (Rr (k + 1)) := by
  refine ⟨10, 10, by decide, by decide, ?_⟩
  rcases h.cases with ⟨p, hR⟩ | ⟨κ0, σ0, b, V, al, S, LT, HT, sp, F0, z, st, fr, pt, w, p0, p, dk, hb, hR⟩
  · exact KC_of_K rfl (Nat.le_of_ble_eq_true rfl) rfl (k_11_body_0 _ _ ⟨fun _ => ⟨_, rfl, AC_of_A rfl (Nat.le_of_ble_eq_true rfl) rfl (a_body_0 _ _ ⟨fun _ => ⟨_, rfl, rfl, hR⟩, fun z => absurd p.2.2.2.2 z⟩)⟩, fun z => absurd p.2.2.2.1 z⟩)
  · obtain ⟨-, -, -, h5, h46⟩ := p
    obtain ⟨⟨t1, t2, t3, t4, t5⟩, tb⟩ := dk.bod
    have bad : ((∀ j, j < b → x0 ≠ nI j) ∨ ∀ j, j ≤ 3 → x1 ≠ nI j) → AC X 92 10 MX13_body [vR 92, vI x0, vI x1] σ (aRI fun y' σ' => (-1 : Int32) = y' ∧ Rr (k + 1) κ σ') := fun hb => AC_of_A rfl (Nat.le_of_ble_eq_true rfl) rfl (a_body_0 _ _ ⟨fun z => absurd (h46.symm.trans z) (by decide), fun _ => ⟨0, by omega, ac_inC t2 (by omega) (fun j hj e => ⟨fun z => absurd z (by decide), fun _ => ⟨0, by omega, ac_inN (m := 3) rfl (by omega) (fun i hi e2 => ?_) (fun _ => ⟨fun _ => a_body_33 _ _ ⟨_, rfl, rfl, hR⟩, fun z => absurd rfl z⟩)⟩⟩) (fun _ => ⟨fun _ => a_body_33 _ _ ⟨_, rfl, rfl, hR⟩, fun z => absurd rfl z⟩)⟩⟩)
    · refine KC_of_K rfl (Nat.le_of_ble_eq_true rfl) rfl (k_11_body_0 _ _ ⟨fun z => absurd (h5.symm.trans z) (by decide), fun _ => ⟨0, by omega, kc_satX t1 t4 t5 (fun j hj e => ?_) (fun hz => ⟨Or.inl rfl, fun _ => k_11_body_32 _ _ _ _ ⟨_, rfl, bad (Or.inl hz)⟩, fun z => absurd rfl z⟩)⟩⟩)
      subst e
      have hH : isH κ (1000 + 8 * j) 0 := isH_body (by omega)
      obtain ⟨s, n, v, q1, q2, q3, ⟨w1, w2, w3, w4⟩, ⟨u1, u2, u3⟩, u4⟩ := tb j hj
      refine ⟨Or.inr hH.1, fun z => absurd z (by omega), fun _ => ⟨hH, 0, by omega, ?_⟩⟩
      by_cases cj : ∃ i, i ≤ 3 ∧ x1 = nI i
      · obtain ⟨i, hi, rfl⟩ := cj
        have vj : vp_in (nI j) 12 := by rw [vpn (by omega)]; omega
        have rf : ∀ F : Int32 → Rm → Prop, ((nI i = 0 → A X 92 10 MX13_body 82 [(0, vR 92), (1, vI (nI j)), (2, vI (nI i))] [vI (aI σ 19 j)] σ (aRI F)) ∧ (¬ nI i = 0 → ((nI i = 1 → A X 92 10 MX13_body 82 [(0, vR 92), (1, vI (nI j)), (2, vI (nI i))] [vI (aI σ 20 j)] σ (aRI F)) ∧ (¬ nI i = 1 → ((nI i = 2 → A X 92 10 MX13_body 82 [(0, vR 92), (1, vI (nI j)), (2, vI (nI i))] [vI (aI σ 21 j)] σ (aRI F)) ∧ (¬ nI i = 2 → A X 92 10 MX13_body 82 [(0, vR 92), (1, vI (nI j)), (2, vI (nI i))] [vI (aI σ 22 j)] σ (aRI F))))))) → AC X 92 10 MX13_body [vR 92, vI (nI j), vI (nI i)] σ (aRI F) := fun F hF => AC_of_A rfl (Nat.le_of_ble_eq_true rfl) rfl (a_body_0 _ _ ⟨fun z => absurd (h46.symm.trans z) (by decide), fun _ => ⟨0, by omega, ac_inC t2 (by omega) (fun j' hj' e => ⟨fun z => absurd z (by decide), fun _ => ⟨0, by omega, ac_inN (m := 3) rfl (by omega) (fun i' hi' e2 => ⟨fun z => absurd z (by decide), fun _ => by
            rw [cl_nI (by omega)]
            exact ⟨fun z => ⟨vj, hF.1 z⟩, fun z => ⟨fun z2 => ⟨vj, (hF.2 z).1 z2⟩, fun z2 => ⟨fun z3 => ⟨vj, ((hF.2 z).2 z2).1 z3⟩, fun z3 => ⟨vj, ((hF.2 z).2 z2).2 z3⟩⟩⟩⟩⟩) (fun hz => (hz i hi rfl).elim)⟩⟩) (fun hz => (hz j hj rfl).elim)⟩⟩)
        have h4 : i = 0 ∨ i = 1 ∨ i = 2 ∨ i = 3 := by omega
        rcases h4 with rfl | rfl | rfl | rfl
        · refine KC_of_K rfl (Nat.le_of_ble_eq_true rfl) rfl (k_0_fact_0 _ _ ⟨fun _ => ⟨hH, ?_⟩, fun z => absurd z (by decide), fun z => absurd z (by decide), fun z => absurd z (by decide), fun z => absurd (Or.inl rfl) z⟩)
          have fin : ∀ y, y = aI σ 19 j → K X 0 MX0_fact 44 [(0, vR (1000 + 8 * j)), (1, vI (nI 0))] [vI y] κ (kRI fun y13 κ15 => K X 10 MX11_body 32 [(0, vR 64), (1, vI (nI j)), (2, vI (nI 0)), (3, vR (1000 + 8 * j))] [vI y13] κ15 (kRI fun y κ' => AC X 92 10 MX13_body [vR 92, vI (nI j), vI (nI 0)] σ (aRI fun y' σ' => y = y' ∧ Rr (k + 1) κ' σ'))) := fun y hy => k_0_fact_44 _ _ _ ⟨_, rfl, k_11_body_32 _ _ _ _ ⟨_, rfl, rf _ ⟨fun _ => a_body_82 _ _ _ ⟨_, rfl, hy, hR⟩, fun z => absurd rfl z⟩⟩⟩
          rw [w1, litI 0, eq_nI (by omega) (by omega)]
          exact ⟨fun c => fin _ (by rw [u1, c]), fun c => fin _ (by rw [u1, show s = 1 by omega]; rfl)⟩
        · exact KC_of_K rfl (Nat.le_of_ble_eq_true rfl) rfl (k_0_fact_0 _ _ ⟨fun z => absurd z (by decide), fun _ => ⟨hH, _, rfl, k_11_body_32 _ _ _ _ ⟨_, rfl, rf _ ⟨fun z => absurd z (by decide), fun _ => ⟨fun _ => a_body_82 _ _ _ ⟨_, rfl, w2.trans u2.symm, hR⟩, fun z => absurd rfl z⟩⟩⟩⟩, fun z => absurd z (by decide), fun z => absurd z (by decide), fun z => absurd (Or.inr (Or.inl rfl)) z⟩)
        · exact KC_of_K rfl (Nat.le_of_ble_eq_true rfl) rfl (k_0_fact_0 _ _ ⟨fun z => absurd z (by decide), fun z => absurd z (by decide), fun _ => ⟨hH, _, rfl, k_11_body_32 _ _ _ _ ⟨_, rfl, rf _ ⟨fun z => absurd z (by decide), fun _ => ⟨fun z => absurd z (by decide), fun _ => ⟨fun _ => a_body_82 _ _ _ ⟨_, rfl, w3.trans u3.symm, hR⟩, fun z => absurd rfl z⟩⟩⟩⟩⟩, fun z => absurd z (by decide), fun z => absurd (Or.inr (Or.inr (Or.inl rfl))) z⟩)
        · exact KC_of_K rfl (Nat.le_of_ble_eq_true rfl) rfl (k_0_fact_0 _ _ ⟨fun z => absurd z (by decide), fun z => absurd z (by decide), fun z => absurd z (by decide), fun _ => ⟨hH, _, rfl, k_11_body_32 _ _ _ _ ⟨_, rfl, rf _ ⟨fun z => absurd z (by decide), fun _ => ⟨fun z => absurd z (by decide), fun _ => ⟨fun z => absurd z (by decide), fun _ => a_body_82 _ _ _ ⟨_, rfl, w4, hR⟩⟩⟩⟩⟩⟩, fun z => absurd (Or.inr (Or.inr (Or.inr rfl))) z⟩)
      · have cj' : ∀ i, i ≤ 3 → x1 ≠ nI i := fun i hi e => cj ⟨i, hi, e⟩
        exact KC_of_K rfl (Nat.le_of_ble_eq_true rfl) rfl (k_0_fact_0 _ _ ⟨fun z => absurd z (cj' 0 (by omega)), fun z => absurd z (cj' 1 (by omega)), fun z => absurd z (cj' 2 (by omega)), fun z => absurd z (cj' 3 (by omega)), fun _ => ⟨_, rfl, k_11_body_32 _ _ _ _ ⟨_, rfl, bad (Or.inr cj')⟩⟩⟩)
    · rcases hb with hb | hb
      · exact absurd e (hb j hj)
      · exact absurd e2 (hb i hi)
theorem answer_ok (h : Rr k κ σ) : P2I X MX11_answer MX13_answer [] κ σ (Rr (k + 1)) := by
  refine ⟨10, 10, by decide, by decide, ?_⟩
  rcases h.cases with ⟨p, hR⟩ | ⟨κ0, σ0, b, V, al, S, LT, HT, sp, F0, z, st, fr, pt, w, p0, p, dk, hb, hR⟩
  · exact KC_of_K rfl (Nat.le_of_ble_eq_true rfl) rfl (k_11_answer_0 ⟨fun _ => k_11_answer_19 _ ⟨_, rfl, AC_of_A rfl (Nat.le_of_ble_eq_true rfl) rfl (a_answer_0 ⟨fun _ => a_answer_16 _ ⟨_, rfl, rfl, hR⟩, fun z => absurd p.2.2.2.2 z⟩)⟩, fun z => absurd p.2.2.2.1 z⟩)
  · obtain ⟨-, -, -, h5, h46⟩ := p
    exact KC_of_K rfl (Nat.le_of_ble_eq_true rfl) rfl (k_11_answer_0 ⟨fun z => absurd (h5.symm.trans z) (by decide), fun _ => ⟨0, by omega, KC_of_K rfl (Nat.le_of_ble_eq_true rfl) rfl (k_6_given_0 ⟨_, rfl, k_11_answer_19 _ ⟨_, rfl, AC_of_A rfl (Nat.le_of_ble_eq_true rfl) rfl (a_answer_0 ⟨fun z => absurd (h46.symm.trans z) (by decide), fun _ => a_answer_16 _ ⟨_, rfl, dk.stg.2.2.2.2.1, hR⟩⟩)⟩⟩)⟩⟩)
theorem count_ok (h : Rr k κ σ) : P2I X MX11_count MX13_count [vI x0] κ σ (Rr (k + 1)) := by
  refine ⟨10, 10, by decide, by decide, ?_⟩
  rcases h.cases with ⟨p, hR⟩ | ⟨κ0, σ0, b, V, al, S, LT, HT, sp, F0, z, st, fr, pt, w, p0, p, dk, hb, hR⟩
  · exact KC_of_K rfl (Nat.le_of_ble_eq_true rfl) rfl (k_11_count_0 _ ⟨fun _ => ⟨_, rfl, AC_of_A rfl (Nat.le_of_ble_eq_true rfl) rfl (a_count_0 _ ⟨fun _ => ⟨_, rfl, rfl, hR⟩, fun z => absurd p.2.2.2.2 z⟩)⟩, fun z => absurd p.2.2.2.1 z⟩)
  · obtain ⟨-, -, -, h5, h46⟩ := p
    obtain ⟨s1, s2, s3, s4, s5, s6, s7, s8, s9, s10, s11, s12, s13, s14, s15⟩ := dk.stg
    obtain ⟨⟨t1, t2, t3, t4, t5⟩, tb⟩ := dk.bod
    have rf : ∀ F : Int32 → Rm → Prop, (x0 = 0 → F (sI σ 18) σ) → (x0 = 1 → F (sI σ 47) σ) → (x0 = 2 → F (sI σ 48) σ) → (x0 = 3 → F (sI σ 75) σ) → (x0 = 4 → F (sI σ 76) σ) → (¬ (x0 = 0 ∨ x0 = 1 ∨ x0 = 2 ∨ x0 = 3 ∨ x0 = 4) → F (-1) σ) → AC X 92 10 MX13_count [vR 92, vI x0] σ (aRI F) := fun F f0 f1 f2 f3 f4 f5 => by
      refine AC_of_A rfl (Nat.le_of_ble_eq_true rfl) rfl (a_count_0 _ ⟨fun z => absurd (h46.symm.trans z) (by decide), fun _ => ⟨fun z => ⟨_, rfl, f0 z⟩, fun z => ⟨_, rfl, f1 z⟩, fun z => ⟨_, rfl, f2 z⟩, fun z => ⟨_, rfl, f3 z⟩, fun z4 => ?_, fun z => ⟨_, rfl, f5 z⟩⟩⟩)
      have f4 := f4 z4
      rw [s7.2] at f4 ⊢
      have hz : z = 0 ∨ z = 1 := by omega
      rcases hz with rfl | rfl
      · exact ⟨fun _ => a_count_76 _ _ ⟨_, rfl, f4⟩, fun z => absurd rfl z⟩
      · exact ⟨fun z => absurd z (by decide), fun _ => a_count_76 _ _ ⟨_, rfl, f4⟩⟩
    refine KC_of_K rfl (Nat.le_of_ble_eq_true rfl) rfl (k_11_count_0 _ ⟨fun z => absurd (h5.symm.trans z) (by decide), fun _ => ⟨fun e => ⟨0, by omega, KC_of_K rfl (Nat.le_of_ble_eq_true rfl) rfl (k_7_size_0 ⟨_, rfl, _, rfl, ?_⟩)⟩, fun e => ⟨0, by omega, KC_of_K rfl (Nat.le_of_ble_eq_true rfl) rfl (k_6_made_0 ⟨_, rfl, _, rfl, ?_⟩)⟩, fun e => ⟨0, by omega, KC_of_K rfl (Nat.le_of_ble_eq_true rfl) rfl (k_6_alive_0 ⟨_, rfl, _, rfl, ?_⟩)⟩, fun e => ⟨0, by omega, KC_of_K rfl (Nat.le_of_ble_eq_true rfl) rfl (k_6_steps_0 ⟨_, rfl, _, rfl, ?_⟩)⟩, fun e => ⟨0, by omega, kc_isSpent s7.1 s15 ?_⟩, fun e => ⟨_, rfl, ?_⟩⟩⟩)
    · subst e
      exact rf _ (fun _ => ⟨t1.trans t2.symm, hR⟩) (fun z => absurd z (by decide)) (fun z => absurd z (by decide)) (fun z => absurd z (by decide)) (fun z => absurd z (by decide)) (fun z => absurd (Or.inl rfl) z)
    · subst e
      exact rf _ (fun z => absurd z (by decide)) (fun _ => ⟨s1.1.trans s1.2.symm, hR⟩) (fun z => absurd z (by decide)) (fun z => absurd z (by decide)) (fun z => absurd z (by decide)) (fun z => absurd (Or.inr (Or.inl rfl)) z)
    · subst e
      exact rf _ (fun z => absurd z (by decide)) (fun z => absurd z (by decide)) (fun _ => ⟨s2.1.trans s2.2.symm, hR⟩) (fun z => absurd z (by decide)) (fun z => absurd z (by decide)) (fun z => absurd (Or.inr (Or.inr (Or.inl rfl))) z)
    · subst e
      exact rf _ (fun z => absurd z (by decide)) (fun z => absurd z (by decide)) (fun z => absurd z (by decide)) (fun _ => ⟨s3.1.trans s3.2.symm, hR⟩) (fun z => absurd z (by decide)) (fun z => absurd (Or.inr (Or.inr (Or.inr (Or.inl rfl)))) z)
    · subst e
      have fin : ∀ y, y = nI z → AC X 92 10 MX13_count [vR 92, vI 4] σ (aRI fun y' σ' => y = y' ∧ Rr (k + 1) κ σ') := fun y hy => rf _ (fun z => absurd z (by decide)) (fun z => absurd z (by decide)) (fun z => absurd z (by decide)) (fun z => absurd z (by decide)) (fun _ => ⟨hy.trans s7.2.symm, hR⟩) (fun z => absurd (Or.inr (Or.inr (Or.inr (Or.inr rfl)))) z)
      have hz : z = 0 ∨ z = 1 := by omega
      rcases hz with rfl | rfl
      · exact ⟨fun _ => k_11_count_91 _ _ ⟨_, rfl, fin _ rfl⟩, fun z => absurd rfl z⟩
      · exact ⟨fun z => absurd z (by decide), fun _ => k_11_count_91 _ _ ⟨_, rfl, fin _ rfl⟩⟩
    · exact rf _ (fun z => absurd (Or.inl z) e) (fun z => absurd (Or.inr (Or.inl z)) e) (fun z => absurd (Or.inr (Or.inr (Or.inl z))) e) (fun z => absurd (Or.inr (Or.inr (Or.inr (Or.inl z)))) e) (fun z => absurd (Or.inr (Or.inr (Or.inr (Or.inr z)))) e) (fun _ => ⟨rfl, hR⟩)
theorem ring_ok (h : Rr k κ σ) : P2I X MX11_ring MX13_ring [vI x0] κ σ (Rr (k + 1)) := by
  refine ⟨10, 10, by decide, by decide, ?_⟩
  rcases h.cases with ⟨p, hR⟩ | ⟨κ0, σ0, b, V, al, S, LT, HT, sp, F0, z, st, fr, pt, w, p0, p, dk, hb, hR⟩
  · exact KC_of_K rfl (Nat.le_of_ble_eq_true rfl) rfl (k_11_ring_0 _ ⟨fun _ => k_11_ring_20 _ _ ⟨_, rfl, AC_of_A rfl (Nat.le_of_ble_eq_true rfl) rfl (a_ring_0 _ ⟨fun _ => a_ring_37 _ _ ⟨_, rfl, rfl, hR⟩, fun z => absurd p.2.2.2.2 z⟩)⟩, fun z => absurd p.2.2.2.1 z⟩)
  · obtain ⟨-, -, -, h5, h46⟩ := p
    obtain ⟨-, -, R, r0, r1, r2, r3, r4⟩ := (dk.bn (x := 0)).1.2.2.2.2.1
    have no : (∀ j, j < R → x0 ≠ nI j) → AC X 92 10 MX13_ring [vR 92, vI x0] σ (aRI fun y' σ' => (-9 : Int32) = y' ∧ Rr (k + 1) κ σ') := fun hn => AC_of_A rfl (Nat.le_of_ble_eq_true rfl) rfl (a_ring_0 _ ⟨fun z => absurd (h46.symm.trans z) (by decide), fun _ => ⟨0, by omega, ac_inC r2 (by omega) (fun j hj e => absurd e (hn j hj)) (fun _ => ⟨fun _ => a_ring_37 _ _ ⟨_, rfl, rfl, hR⟩, fun z => absurd rfl z⟩)⟩⟩)
    refine KC_of_K rfl (Nat.le_of_ble_eq_true rfl) rfl (k_11_ring_0 _ ⟨fun z => absurd (h5.symm.trans z) (by decide), fun _ => ⟨0, by omega, KC_of_K rfl (Nat.le_of_ble_eq_true rfl) rfl (k_6_inRing_0 _ ⟨fun c => ?_, fun c => ?_⟩)⟩⟩)
    · exact k_6_inRing_18 _ (k_6_inRing_29 _ _ ⟨_, rfl, k_11_ring_20 _ _ ⟨_, rfl, no (fun j hj e => nI_pos (by omega) (e ▸ c))⟩⟩)
    · obtain ⟨j, hj, rfl⟩ := nI_of c
      rw [r1, le_nI (by omega) hj, litI 12, lt_nI hj (by omega), vpn hj, cl_nI hj, r0]
      refine ⟨fun c1 => k_6_inRing_18 _ (k_6_inRing_29 _ _ ⟨_, rfl, k_11_ring_20 _ _ ⟨_, rfl, no (fun i hi e => by rw [eq_nI hj (by omega)] at e; omega)⟩⟩), fun c1 => ⟨fun c2 => ⟨c2, k_6_inRing_29 _ _ ⟨_, rfl, k_11_ring_20 _ _ ⟨_, rfl, ?_⟩⟩⟩, fun c2 => by omega⟩⟩
      refine AC_of_A rfl (Nat.le_of_ble_eq_true rfl) rfl (a_ring_0 _ ⟨fun z => absurd (h46.symm.trans z) (by decide), fun _ => ⟨0, by omega, ac_inC r2 (by omega) (fun j' hj' e => ⟨fun z => absurd z (by decide), fun _ => ?_⟩) (fun hz => (hz j (by omega) rfl).elim)⟩⟩)
      rw [vpn hj, cl_nI hj]
      exact ⟨by omega, a_ring_37 _ _ ⟨_, rfl, r4 j (by omega), hR⟩⟩
end ASKED
