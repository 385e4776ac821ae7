/-! products, sums, comparisons -/
theorem kc_isProductSign {X : Cx} {κ : Km} {F : Int32 → Km → Prop} {x : Int32} (q1 : x = 42 ∨ x = 47 ∨ x = 37 → F 1 κ) (q0 : x ≠ 42 → x ≠ 47 → x ≠ 37 → F 0 κ) : KC' X 0 MX5_isProductSign [vI x] κ (kRI F) :=
  KC_of_K rfl (Nat.le_of_ble_eq_true rfl) rfl (k_5_isProductSign_0 _ ⟨fun c => k_5_isProductSign_18 _ (k_5_isProductSign_23 _ _ ⟨Or.inr rfl, _, rfl, q1 (Or.inl c)⟩), fun c1 => ⟨fun c => k_5_isProductSign_18 _ (k_5_isProductSign_23 _ _ ⟨Or.inr rfl, _, rfl, q1 (Or.inr (Or.inl c))⟩), fun c2 => ⟨fun c => k_5_isProductSign_18 _ (k_5_isProductSign_23 _ _ ⟨Or.inr rfl, _, rfl, q1 (Or.inr (Or.inr c))⟩), fun c3 => k_5_isProductSign_23 _ _ ⟨Or.inl rfl, _, rfl, q0 c1 c2 c3⟩⟩⟩⟩)
theorem bS_of {n : Nat} (h : n = 40 ∨ n = 41 ∨ n = 123 ∨ n = 125 ∨ n = 44 ∨ n = 59 ∨ n = 61 ∨ n = 43 ∨ n = 45 ∨ n = 42 ∨ n = 47 ∨ n = 37 ∨ n = 60 ∨ n = 33) : bS (nI n) := by
  rcases h with h | h | h | h | h | h | h | h | h | h | h | h | h | h <;> subst h <;> decide
/-- what a loop of operands ends with -/
def LpQ (N b P B f : Nat) (κ0 : Km) (σ0 : Rm) (r : Res) (κ' : Km) (r' : Res) (σ' : Rm) : Prop := (r = .inl (some (vI 1)) ∧ r' = .inl none ∧ ES1 N b P B 0 1 κ0 σ0 κ' σ' ∧ De κ0 σ0 κ' σ') ∨ (r = .inl (some (vI 0)) ∧ r' = .inr 93 ∧ Flt b κ0 σ0 f κ' σ')

theorem tp_loop {X : Cx} {N b P m : Nat} {κ0 : Km} {σ0 : Rm} (hs : SpU X N b P m) (hP0 : Ps κ0 σ0 N b P) (hB0 : Bdd κ0 σ0) : ∀ (g : Nat) (κ : Km) (σ : Rm) (i : Nat), N - pC κ ≤ g → g ≤ m → i ≤ pC κ → ES1 N b P (6 * oC κ0 + 2) 0 1 κ0 σ0 κ σ → De κ0 σ0 κ σ → K X (dU (oC κ0) + 1) MX5_readProduct 7 [(0, vR 77), (1, vI 1), (2, vI (nI i))] [] κ (fun r κ' => A X 92 (dU (oC κ0) + 1) MX13_readT 4 [(0, vR 92)] [] σ (fun r' σ' => LpQ N b P (6 * oC κ0 + 2) (9010 + 4 * (24 - oC κ0) + 1) κ0 σ0 r κ' r' σ')) := by
  intro g
  induction g with
  | zero =>
    intro κ σ i hg hm hi es de
    have hp3 := es.1.p3
    have hpN : pC κ = N := by have := es.1.2.2.2.2.2.1; omega
    have ne : ∀ c : Int32, c ≠ 0 → c ≠ 1 → kI κ 72 7 ≠ c := fun c h0 h1 e => absurd (es.1.lt (by rw [e]; exact h0) (by rw [e]; exact h1)) (by omega)
    have fin : A X 92 (dU (oC κ0) + 1) MX13_readT 4 [(0, vR 92)] [] σ (fun r' σ' => LpQ N b P (6 * oC κ0 + 2) (9010 + 4 * (24 - oC κ0) + 1) κ0 σ0 (.inl (some (vI 1))) κ r' σ') := a_readT_4 ⟨0, by simp only [dU]; omega, ac_isSign es.1 (by decide) (fun z => absurd z (ne 42 (by decide) (by decide))) (fun _ => ⟨fun _ => ⟨0, by simp only [dU]; omega, ac_isSign es.1 (by decide) (fun z => absurd z (ne 47 (by decide) (by decide))) (fun _ => ⟨fun _ => ⟨0, by simp only [dU]; omega, ac_isSign es.1 (by decide) (fun z => absurd z (ne 37 (by decide) (by decide))) (fun _ => ⟨fun _ => Or.inl ⟨rfl, rfl, es, de⟩, fun z => absurd rfl z⟩)⟩, fun z => absurd rfl z⟩)⟩, fun z => absurd rfl z⟩)⟩
    exact k_5_readProduct_7 _ _ ⟨fun _ => k_5_readProduct_96 _ _ ⟨Or.inr rfl, fin⟩, fun _ => ⟨fun z => absurd z (by decide), fun _ => ⟨0, by simp only [dU]; omega, kc_isProductSign (fun z => by
      rcases z with z | z | z
      · exact absurd z (ne 42 (by decide) (by decide))
      · exact absurd z (ne 47 (by decide) (by decide))
      · exact absurd z (ne 37 (by decide) (by decide))) (fun _ _ _ => ⟨fun _ => k_5_readProduct_96 _ _ ⟨Or.inr rfl, fin⟩, fun z => absurd rfl z⟩)⟩⟩⟩
  | succ g ih =>
    intro κ σ i hg hm hi es de
    have hp3 := es.1.p3
    have d1 := de.2.2.2.2.2.2.2.2.1
    have hN0 := hP0.2.2.2.2.2.1
    have fin : (∀ c : Int32, (c = 42 ∨ c = 47 ∨ c = 37) → kI κ 72 7 ≠ c) → A X 92 (dU (oC κ0) + 1) MX13_readT 4 [(0, vR 92)] [] σ (fun r' σ' => LpQ N b P (6 * oC κ0 + 2) (9010 + 4 * (24 - oC κ0) + 1) κ0 σ0 (.inl (some (vI 1))) κ r' σ') := fun ne => a_readT_4 ⟨0, by simp only [dU]; omega, ac_isSign es.1 (by decide) (fun z => absurd z (ne 42 (by decide))) (fun _ => ⟨fun _ => ⟨0, by simp only [dU]; omega, ac_isSign es.1 (by decide) (fun z => absurd z (ne 47 (by decide))) (fun _ => ⟨fun _ => ⟨0, by simp only [dU]; omega, ac_isSign es.1 (by decide) (fun z => absurd z (ne 37 (by decide))) (fun _ => ⟨fun _ => Or.inl ⟨rfl, rfl, es, de⟩, fun z => absurd rfl z⟩)⟩, fun z => absurd rfl z⟩)⟩, fun z => absurd rfl z⟩)⟩
    have step : ∀ (c k : Nat), c < 126 → 6 < c → bS (nI c) → k < 7 → kI κ 72 7 = nI c → (∀ Q : Res → Rm → Prop, A X 92 (dU (oC κ0) + 1) MX13_readT 61 [(0, vR 92)] [vI (nI (4 + k))] σ Q → A X 92 (dU (oC κ0) + 1) MX13_readT 4 [(0, vR 92)] [] σ Q) → K X (dU (oC κ0) + 1) MX5_readProduct 67 [(0, vR 77), (1, vI 1), (2, vI (nI i))] [vI (nI (8 + k))] κ (fun r κ' => A X 92 (dU (oC κ0) + 1) MX13_readT 4 [(0, vR 92)] [] σ (fun r' σ' => LpQ N b P (6 * oC κ0 + 2) (9010 + 4 * (24 - oC κ0) + 1) κ0 σ0 r κ' r' σ')) := by
      intro c k c1 c2 cs hk hc ha
      have hlt : pC κ < N := es.1.lt (by rw [hc]; exact nI_ne (b := 0) (by omega) (by omega) (by omega)) (by rw [hc]; exact nI_ne (b := 1) (by omega) (by omega) (by omega))
      obtain ⟨q1, q2, n1, n2, n3, n4, n5, n6, n7, n8, n9, n10, n11⟩ := es.1.next hlt
      have hb1 : Bdd (setC κ (pC κ + 1)) (wS σ 10 (nI (pC κ + 1))) := by
        obtain ⟨b1, b2, b3, b4, b5, b6, b7⟩ := hB0
        obtain ⟨e1, e2, e3, e4, e5, e6, e7, e8, e9, e10, e11⟩ := de
        unfold Bdd
        rw [n1, n2, n3, n4, n5, n6, n7, n8, n9]
        omega
      have hi8 : i8 (nI (8 + k)) := by
        have h7 : ∀ k : Fin 7, i8 (nI (8 + k.1)) := by unfold i8; decide
        exact h7 ⟨k, hk⟩
      have sub := hs _ _ q1 hb1 (by rw [n1]; omega)
      rw [n2, d1] at sub
      refine k_5_readProduct_67 _ _ _ ⟨0, by omega, kc_nextP es.1 hlt ⟨_, by simp only [dU]; omega, sub.k (fun κ2 σ2 hr ok => ?_) (fun κ2 σ2 hr bad => ?_)⟩⟩
      · obtain ⟨e2, dE⟩ := ok
        have hi2 : iC κ2 < 9900 ∧ rJ σ2 < 11990 ∧ pC κ2 ≤ 3000 := by
          obtain ⟨b1, b2, b3, b4, b5, b6, b7⟩ := hb1
          obtain ⟨f1, f2, f3, f4, f5, f6, f7, f8, f9, f10, f11⟩ := dE
          have := e2.1.p3
          omega
        refine ⟨2, by simp only [dU]; omega, e2.1.add hi2.1 hi8 (fun κ3 ad => ?_)⟩
        have hB2 : 6 * oC κ0 + 2 + 2 ≤ 150 := by have := hP0.2.2.2.2.2.2.2.2.1; omega
        obtain ⟨e3, m1, m2, m3, m4, m5, m6, m7, m8, m9, m10, m11⟩ := bin_es (y := 0) (z := 0) es hlt (by exact e2.weak (by omega)) hi2.1 hi2.2.1 hB2 hk ad
        have dF : De κ0 σ0 κ3 (em σ2 (nI (4 + k)) 0 0) := by
          obtain ⟨e1, e2, e3, e4, e5, e6, e7, e8, e9, e10, e11⟩ := de
          obtain ⟨f1, f2, f3, f4, f5, f6, f7, f8, f9, f10, f11⟩ := dE
          unfold De
          rw [m1, m2, m3, m4, m5, m6, m7, m8, m9, m10, m11]
          omega
        have pp : pC κ + 1 < pC κ2 := by have := dE.1; omega
        have nxt := ih κ3 _ (i + 1) (by rw [m1]; omega) (by omega) (by rw [m1]; omega) e3 dF
        rw [nI_1]
        refine nxt.mono (fun r κ' hA => ha _ (a_readT_61 _ ?_))
        rintro s1 rfl
        rw [wS_at es.1]
        refine ⟨_, by simp only [dU]; omega, acr_ok hr ⟨0, by simp only [dU]; omega, ac_emit e2.1.2.2.2.2.2.2.2.2.2.2.2.1 (by omega) hA⟩⟩
      · refine ⟨2, by simp only [dU]; omega, bad.kadd (by omega) hi8 (fun κ3 ad => ?_)⟩
        have fl : Flt b κ0 σ0 (9010 + 4 * (24 - oC κ0) + 1) κ3 σ2 := ((bad.add hP0.1.2.2.2.1 (by omega) ad).weak (by omega)).pre (es.2.1.trans q2)
        refine k_5_readProduct_7 _ _ ⟨fun _ => ?_, fun _ => ⟨fun _ => ?_, fun z => absurd rfl z⟩⟩ <;>
        · refine k_5_readProduct_96 _ _ ⟨Or.inl rfl, ha _ (a_readT_61 _ ?_)⟩
          rintro s1 rfl
          rw [wS_at es.1]
          exact ⟨_, by simp only [dU]; omega, acr_bad hr (Or.inr ⟨rfl, rfl, fl⟩)⟩
    refine k_5_readProduct_7 _ _ ⟨fun z => absurd z (by rw [litI 3001]; exact nI_ge (by omega) (by omega)), fun _ => ⟨fun z => absurd z (by decide), fun _ => ⟨0, by simp only [dU]; omega, kc_isProductSign (fun z => ⟨fun z => absurd z (by decide), fun _ => ⟨fun c => step 42 2 (by omega) (by omega) (by decide) (by omega) c (fun Q hA => a_readT_4 ⟨0, by simp only [dU]; omega, ac_isSign es.1 (by decide) (fun _ => ⟨fun z => absurd z (by decide), fun _ => a_readT_31 ⟨0, by simp only [dU]; omega, ac_isSign es.1 (by decide) (fun _ => ⟨fun z => absurd z (by decide), fun _ => hA⟩) (fun z => absurd c z)⟩⟩) (fun z => absurd c z)⟩), fun c42 => ⟨fun c => step 47 3 (by omega) (by omega) (by decide) (by omega) c (fun Q hA => a_readT_4 ⟨0, by simp only [dU]; omega, ac_isSign es.1 (by decide) (fun z => absurd z c42) (fun _ => ⟨fun _ => ⟨0, by simp only [dU]; omega, ac_isSign es.1 (by decide) (fun _ => ⟨fun z => absurd z (by decide), fun _ => a_readT_31 ⟨0, by simp only [dU]; omega, ac_isSign es.1 (by decide) (fun z => absurd z c42) (fun _ => ⟨fun _ => ⟨0, by simp only [dU]; omega, ac_isSign es.1 (by decide) (fun _ => ⟨fun z => absurd z (by decide), fun _ => hA⟩) (fun z => absurd c z)⟩, fun z => absurd rfl z⟩)⟩⟩) (fun z => absurd c z)⟩, fun z => absurd rfl z⟩)⟩), fun c47 => ?_⟩⟩⟩) (fun c1 c2 c3 => ⟨fun _ => k_5_readProduct_96 _ _ ⟨Or.inr rfl, fin (fun c hc => by rcases hc with h | h | h <;> rw [h] <;> assumption)⟩, fun z => absurd rfl z⟩)⟩⟩⟩
    have c : kI κ 72 7 = 37 := by
      rcases z with z | z | z
      · exact absurd z c42
      · exact absurd z c47
      · exact z
    exact step 37 4 (by omega) (by omega) (by decide) (by omega) c (fun Q hA => a_readT_4 ⟨0, by simp only [dU]; omega, ac_isSign es.1 (by decide) (fun z => absurd z c42) (fun _ => ⟨fun _ => ⟨0, by simp only [dU]; omega, ac_isSign es.1 (by decide) (fun z => absurd z c47) (fun _ => ⟨fun _ => ⟨0, by simp only [dU]; omega, ac_isSign es.1 (by decide) (fun _ => ⟨fun z => absurd z (by decide), fun _ => a_readT_31 ⟨0, by simp only [dU]; omega, ac_isSign es.1 (by decide) (fun z => absurd z c42) (fun _ => ⟨fun _ => ⟨0, by simp only [dU]; omega, ac_isSign es.1 (by decide) (fun z => absurd z c47) (fun _ => ⟨fun _ => hA, fun z => absurd rfl z⟩)⟩, fun z => absurd rfl z⟩)⟩⟩) (fun z => absurd c z)⟩, fun z => absurd rfl z⟩)⟩, fun z => absurd rfl z⟩)⟩)

theorem sm_loop {X : Cx} {N b P m : Nat} {κ0 : Km} {σ0 : Rm} (hs : SpT X N b P m) (hP0 : Ps κ0 σ0 N b P) (hB0 : Bdd κ0 σ0) : ∀ (g : Nat) (κ : Km) (σ : Rm) (i : Nat), N - pC κ ≤ g → g ≤ m → i ≤ pC κ → ES1 N b P (6 * oC κ0 + 1) 0 1 κ0 σ0 κ σ → De κ0 σ0 κ σ → K X (dU (oC κ0) + 2) MX5_readSum 7 [(0, vR 77), (1, vI 1), (2, vI (nI i))] [] κ (fun r κ' => A X 92 (dU (oC κ0) + 2) MX13_readS 4 [(0, vR 92)] [] σ (fun r' σ' => LpQ N b P (6 * oC κ0 + 1) (9010 + 4 * (24 - oC κ0) + 2) κ0 σ0 r κ' r' σ')) := by
  intro g
  induction g with
  | zero =>
    intro κ σ i hg hm hi es de
    have hp3 := es.1.p3
    have hpN : pC κ = N := by have := es.1.2.2.2.2.2.1; omega
    have ne : ∀ c : Int32, c ≠ 0 → c ≠ 1 → kI κ 72 7 ≠ c := fun c h0 h1 e => absurd (es.1.lt (by rw [e]; exact h0) (by rw [e]; exact h1)) (by omega)
    have fin : A X 92 (dU (oC κ0) + 2) MX13_readS 4 [(0, vR 92)] [] σ (fun r' σ' => LpQ N b P (6 * oC κ0 + 1) (9010 + 4 * (24 - oC κ0) + 2) κ0 σ0 (.inl (some (vI 1))) κ r' σ') := a_readS_4 ⟨0, by simp only [dU]; omega, ac_isSign es.1 (by decide) (fun z => absurd z (ne 43 (by decide) (by decide))) (fun _ => ⟨fun _ => ⟨0, by simp only [dU]; omega, ac_isSign es.1 (by decide) (fun z => absurd z (ne 45 (by decide) (by decide))) (fun _ => ⟨fun _ => Or.inl ⟨rfl, rfl, es, de⟩, fun z => absurd rfl z⟩)⟩, fun z => absurd rfl z⟩)⟩
    exact k_5_readSum_7 _ _ ⟨fun _ => k_5_readSum_90 _ _ ⟨Or.inr rfl, fin⟩, fun _ => ⟨fun z => absurd z (by decide), fun _ => ⟨fun z => absurd z (ne 43 (by decide) (by decide)), fun _ => ⟨fun z => absurd z (ne 45 (by decide) (by decide)), fun _ => k_5_readSum_90 _ _ ⟨Or.inr rfl, fin⟩⟩⟩⟩⟩
  | succ g ih =>
    intro κ σ i hg hm hi es de
    have hp3 := es.1.p3
    have d1 := de.2.2.2.2.2.2.2.2.1
    have hN0 := hP0.2.2.2.2.2.1
    have fin : (∀ c : Int32, (c = 43 ∨ c = 45) → kI κ 72 7 ≠ c) → A X 92 (dU (oC κ0) + 2) MX13_readS 4 [(0, vR 92)] [] σ (fun r' σ' => LpQ N b P (6 * oC κ0 + 1) (9010 + 4 * (24 - oC κ0) + 2) κ0 σ0 (.inl (some (vI 1))) κ r' σ') := fun ne => a_readS_4 ⟨0, by simp only [dU]; omega, ac_isSign es.1 (by decide) (fun z => absurd z (ne 43 (by decide))) (fun _ => ⟨fun _ => ⟨0, by simp only [dU]; omega, ac_isSign es.1 (by decide) (fun z => absurd z (ne 45 (by decide))) (fun _ => ⟨fun _ => Or.inl ⟨rfl, rfl, es, de⟩, fun z => absurd rfl z⟩)⟩, fun z => absurd rfl z⟩)⟩
    have step : ∀ (c k : Nat), c < 126 → 6 < c → bS (nI c) → k < 7 → kI κ 72 7 = nI c → (∀ Q : Res → Rm → Prop, A X 92 (dU (oC κ0) + 2) MX13_readS 36 [(0, vR 92)] [vI (nI (4 + k))] σ Q → A X 92 (dU (oC κ0) + 2) MX13_readS 4 [(0, vR 92)] [] σ Q) → K X (dU (oC κ0) + 2) MX5_readSum 61 [(0, vR 77), (1, vI 1), (2, vI (nI i))] [vI (nI (8 + k))] κ (fun r κ' => A X 92 (dU (oC κ0) + 2) MX13_readS 4 [(0, vR 92)] [] σ (fun r' σ' => LpQ N b P (6 * oC κ0 + 1) (9010 + 4 * (24 - oC κ0) + 2) κ0 σ0 r κ' r' σ')) := by
      intro c k c1 c2 cs hk hc ha
      have hlt : pC κ < N := es.1.lt (by rw [hc]; exact nI_ne (b := 0) (by omega) (by omega) (by omega)) (by rw [hc]; exact nI_ne (b := 1) (by omega) (by omega) (by omega))
      obtain ⟨q1, q2, n1, n2, n3, n4, n5, n6, n7, n8, n9, n10, n11⟩ := es.1.next hlt
      have hb1 : Bdd (setC κ (pC κ + 1)) (wS σ 10 (nI (pC κ + 1))) := by
        obtain ⟨b1, b2, b3, b4, b5, b6, b7⟩ := hB0
        obtain ⟨e1, e2, e3, e4, e5, e6, e7, e8, e9, e10, e11⟩ := de
        unfold Bdd
        rw [n1, n2, n3, n4, n5, n6, n7, n8, n9]
        omega
      have hi8 : i8 (nI (8 + k)) := by
        have h7 : ∀ k : Fin 7, i8 (nI (8 + k.1)) := by unfold i8; decide
        exact h7 ⟨k, hk⟩
      have sub := hs _ _ q1 hb1 (by rw [n1]; omega)
      rw [n2, d1] at sub
      refine k_5_readSum_61 _ _ _ ⟨0, by omega, kc_nextP es.1 hlt ⟨_, by simp only [dU]; omega, sub.k (fun κ2 σ2 hr ok => ?_) (fun κ2 σ2 hr bad => ?_)⟩⟩
      · obtain ⟨e2, dE⟩ := ok
        have hi2 : iC κ2 < 9900 ∧ rJ σ2 < 11990 ∧ pC κ2 ≤ 3000 := by
          obtain ⟨b1, b2, b3, b4, b5, b6, b7⟩ := hb1
          obtain ⟨f1, f2, f3, f4, f5, f6, f7, f8, f9, f10, f11⟩ := dE
          have := e2.1.p3
          omega
        refine ⟨2, by simp only [dU]; omega, e2.1.add hi2.1 hi8 (fun κ3 ad => ?_)⟩
        have hB2 : 6 * oC κ0 + 1 + 2 ≤ 150 := by have := hP0.2.2.2.2.2.2.2.2.1; omega
        obtain ⟨e3, m1, m2, m3, m4, m5, m6, m7, m8, m9, m10, m11⟩ := bin_es (y := 0) (z := 0) es hlt (by exact e2.weak (by omega)) hi2.1 hi2.2.1 hB2 hk ad
        have dF : De κ0 σ0 κ3 (em σ2 (nI (4 + k)) 0 0) := by
          obtain ⟨e1, e2, e3, e4, e5, e6, e7, e8, e9, e10, e11⟩ := de
          obtain ⟨f1, f2, f3, f4, f5, f6, f7, f8, f9, f10, f11⟩ := dE
          unfold De
          rw [m1, m2, m3, m4, m5, m6, m7, m8, m9, m10, m11]
          omega
        have pp : pC κ + 1 < pC κ2 := by have := dE.1; omega
        have nxt := ih κ3 _ (i + 1) (by rw [m1]; omega) (by omega) (by rw [m1]; omega) e3 dF
        rw [nI_1]
        refine nxt.mono (fun r κ' hA => ha _ (a_readS_36 _ ?_))
        rintro s1 rfl
        rw [wS_at es.1]
        refine ⟨_, by simp only [dU]; omega, acr_ok hr ⟨0, by simp only [dU]; omega, ac_emit e2.1.2.2.2.2.2.2.2.2.2.2.2.1 (by omega) hA⟩⟩
      · refine ⟨2, by simp only [dU]; omega, bad.kadd (by omega) hi8 (fun κ3 ad => ?_)⟩
        have fl : Flt b κ0 σ0 (9010 + 4 * (24 - oC κ0) + 2) κ3 σ2 := ((bad.add hP0.1.2.2.2.1 (by omega) ad).weak (by omega)).pre (es.2.1.trans q2)
        refine k_5_readSum_7 _ _ ⟨fun _ => ?_, fun _ => ⟨fun _ => ?_, fun z => absurd rfl z⟩⟩ <;>
        · refine k_5_readSum_90 _ _ ⟨Or.inl rfl, ha _ (a_readS_36 _ ?_)⟩
          rintro s1 rfl
          rw [wS_at es.1]
          exact ⟨_, by simp only [dU]; omega, acr_bad hr (Or.inr ⟨rfl, rfl, fl⟩)⟩
    exact k_5_readSum_7 _ _ ⟨fun z => absurd z (by rw [litI 3001]; exact nI_ge (by omega) (by omega)), fun _ => ⟨fun z => absurd z (by decide), fun _ => ⟨fun c => k_5_readSum_42 _ _ ⟨fun _ => step 43 0 (by omega) (by omega) (by decide) (by omega) c (fun Q hA => a_readS_4 ⟨0, by simp only [dU]; omega, ac_isSign es.1 (by decide) (fun _ => ⟨fun z => absurd z (by decide), fun _ => a_readS_22 ⟨0, by simp only [dU]; omega, ac_isSign es.1 (by decide) (fun _ => ⟨fun z => absurd z (by decide), fun _ => hA⟩) (fun z => absurd c z)⟩⟩) (fun z => absurd c z)⟩), fun z => absurd c z⟩, fun c43 => ⟨fun c => k_5_readSum_42 _ _ ⟨fun z => absurd z c43, fun _ => step 45 1 (by omega) (by omega) (by decide) (by omega) c (fun Q hA => a_readS_4 ⟨0, by simp only [dU]; omega, ac_isSign es.1 (by decide) (fun z => absurd z c43) (fun _ => ⟨fun _ => ⟨0, by simp only [dU]; omega, ac_isSign es.1 (by decide) (fun _ => ⟨fun z => absurd z (by decide), fun _ => a_readS_22 ⟨0, by simp only [dU]; omega, ac_isSign es.1 (by decide) (fun z => absurd z c43) (fun _ => ⟨fun _ => hA, fun z => absurd rfl z⟩)⟩⟩) (fun z => absurd c z)⟩, fun z => absurd rfl z⟩)⟩)⟩, fun c45 => k_5_readSum_90 _ _ ⟨Or.inr rfl, fin (fun c hc => by rcases hc with h | h <;> rw [h] <;> assumption)⟩⟩⟩⟩⟩

theorem tp_spec {X : Cx} {N b P m : Nat} (hs : SpU X N b P m) : SpX X N b P MX5_readProduct MX13_readT 2 1 m := by
  intro κ σ hp hb hm
  have sub := hs κ σ hp hb hm
  refine KC_of_K rfl (Nat.le_of_ble_eq_true rfl) rfl (k_5_readProduct_0 ⟨_, by simp only [dU]; omega, sub.k (fun κ1 σ1 hr ok => ?_) (fun κ1 σ1 hr bad => ?_)⟩)
  · obtain ⟨e1, dE⟩ := ok
    refine (tp_loop hs hp hb (N - pC κ1) κ1 σ1 0 (Nat.le_refl _) (by have := dE.1; omega) (by omega) (e1.weak (by omega)) dE).mono (fun r κ' hA => ?_)
    exact AC_of_A rfl (Nat.le_of_ble_eq_true rfl) rfl (a_readT_0 ⟨_, by simp only [dU]; omega, acr_ok hr hA⟩)
  · have fin : AC X 92 (dU (oC κ) + 1) MX13_readT [vR 92] σ (fun r' σ' => (Sum.inl (some (vI 0)) = (Sum.inl (some (vI 1)) : Res) ∧ r' = .inl none ∧ ES1 N b P (6 * oC κ + 2) 0 1 κ σ κ1 σ' ∧ De κ σ κ1 σ') ∨ (Sum.inl (some (vI 0)) = (Sum.inl (some (vI 0)) : Res) ∧ r' = .inr 93 ∧ Flt b κ σ (9010 + 4 * (24 - oC κ) + 1) κ1 σ')) := AC_of_A rfl (Nat.le_of_ble_eq_true rfl) rfl (a_readT_0 ⟨_, by simp only [dU]; omega, acr_bad hr (Or.inr ⟨rfl, rfl, bad.weak (by omega)⟩)⟩)
    exact k_5_readProduct_7 _ _ ⟨fun _ => k_5_readProduct_96 _ _ ⟨Or.inl rfl, fin⟩, fun _ => ⟨fun _ => k_5_readProduct_96 _ _ ⟨Or.inl rfl, fin⟩, fun z => absurd rfl z⟩⟩

theorem sm_spec {X : Cx} {N b P m : Nat} (hs : SpT X N b P m) : SpX X N b P MX5_readSum MX13_readS 1 2 m := by
  intro κ σ hp hb hm
  have sub := hs κ σ hp hb hm
  refine KC_of_K rfl (Nat.le_of_ble_eq_true rfl) rfl (k_5_readSum_0 ⟨_, by simp only [dU]; omega, sub.k (fun κ1 σ1 hr ok => ?_) (fun κ1 σ1 hr bad => ?_)⟩)
  · obtain ⟨e1, dE⟩ := ok
    refine (sm_loop hs hp hb (N - pC κ1) κ1 σ1 0 (Nat.le_refl _) (by have := dE.1; omega) (by omega) (e1.weak (by omega)) dE).mono (fun r κ' hA => ?_)
    exact AC_of_A rfl (Nat.le_of_ble_eq_true rfl) rfl (a_readS_0 ⟨_, by simp only [dU]; omega, acr_ok hr hA⟩)
  · have fin : AC X 92 (dU (oC κ) + 2) MX13_readS [vR 92] σ (fun r' σ' => (Sum.inl (some (vI 0)) = (Sum.inl (some (vI 1)) : Res) ∧ r' = .inl none ∧ ES1 N b P (6 * oC κ + 1) 0 1 κ σ κ1 σ' ∧ De κ σ κ1 σ') ∨ (Sum.inl (some (vI 0)) = (Sum.inl (some (vI 0)) : Res) ∧ r' = .inr 93 ∧ Flt b κ σ (9010 + 4 * (24 - oC κ) + 2) κ1 σ')) := AC_of_A rfl (Nat.le_of_ble_eq_true rfl) rfl (a_readS_0 ⟨_, by simp only [dU]; omega, acr_bad hr (Or.inr ⟨rfl, rfl, bad.weak (by omega)⟩)⟩)
    exact k_5_readSum_7 _ _ ⟨fun _ => k_5_readSum_90 _ _ ⟨Or.inl rfl, fin⟩, fun _ => ⟨fun _ => k_5_readSum_90 _ _ ⟨Or.inl rfl, fin⟩, fun z => absurd rfl z⟩⟩
