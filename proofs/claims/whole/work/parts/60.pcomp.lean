/-! comparisons -/
theorem ce_spec {X : Cx} {N b P m : Nat} (hs : SpS X N b P m) : SpE X N b P m := by
  intro κ σ hp hb hm
  have ho := hp.2.2.2.2.2.2.2.2.1
  have sub := hs κ σ hp hb hm
  refine KC_of_K rfl (Nat.le_of_ble_eq_true rfl) rfl (k_5_readComparison_0 ⟨_, by simp only [dU]; omega, sub.k (fun κ1 σ1 hr ok => ⟨fun z => absurd z (by decide), fun _ => ?_⟩) (fun κ1 σ1 hr bad => ⟨fun _ => ?_, fun z => absurd rfl z⟩)⟩)
  · obtain ⟨e1, dE⟩ := ok
    have d1 := dE.2.2.2.2.2.2.2.2.1
    have hp3 := e1.1.p3
    obtain ⟨f, t, t1, t2, t3, t4, t5, t6, t7, t8⟩ := e1.1.tok
    have h10 := e1.1.2.2.2.2.1
    have two : ∀ (c : Int32) (k : Nat), c ≠ 0 → c ≠ 1 → kI κ1 72 7 = c → k < 7 → (∀ Q : Res → Rm → Prop, A X 92 (dU (oC κ) + 3) MX13_readE 42 [(0, vR 92)] [vI (nI (4 + k))] σ1 Q → A X 92 (dU (oC κ) + 3) MX13_readE 0 [(0, vR 92)] [] σ Q) → (∀ (κ2 : Km) (Q : Res → Km → Prop), K X (dU (oC κ) + 3) MX5_readComparison 63 [(0, vR 77), (1, vI c)] [vI (nI (8 + k)), vR 68] κ2 Q → ((c = 60 → K X (dU (oC κ) + 3) MX5_readComparison 63 [(0, vR 77), (1, vI c)] [vI 13, vR 68] κ2 Q) ∧ (¬ c = 60 → K X (dU (oC κ) + 3) MX5_readComparison 63 [(0, vR 77), (1, vI c)] [vI 14, vR 68] κ2 Q))) → K X (dU (oC κ) + 3) MX5_readComparison 30 [(0, vR 77), (1, vI c)] [] κ1 (fun r κ' => AC X 92 (dU (oC κ) + 3) MX13_readE [vR 92] σ (fun r' σ' => (r = .inl (some (vI 1)) ∧ r' = .inl none ∧ ES1 N b P (6 * oC κ + 0) 0 1 κ σ κ' σ' ∧ De κ σ κ' σ') ∨ (r = .inl (some (vI 0)) ∧ r' = .inr 93 ∧ Flt b κ σ (9010 + 4 * (24 - oC κ) + 2) κ' σ'))) := by
      intro c k h0 h1 hc hk ha hk2
      have hlt : pC κ1 < N := e1.1.lt (by rw [hc]; exact h0) (by rw [hc]; exact h1)
      obtain ⟨q1, q2, n1, n2, n3, n4, n5, n6, n7, n8, n9, n10, n11⟩ := e1.1.next hlt
      have hb1 : Bdd (setC κ1 (pC κ1 + 1)) (wS σ1 10 (nI (pC κ1 + 1))) := by
        obtain ⟨b1, b2, b3, b4, b5, b6, b7⟩ := hb
        obtain ⟨e1, e2, e3, e4, e5, e6, e7, e8, e9, e10, e11⟩ := dE
        unfold Bdd
        rw [n1, n2, n3, n4, n5, n6, n7, n8, n9]
        omega
      have sub2 := hs _ _ q1 hb1 (by rw [n1]; have := dE.1; omega)
      rw [n2, d1] at sub2
      have hi8 : i8 (nI (8 + k)) := by
        have h7 : ∀ k : Fin 7, i8 (nI (8 + k.1)) := by unfold i8; decide
        exact h7 ⟨k, hk⟩
      refine k_5_readComparison_30 _ ⟨0, by simp only [dU]; omega, kc_nextP e1.1 hlt ⟨_, by simp only [dU]; omega, sub2.k (fun κ2 σ2 hr2 ok => ⟨fun z => absurd z (by decide), fun _ => hk2 κ2 _ (k_5_readComparison_63 _ _ ?_)⟩) (fun κ2 σ2 hr2 bad => ⟨fun _ => ?_, fun z => absurd rfl z⟩)⟩⟩
      · obtain ⟨e2, dF⟩ := ok
        have hi2 : iC κ2 < 9900 ∧ rJ σ2 < 11990 ∧ pC κ2 ≤ 3000 := by
          obtain ⟨b1, b2, b3, b4, b5, b6, b7⟩ := hb1
          obtain ⟨f1, f2, f3, f4, f5, f6, f7, f8, f9, f10, f11⟩ := dF
          have := e2.1.p3
          omega
        refine ⟨2, by simp only [dU]; omega, e2.1.add hi2.1 hi8 (fun κ3 ad => ?_)⟩
        obtain ⟨e3, m1, m2, m3, m4, m5, m6, m7, m8, m9, m10, m11⟩ := bin_es (B := 6 * oC κ + 0) (y := 0) (z := 0) (e1.weak (by omega)) hlt (e2.weak (by omega)) hi2.1 hi2.2.1 (by omega) hk ad
        have dG : De κ σ κ3 (em σ2 (nI (4 + k)) 0 0) := by
          obtain ⟨e1, e2, e3, e4, e5, e6, e7, e8, e9, e10, e11⟩ := dE
          obtain ⟨f1, f2, f3, f4, f5, f6, f7, f8, f9, f10, f11⟩ := dF
          unfold De
          rw [m1, m2, m3, m4, m5, m6, m7, m8, m9, m10, m11]
          omega
        refine AC_of_A rfl (Nat.le_of_ble_eq_true rfl) rfl (ha _ (a_readE_42 _ ?_))
        rintro s1 rfl
        rw [wS_at e1.1]
        exact ⟨_, by simp only [dU]; omega, acr_ok hr2 ⟨0, by simp only [dU]; omega, ac_emit e2.1.2.2.2.2.2.2.2.2.2.2.2.1 (by omega) (a_readE_65 (Or.inl ⟨rfl, rfl, e3, dG⟩))⟩⟩
      · refine AC_of_A rfl (Nat.le_of_ble_eq_true rfl) rfl (ha _ (a_readE_42 _ ?_))
        rintro s1 rfl
        rw [wS_at e1.1]
        exact ⟨_, by simp only [dU]; omega, acr_bad hr2 (Or.inr ⟨rfl, rfl, (bad.pre (e1.2.1.trans q2)).weak (by omega)⟩)⟩
    refine ⟨fun c => ?_, fun c => ⟨fun c4 => ?_, fun c4 => ?_⟩⟩
    · rw [c]
      refine two 60 5 (by decide) (by decide) c (by omega) (fun Q hA => ?_) (fun κ2 Q hK => ⟨fun _ => hK, fun z => absurd rfl z⟩)
      exact a_readE_0 ⟨_, by simp only [dU]; omega, acr_ok hr ⟨0, by simp only [dU]; omega, ac_isSign e1.1 (by decide) (fun _ => ⟨fun z => absurd z (by decide), fun _ => a_readE_26 ⟨0, by simp only [dU]; omega, ac_isSign e1.1 (by decide) (fun _ => ⟨fun z => absurd z (by decide), fun _ => hA⟩) (fun z => absurd c z)⟩⟩) (fun z => absurd c z)⟩⟩
    · rw [c4]
      refine two 4 6 (by decide) (by decide) c4 (by omega) (fun Q hA => ?_) (fun κ2 Q hK => ⟨fun z => absurd z (by decide), fun _ => hK⟩)
      refine a_readE_0 ⟨_, by simp only [dU]; omega, acr_ok hr ⟨0, by simp only [dU]; omega, ac_isSign e1.1 (by decide) (fun z => absurd z c) (fun _ => ⟨fun _ => ?_, fun z => absurd rfl z⟩)⟩⟩
      rw [h10, vpn (by omega), cl_nI (by omega)]
      exact ⟨by omega, fun _ => a_readE_26 ⟨0, by simp only [dU]; omega, ac_isSign e1.1 (by decide) (fun z => absurd z c) (fun _ => ⟨fun _ => hA, fun z => absurd rfl z⟩)⟩, fun z => absurd (t7.same.mpr c4) z⟩
    · refine AC_of_A rfl (Nat.le_of_ble_eq_true rfl) rfl (a_readE_0 ⟨_, by simp only [dU]; omega, acr_ok hr ⟨0, by simp only [dU]; omega, ac_isSign e1.1 (by decide) (fun z => absurd z c) (fun _ => ⟨fun _ => ?_, fun z => absurd rfl z⟩)⟩⟩)
      rw [h10, vpn (by omega), cl_nI (by omega)]
      exact ⟨by omega, fun z => absurd (t7.same.mp z) c4, fun _ => a_readE_65 (Or.inl ⟨rfl, rfl, e1.weak (by omega), dE⟩)⟩
  · exact AC_of_A rfl (Nat.le_of_ble_eq_true rfl) rfl (a_readE_0 ⟨_, by simp only [dU]; omega, acr_bad hr (Or.inr ⟨rfl, rfl, bad⟩)⟩)
