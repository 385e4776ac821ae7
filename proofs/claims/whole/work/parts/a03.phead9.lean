/-! the head of a body, whatever stands there -/
section HD9
variable {X : Cx} {N b P : Nat} {κ κ' : Km} {σ σ' : Rm}
theorem hd_core {d : Nat} {F : Int32 → Km → Prop} (bt : BT κ σ N b P) (hd : 6 ≤ d)
    (q1 : ∀ κ' σ' n s, s ≤ 1 → (n ≤ 4 ∧ (s = 1 → n ≤ 1)) → HB N b P n s κ σ κ' σ' → (∀ (e : Nat) (Q : Res → Rm → Prop), 7 ≤ e → RBd X e (nI s) (nI (pC κ + 1)) b n σ' Q → A X 92 e MX13_readBody 0 [(0, vR 92)] [] σ Q) → b < 12 → F 1 κ') (q0 : ∀ κ' σ', FltH b κ σ κ' σ' → (∀ (e : Nat) (Q : Res → Rm → Prop), 7 ≤ e → Q (.inr 93) σ' → A X 92 e MX13_readBody 0 [(0, vR 92)] [] σ Q) → F 0 κ') : KC' X d MX5_readHead [vR 77] κ (kRI F) := by
  have bt' := bt
  obtain ⟨pq, ho, hb12, hbk, hB12, h67, h18, hw, -, -⟩ := bt
  have hp := pq.p3
  obtain ⟨f, t, t1, t2, t3, t4, t5, t6, -⟩ := pq.tok
  obtain ⟨b1, b2, b3, b4, b5, b6, b7, b8, b9, b10, b11, b12, b13, b14, b15, b16, b17⟩ := pq.2
  have flt : FltH b κ σ (cI (cC κ 0) 77 5 (kI κ 72 8)) (wI σ 0 6 (kI κ 72 8)) := by
    rw [t1]
    have nn : NN (wI σ 0 6 (nI f)) := by
      unfold NN rK rE rU
      rw [sI_ne (by decide), sI_ne (by decide), sI_ne (by decide)]
      exact ⟨b16, b17, b14⟩
    refine ⟨⟨f, by omega, kI_eq, aI_eq, nn⟩, ⟨fun h hh => ⟨?_, rfl, rfl⟩, rfl, RG.cC.trans RG.cI, Nat.le_refl _, hB12, ?_, hw⟩, AF.wI (Or.inl rfl)⟩
    · rw [kI_ne (fun z => hh (by unfold hB; omega))]; rfl
    · rw [kI_ne (by decide)]; rfl
  have a27 : ∀ (e : Nat) (Q : Res → Rm → Prop), 7 ≤ e → Q (.inr 93) (wI σ 0 6 (kI κ 72 8)) → A X 92 e MX13_readBody 27 [(0, vR 92)] [] σ Q := fun e Q he hq => a_readBody_27 (by
    rw [b4, vpn (by omega), cl_nI (by omega), t2, ← t1]
    exact ⟨by omega, 0, by omega, ac_failT hq⟩)
  have null : (∀ (e : Nat) (Q : Res → Rm → Prop), 7 ≤ e → Q (.inr 93) (wI σ 0 6 (kI κ 72 8)) → A X 92 e MX13_readBody 0 [(0, vR 92)] [] σ Q) → ∀ x1, K X d MX5_readHead 48 [(0, vR 77), (1, vI x1)] [vR 0, vR 77] κ (kRI F) := fun r x1 => by
    refine k_5_readHead_48 _ _ ⟨Or.inl rfl, ?_⟩
    rintro κ2 rfl
    exact ⟨Or.inl rfl, fun _ => ⟨0, by omega, kc_refuse ⟨Or.inl rfl, _, rfl, q0 _ _ flt r⟩⟩, fun z => absurd rfl z⟩
  have r12 : b = 12 → ∀ (e : Nat) (Q : Res → Rm → Prop), 7 ≤ e → Q (.inr 93) (wI σ 0 6 (kI κ 72 8)) → A X 92 e MX13_readBody 0 [(0, vR 92)] [] σ Q := fun hb e Q he hq => a_readBody_0 ⟨fun _ => a27 e Q he hq, fun z => absurd (by rw [h18, hb]; rfl) z⟩
  have kw : ∀ (x1 : Int32) (s : Nat), ((s = 1 ∧ x1 = 1 ∧ kI κ 72 7 = 200) ∨ (s = 0 ∧ x1 = 0 ∧ kI κ 72 7 = 201)) → K X d MX5_readHead 37 [(0, vR 77), (1, vI x1)] [vR 77] κ (kRI F) := fun x1 s hs => by
    by_cases c : b = 12
    · exact k_5_readHead_37 _ ⟨2, by omega, kc_Story_add h67 hb12 hbk (fun _ => null (r12 c) x1) (fun _ z => absurd z (by omega)) (fun _ z => absurd z (by omega))⟩
    · have nx : nI s = x1 := by rcases hs with ⟨rfl, rfl, -⟩ | ⟨rfl, rfl, -⟩ <;> rfl
      exact kw_core bt' (by omega) hs hd (fun κ' σ' n hn hb path => q1 κ' σ' n s (by omega) ⟨hn.1, fun z => hn.2 (by rw [← nx, z]; decide)⟩ hb (by rw [nx]; exact path) (by omega)) q0
  refine KC_of_K rfl (Nat.le_of_ble_eq_true rfl) rfl (k_5_readHead_0 ⟨fun c => k_5_readHead_18 _ ⟨fun z => absurd z (by decide), fun _ => kw 1 1 (Or.inl ⟨rfl, rfl, c⟩)⟩, fun c => k_5_readHead_18 _ ⟨fun _ => ⟨fun c1 => kw 0 0 (Or.inr ⟨rfl, rfl, c1⟩), fun c1 => null (fun e Q he hq => ?_) 0⟩, fun z => absurd rfl z⟩⟩)
  refine a_readBody_0 ⟨fun _ => a27 e Q he hq, fun _ => ⟨5, by omega, ac_isWordQ (w := 0) pq (by decide) (fun z => absurd z c) (fun _ => ⟨fun _ => ⟨5, by omega, ac_isWordQ (w := 1) pq (by decide) (fun z => absurd z c1) (fun _ => ⟨fun _ => a27 e Q he hq, fun z => absurd rfl z⟩)⟩, fun z => absurd rfl z⟩)⟩⟩
end HD9
