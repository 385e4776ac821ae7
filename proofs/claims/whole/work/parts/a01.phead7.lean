/-! the head of a body, both -/
section HD7
variable {X : Cx} {N b P : Nat} {κ κ1 κ2 κ' : Km} {σ σ1 σ2 σ' : Rm}
/-- the reference, from the name on -/
theorem kw_ref {e s f : Nat} {x1 : Int32} {Q : Res → Rm → Prop} (pq : Pq κ σ N) (hlt : pC κ < N) (hs : (s = 1 ∧ x1 = 1 ∧ kI κ 72 7 = 200) ∨ (s = 0 ∧ x1 = 0 ∧ kI κ 72 7 = 201)) (hb : b < 12) (h18 : sI σ 18 = nI b) (he : 7 ≤ e) (h37 : sI σ 37 = -9 ∨ ∃ g, g < 3001 ∧ sI σ 37 = nI g) (h6 : aI σ 6 (pC κ + 1) = nI f) (hf : f < 3001)
    (q5 : kI (setC κ (pC κ + 1)) 72 7 = 5 → Q (.inr 93) (wI (wS σ 10 (nI (pC κ + 1))) 0 6 (kI (setC κ (pC κ + 1)) 72 8 + 8))) (q0 : kI (setC κ (pC κ + 1)) 72 7 ≠ 2 → kI (setC κ (pC κ + 1)) 72 7 ≠ 5 → Q (.inr 93) (wI (wS σ 10 (nI (pC κ + 1))) 0 6 (kI (setC κ (pC κ + 1)) 72 8)))
    (q2 : kI (setC κ (pC κ + 1)) 72 7 = 2 → ∀ x, (x = -9 ∨ ∃ g, g < 3001 ∧ x = nI g) → fN x = (if ∃ k, k < b ∧ aL σ 26 k = aL σ 9 (pC κ + 1) then min (fN (sI σ 37)) f else fN (sI σ 37)) → ∃ e8 : Nat, e8 + 1 ≤ e ∧ AC X 92 e8 MX13_isSign [vR 92, vI 40] (rw5 b (wS (wS σ 10 (nI (pC κ + 1))) 10 (nI (pC κ + 2))) s f x (aL σ 9 (pC κ + 1))) (aRI fun y11 s12 => ((y11 = 0 → (vp_in (sI s12 10) 3002) ∧ ∃ e15 : Nat, e15 + 1 ≤ e ∧ AC X 92 e15 MX13_fail [vR 92, vI (aI s12 6 ((sI s12 10) : Int32).toNatClampNeg)] s12 (aTV Q fun s18 => AB X e 185 x1 (nI (pC κ + 1)) (nI b) b s18 Q)) ∧ (¬ y11 = 0 → AB X e 185 x1 (nI (pC κ + 1)) (nI b) b s12 Q)))) : A X 92 e MX13_readBody 0 [(0, vR 92)] [] σ Q := by
  have hp := pq.p3
  obtain ⟨pn, l1, l2, l3, l4, l5, l6, l7, l8, l9, l10, l11⟩ := pq.next hlt
  have nx : nI s = x1 := by rcases hs with ⟨rfl, rfl, -⟩ | ⟨rfl, rfl, -⟩ <;> rfl
  have a81 : ∀ (hk : kI (setC κ (pC κ + 1)) 72 7 = 2) (y4 : Int32), y4 = x1 → A X 92 e MX13_readBody 81 [(0, vR 92), (1, vI y4), (2, vI (nI (pC κ + 1))), (3, vI (sI (wS (wS σ 10 (nI (pC κ + 1))) 10 (nI (pC κ + 2))) 18))] [vI x1, vI (sI (wS (wS σ 10 (nI (pC κ + 1))) 10 (nI (pC κ + 2))) 18), vR (92 + 14)] (wS (wS σ 10 (nI (pC κ + 1))) 10 (nI (pC κ + 2))) Q := by
    rintro hk y4 rfl
    have e18 : sI (wS (wS σ 10 (nI (pC κ + 1))) 10 (nI (pC κ + 2))) 18 = nI b := by rw [sI_ne (by decide), sI_ne (by decide)]; exact h18
    rw [e18]
    refine a_readBody_81 _ _ _ _ _ ?_
    rw [vpn (by omega), cl_nI (by omega)]
    refine ⟨by omega, ?_⟩
    rintro s2 rfl
    rw [vpn (by omega), cl_nI (by omega)]
    refine ⟨by omega, by omega, ?_⟩
    rw [aI_ne (by decide), aI_ne (by decide), aI_ne (by decide), h6]
    rintro s5 rfl
    rw [← nx]
    generalize hσ : wI (wI (wS (wS σ 10 (nI (pC κ + 1))) 10 (nI (pC κ + 2))) 19 b (nI s)) 22 b (nI f) = σs
    have g37 : sI σs 37 = sI σ 37 := by rw [← hσ, sI_ne (by decide), sI_ne (by decide), sI_ne (by decide), sI_ne (by decide)]
    have g18 : sI σs 18 = nI b := by rw [← hσ, sI_ne (by decide), sI_ne (by decide), sI_ne (by decide), sI_ne (by decide)]; exact h18
    have gL : aL σs = aL σ := by rw [← hσ]; rfl
    have g6 : aI σs 6 (pC κ + 1) = nI f := by rw [← hσ, aI_ne (by decide), aI_ne (by decide), aI_ne (by decide), aI_ne (by decide)]; exact h6
    have lp := dup_loop (X := X) (σ := σs) (b := b) (e := e) (t := pC κ + 1) (x1 := nI s) (Q := Q) (f := f) (by omega) hb g6 hf (by rw [g37]; exact h37) (by omega) (fun x hx hfx => ?_) b 0 (sI σs 37) (by omega) (by rw [g37]; exact h37) (by rw [if_neg (fun ⟨k, k1, _⟩ => absurd k1 (Nat.not_lt_zero _))])
    · rw [wS_self] at lp
      exact lp
    · rw [gL, g37] at hfx
      refine a_readBody_97 _ _ _ _ ?_
      rw [le_nI (by omega) (by omega)]
      refine ⟨fun _ => ?_, fun z => absurd (Nat.le_refl _) z⟩
      rw [vpn (by omega), vpn (by omega), cl_nI (by omega), cl_nI (by omega)]
      refine ⟨by omega, by omega, ?_⟩
      rintro s4 rfl
      have e18' : sI (wL (wS σs 37 x) 26 b (aL (wS σs 37 x) 9 (pC κ + 1))) 18 = nI b := by
        show sI (wS σs 37 x) 18 = _
        rw [sI_ne (by decide)]; exact g18
      rw [e18', nI_1]
      rintro s5 rfl s6 rfl s7 rfl
      have q := q2 hk x hx hfx
      unfold rw5 at q
      rw [hσ] at q
      rw [nx]
      have e9 : aL (wS σs 37 x) 9 (pC κ + 1) = aL σ 9 (pC κ + 1) := by
        show aL σs 9 (pC κ + 1) = _
        rw [gL]
      rw [e9]
      exact q
  have a40 : A X 92 e MX13_readBody 40 [(0, vR 92)] [] σ Q := by
    have tail : ∀ y4 : Int32, y4 = x1 → ∀ s6 : Rm, s6 = wS σ 10 ((sI σ 10) + 1) → ∃ e7 : Nat, e7 + 1 ≤ e ∧ AC X 92 e7 MX13_mustName [vR 92] s6 (aTI Q fun y10 s11 => ((y4 = 0 → A X 92 e MX13_readBody 81 [(0, vR 92), (1, vI y4), (2, vI y10), (3, vI (sI s11 18))] [vI 0, vI (sI s11 18), vR (92 + 14)] s11 Q) ∧ (¬ y4 = 0 → A X 92 e MX13_readBody 81 [(0, vR 92), (1, vI y4), (2, vI y10), (3, vI (sI s11 18))] [vI 1, vI (sI s11 18), vR (92 + 14)] s11 Q))) := by
      rintro y4 hy s6 rfl
      have e10 : wS σ 10 (sI σ 10 + 1) = wS σ 10 (nI (pC κ + 1)) := by rw [pq.2.2.2.2.1, nI_1]
      rw [e10]
      refine ⟨1, by omega, ac_mustNameQ pn (fun c => ?_) q5 q0⟩
      rw [l1]
      have a := a81 c y4 hy
      refine ⟨fun z => ?_, fun z => ?_⟩
      · rw [← hy, z] at a
        rw [z]
        exact a
      · have hx : x1 = 1 := by
          rcases hs with ⟨-, hx, -⟩ | ⟨-, hx, -⟩
          · exact hx
          · exact absurd (hy.trans hx) z
        rw [hx] at a
        exact a
    refine a_readBody_40 ⟨5, by omega, ac_isWordQ (w := 0) pq (by decide) (fun c => tail 1 ?_) (fun c => tail 0 ?_)⟩
    · rcases hs with ⟨-, hx, -⟩ | ⟨-, -, hk⟩
      · exact hx.symm
      · exact absurd (hk.symm.trans c) (by decide)
    · rcases hs with ⟨-, -, hk⟩ | ⟨-, hx, -⟩
      · exact absurd hk c
      · exact hx.symm
  refine a_readBody_0 ⟨fun z => ?_, fun _ => ⟨5, by omega, ac_isWordQ (w := 0) pq (by decide) (fun c => ⟨fun z => absurd z (by decide), fun _ => a40⟩) (fun c => ⟨fun _ => ⟨5, by omega, ac_isWordQ (w := 1) pq (by decide) (fun _ => ⟨fun z => absurd z (by decide), fun _ => a40⟩) (fun c1 => ?_)⟩, fun z => absurd rfl z⟩)⟩⟩
  · rw [h18, litI 12] at z
    have := (nI_eq (a := b) (b := 12) (by omega) (by omega)).mp z
    omega
  · rcases hs with ⟨-, -, hk⟩ | ⟨-, -, hk⟩
    · exact absurd hk c
    · exact absurd hk c1
end HD7
