/-! the arguments of a body, both -/
section HD2
variable {X : Cx} {N b P : Nat} {κ κ0 κ' : Km} {σ σ0 σ' : Rm} {x1 y2 y3 : Int32} {Gl : Nat → (Res → Rm → Prop) → Prop}
/-- the reference's readBody stands at a place, with n arguments -/
abbrev AB (X : Cx) (e pc : Nat) (x1 y2 y3 : Int32) (n : Nat) (s : Rm) (Q : Res → Rm → Prop) : Prop := A X 92 e MX13_readBody pc [(0, vR 92), (1, vI x1), (2, vI y2), (3, vI y3), (4, vI (nI n))] [] s Q
theorem nI_le0 {n : Nat} (h : n < 2147483648) : (nI n ≤ 0) = (n = 0) := by
  rw [litI 0, le_nI h (by decide)]
  exact propext ⟨fun z => by omega, fun z => by omega⟩
/-- no name stands here -/
theorem r_no {e n : Nat} {Q : Res → Rm → Prop} (h : Ps κ σ N b P) (n2 : kI κ 72 7 ≠ 2) (n5 : kI κ 72 7 ≠ 5) (he : 7 ≤ e) (hn : n < 10) (h0 : n = 0 → AB X e 327 x1 y2 y3 n σ Q) (h1 : 1 ≤ n → (kI κ 72 7 = 41 → AB X e 327 x1 y2 y3 n σ Q) ∧ (kI κ 72 7 ≠ 41 → AB X e 219 x1 y2 y3 n σ Q)) : AB X e 192 x1 y2 y3 n σ Q := by
  obtain ⟨f, t, t1, t2, t3, t4, t5, t6, t7, t8⟩ := h.tok
  have hp := h.p3
  refine a_readBody_192 _ _ _ _ ?_
  rw [h.2.2.2.2.1, vpn (by omega), cl_nI (by omega), nI_le0 (by omega)]
  refine ⟨by omega, fun z => ?_, fun _ => ⟨h0, fun c => ⟨0, by omega, ac_isSign h (by decide) (fun z => ⟨fun w => absurd w (by decide), fun _ => (h1 (by omega)).1 z⟩) (fun z => ⟨fun _ => (h1 (by omega)).2 z, fun w => absurd rfl w⟩)⟩⟩⟩
  rcases t7.name with ⟨c, -⟩ | ⟨c, -⟩ | ⟨-, -, c⟩
  · exact absurd c n2
  · exact absurd c n5
  · exact absurd z c
/-- a name stands here -/
theorem r_yes {e n : Nat} {Q : Res → Rm → Prop} (h : Ps κ σ N b P) (n2 : kI κ 72 7 = 2 ∨ kI κ 72 7 = 5) (hA : AB X e 219 x1 y2 y3 n σ Q) : AB X e 192 x1 y2 y3 n σ Q := by
  obtain ⟨f, t, t1, t2, t3, t4, t5, t6, t7, t8⟩ := h.tok
  have hp := h.p3
  refine a_readBody_192 _ _ _ _ ?_
  rw [h.2.2.2.2.1, vpn (by omega), cl_nI (by omega)]
  refine ⟨by omega, fun _ => hA, fun z => ?_⟩
  rcases t7.name with ⟨-, c, -⟩ | ⟨-, c, -⟩ | ⟨c, c5, -⟩
  · exact absurd c z
  · exact absurd c z
  · exact absurd n2 (fun w => w.elim c c5)
/-- the arguments do not end here, and do not go on -/
theorem r_bad {e n : Nat} {Q : Res → Rm → Prop} (h : Ps κ σ N b P) (n41 : kI κ 72 7 ≠ 41) (hx : x1 = 0 → kI κ 72 7 ≠ 44) (he : 7 ≤ e) (hn : 1 ≤ n ∧ n < 10) (hq : Q (.inr 93) (wI σ 0 6 (kI κ 72 8))) : AB X e 192 x1 y2 y3 n σ Q := by
  obtain ⟨f, t, t1, t2, t3, t4, t5, t6, t7, t8⟩ := h.tok
  have hp := h.p3
  have a19 : AB X e 219 x1 y2 y3 n σ Q := by
    refine a_readBody_219 _ _ _ _ ?_
    rw [nI_le0 (by omega)]
    refine ⟨fun z => absurd z (by omega), fun _ => ⟨fun c => a_readBody_241 _ _ _ _ ⟨1, by omega, ac_mustSign h (by decide) (fun z => absurd z (hx c)) (fun _ => hq)⟩, fun c => ?_⟩⟩
    rw [h.2.2.2.2.1, vpn (by omega), cl_nI (by omega), t2, ← t1]
    exact ⟨by omega, 0, by omega, ac_failT hq⟩
  by_cases c : kI κ 72 7 = 2 ∨ kI κ 72 7 = 5
  · exact r_yes h c a19
  · exact r_no h (fun z => c (Or.inl z)) (fun z => c (Or.inr z)) he hn.2 (fun z => absurd z (by omega)) (fun _ => ⟨fun z => absurd z n41, fun _ => a19⟩)
/-- where both are between two arguments -/
def HI (N b P n : Nat) (κ0 : Km) (σ0 : Rm) (κ : Km) (σ : Rm) : Prop := Ps κ σ N b P ∧ rV σ = n ∧ kI κ (1000 + 8 * b) 4 = nI n ∧ BF b κ0 κ ∧ AF qA σ0 σ ∧ pC κ0 + n ≤ pC κ ∧ oC κ = oC κ0 ∧ iC κ = iC κ0 ∧ rJ σ = rJ σ0 ∧ rU σ = rU σ0 ∧ rA σ = rA σ0 ∧ rT σ = rT σ0 ∧ rC σ = rC σ0 ∧ rK σ = rK σ0 ∧ rE σ = rE σ0
theorem HI.ao {n : Nat} {κ4 : Km} {σ4 : Rm} (h : HI N b P n κ0 σ0 κ σ) (ao : AO N b P n κ σ κ4 σ4) : HI N b P (n + 1) κ0 σ0 κ4 σ4 := by
  obtain ⟨h1, h2, h3, h4, h5, h6, h7, h8, h9, h10, h11, h12, h13, h14, h15⟩ := h
  obtain ⟨a1, ⟨b1, b2, b3, b4, b5, b6, b7, b8, b9, b10, b11⟩, a3, a4, a5⟩ := ao
  exact ⟨a1, b9, a3, h4.trans a4, h5.trans a5, by omega, by omega, by omega, by omega, by omega, by omega, by omega, by omega, by omega, by omega⟩
theorem HI.next {n : Nat} (h : HI N b P n κ0 σ0 κ σ) (hlt : pC κ < N) : HI N b P n κ0 σ0 (setC κ (pC κ + 1)) (wS σ 10 (nI (pC κ + 1))) := by
  obtain ⟨h1, h2, h3, h4, h5, h6, h7, h8, h9, h10, h11, h12, h13, h14, h15⟩ := h
  obtain ⟨p6, -, l1, l2, l3, l4, l5, l6, l7, l8, l9, l10, l11⟩ := h1.next hlt
  have hb := h1.1.2.2.2.1
  exact ⟨p6, by omega, by rw [setC_ne (by omega)]; exact h3, h4.trans BF.set, h5.trans (AF.wI (by decide)), by omega, by omega, by omega, by omega, by omega, by omega, by omega, by omega, by omega, by omega⟩
theorem arg_loop {d : Nat} {F : Int32 → Km → Prop} (hd : 2 ≤ d) (q1 : ∀ κ' σ' n, (n ≤ 4 ∧ (x1 ≠ 0 → n ≤ 1)) → HI N b P n κ0 σ0 κ' σ' → (kI κ' 72 7 = 41 ∨ (1 ≤ n ∧ (x1 = 0 → kI κ' 72 7 ≠ 44))) → (∀ (e : Nat) (Q : Res → Rm → Prop), 7 ≤ e → AB X e 192 x1 y2 y3 n σ' Q → Gl e Q) → F 1 κ') (q0 : ∀ κ' σ', FltB b κ0 σ0 κ' σ' → (∀ (e : Nat) (Q : Res → Rm → Prop), 7 ≤ e → Q (.inr 93) σ' → Gl e Q) → F 0 κ') : ∀ (g n : Nat) (κ : Km) (σ : Rm), n + g = 4 → (x1 ≠ 0 → n = 0) → HI N b P n κ0 σ0 κ σ → (∀ (e : Nat) (Q : Res → Rm → Prop), 7 ≤ e → AB X e 247 x1 y2 y3 n σ Q → Gl e Q) → K X d MX5_readArguments 16 [(0, vR 77), (1, vI x1), (2, vI (nI n))] [] κ (kRI F) := by
  intro g
  induction g with
  | zero =>
    intro n κ σ hn hx hi path
    have h := hi.1
    have hp := h.p3
    obtain ⟨f, t, t1, t2, -⟩ := h.tok
    refine k_5_readArguments_16 _ _ ?_
    rw [litI 4, le_nI (by omega) (by omega)]
    refine ⟨fun _ => ⟨0, by omega, kc_refuse ⟨Or.inl rfl, _, rfl, q0 _ _ ((FltB.at h.pq).pre hi.2.2.2.1 (hi.2.2.2.2.1.weak qAB)) (fun e Q he hq => path e Q he (a_readBody_247 _ _ _ _ ⟨fun _ => ?_, fun z => absurd (by rw [litI 4, show n = 4 by omega]) z⟩))⟩⟩, fun z => absurd (by omega) z⟩
    rw [h.2.2.2.2.1, vpn (by omega), cl_nI (by omega), t2, ← t1]
    exact ⟨by omega, 0, by omega, ac_failT hq⟩
  | succ g ih =>
    intro n κ σ hn hx hi path
    have hi' := hi
    have h := hi.1
    have hp := h.p3
    refine k_5_readArguments_16 _ _ ?_
    rw [litI 4, le_nI (by omega) (by omega)]
    have path266 : ∀ (e : Nat) (Q : Res → Rm → Prop), 7 ≤ e → AB X e 266 x1 y2 y3 n σ Q → Gl e Q := fun e Q he hA => path e Q he (a_readBody_247 _ _ _ _ ⟨fun z => by
      rw [litI 4] at z
      have := (nI_eq (a := n) (b := 4) (by omega) (by omega)).mp z
      omega, fun _ => hA⟩)
    refine ⟨fun z => absurd z (by omega), fun _ => ⟨1, by omega, kc_isName (fun c => ⟨fun z => absurd z (by decide), fun _ => ?_⟩) (fun c => ⟨fun _ => ⟨_, rfl, q0 _ _ ((FltB.at' (k := 8) h.pq (by omega)).pre hi.2.2.2.1 (hi.2.2.2.2.1.weak qAB)) (fun e Q he hq => path266 e Q he (a_readBody_266 _ _ _ _ ⟨1, by omega, ac_mustName h (fun z => absurd (c.symm.trans z) (by decide)) (fun _ => hq) (fun _ z => absurd c z)⟩))⟩, fun z => absurd rfl z⟩) (fun c c5 => ⟨fun _ => ⟨_, rfl, q0 _ _ ((FltB.at h.pq).pre hi.2.2.2.1 (hi.2.2.2.2.1.weak qAB)) (fun e Q he hq => path266 e Q he (a_readBody_266 _ _ _ _ ⟨1, by omega, ac_mustName h (fun z => absurd z c) (fun z => absurd z c5) (fun _ _ => hq)⟩))⟩, fun z => absurd rfl z⟩)⟩⟩
    refine arg_one (y2 := y2) (y3 := y3) h c hi.2.2.1 (by omega) hi.2.1 hd (fun κ4 σ4 ao ref => ?_)
    have hi4 := hi'.ao ao
    have h4 := hi4.1
    have path4 : ∀ (e : Nat) (Q : Res → Rm → Prop), 7 ≤ e → AB X e 192 x1 y2 y3 (n + 1) σ4 Q → Gl e Q := fun e Q he hA => path266 e Q he (ref e Q he hA)
    refine ⟨fun cx => ⟨fun k44 => ?_, fun nk => k_5_readArguments_123 _ _ _ ⟨_, rfl, q1 κ4 σ4 (n + 1) ⟨by omega, fun z => absurd cx z⟩ hi4 (Or.inr ⟨by omega, fun _ => nk⟩) path4⟩⟩, fun cx => k_5_readArguments_123 _ _ _ ⟨_, rfl, q1 κ4 σ4 (n + 1) ⟨by omega, fun z => by have := hx z; omega⟩ hi4 (Or.inr ⟨by omega, fun z => absurd z cx⟩) path4⟩⟩
    have hlt := h4.n0 (c := 44) k44 (by omega) (by omega)
    refine ⟨0, by omega, kc_nextP h4 hlt (ih (n + 1) _ _ (by omega) (fun z => absurd cx z) (hi4.next hlt) (fun e Q he hA => path4 e Q he (r_no h4 (by rw [k44]; decide) (by rw [k44]; decide) he (by omega) (fun z => absurd z (by omega)) (fun _ => ⟨fun z => absurd (k44.symm.trans z) (by decide), fun _ => a_readBody_219 _ _ _ _ ?_⟩))))⟩
    rw [nI_le0 (by omega)]
    exact ⟨fun z => absurd z (by omega), fun _ => ⟨fun _ => a_readBody_241 _ _ _ _ ⟨1, by omega, ac_mustSign h4 (by decide) (fun _ => hA) (fun z => absurd k44 z)⟩, fun z => absurd cx z⟩⟩
theorem args_core {d : Nat} {F : Int32 → Km → Prop} (hd : 2 ≤ d) (ho : 1 ≤ oC κ0) (hi : HI N b P 0 κ0 σ0 κ σ) (path : ∀ (e : Nat) (Q : Res → Rm → Prop), 7 ≤ e → AB X e 192 x1 y2 y3 0 σ Q → Gl e Q) (q1 : ∀ κ' σ' n, (n ≤ 4 ∧ (x1 ≠ 0 → n ≤ 1)) → HI N b P n κ0 σ0 κ' σ' → (kI κ' 72 7 = 41 ∨ (1 ≤ n ∧ (x1 = 0 → kI κ' 72 7 ≠ 44))) → (∀ (e : Nat) (Q : Res → Rm → Prop), 7 ≤ e → AB X e 192 x1 y2 y3 n σ' Q → Gl e Q) → F 1 κ') (q0 : ∀ κ' σ', FltB b κ0 σ0 κ' σ' → (∀ (e : Nat) (Q : Res → Rm → Prop), 7 ≤ e → Q (.inr 93) σ' → Gl e Q) → F 0 κ') : KC' X d MX5_readArguments [vR 77, vI x1] κ (kRI F) := by
  have h := hi.1
  have hp := h.p3
  refine KC_of_K rfl (Nat.le_of_ble_eq_true rfl) rfl (k_5_readArguments_0 _ ⟨fun c => ⟨_, rfl, q1 κ σ 0 ⟨by omega, fun _ => by omega⟩ hi (Or.inl c) path⟩, fun c => ?_⟩)
  by_cases cn : kI κ 72 7 = 2 ∨ kI κ 72 7 = 5
  · show K X d MX5_readArguments 16 [(0, vR 77), (1, vI x1), (2, vI (nI 0))] [] κ (kRI F)
    refine arg_loop hd q1 q0 4 0 κ σ (by omega) (fun _ => rfl) hi (fun e Q he hA => path e Q he (r_yes h cn (a_readBody_219 _ _ _ _ ?_)))
    rw [nI_le0 (by omega)]
    exact ⟨fun _ => hA, fun z => absurd rfl z⟩
  · have c2 : kI κ 72 7 ≠ 2 := fun z => cn (Or.inl z)
    have c5 : kI κ 72 7 ≠ 5 := fun z => cn (Or.inr z)
    refine k_5_readArguments_16 _ _ ⟨fun z => absurd z (by decide), fun _ => ⟨1, by omega, kc_isName (fun z => absurd z c2) (fun z => absurd z c5) (fun _ _ => ⟨fun _ => ⟨_, rfl, q0 _ _ ((FltB.at h.pq).pre hi.2.2.2.1 (hi.2.2.2.2.1.weak qAB)) (fun e Q he hq => path e Q he (r_no h c2 c5 he (by omega) (fun _ => a_readBody_327 _ _ _ _ ⟨2, by omega, ac_closes h (by rw [hi.2.2.2.2.2.2.1]; exact ho) (by decide) (fun z => absurd z c) (fun _ => hq)⟩) (fun z => absurd z (by omega))))⟩, fun z => absurd rfl z⟩)⟩⟩
end HD2
