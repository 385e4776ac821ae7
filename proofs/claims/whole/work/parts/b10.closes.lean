/-! CLOSE: the methods; one that is not begun is over while another runs -/
section CLOSES
variable {X : Cx} {d e er : Nat} {κ0 κ κa κb κh κw κ1 κ' : Km} {σ0 σ σa σh σr σw σ1 σ' : Rm} {b V al S T sp z LT HT F0 v p n x q g k s s0 num pn : Nat} {st : Nat → Nat} {fr fr' : Nat → List Frm} {pt : Nat → Nat} {fs fs0 r rr : List Frm} {ch cr : List Nat} {w rz : Nat → Nat} {y y' u a val vo pl0 ca : Int32} {f f1 f' : Frm} {C : Km → Prop} {P G : Rm → Prop} {o : Option (List Nat)}
variable {bd i j nv md i' j' s' md' : Nat} {pl : Int32} {vs : Nat → Int32} {L L0 : List Ite} {O O1 O0 : List Int32}
/-- what is counted, when one that is not begun is over -/
theorem Acc.endN (h : Acc V S F0 LT HT st fr) (hn : 1 ≤ n ∧ n ≤ V) (hs : st n = 0) (hf : fr n = []) (h4 : 4 ≤ s) : Acc V S F0 LT HT (un st n s) fr ∧ pot V S (un st n s) fr < pot V S st fr ∧ F0 + 1 + cn (vArm (un st n s) fr) V ≤ S + V := by
  have efr : un fr n [] = fr := by
    have := un_self (f := fr) (n := n)
    rw [hf] at this
    exact this
  have ea := arm_un2 (V := V) (st := st) (fr := fr) (n := n) (s := s) (fs := []) hn
  have ep := pot_un2 (V := V) (S := S) (st := st) (fr := fr) (n := n) (s := s) (fs := []) hn
  rw [efr, hf, hs, vA_pos (s := s) (fs := []) (by omega)] at ea
  rw [efr, hf, hs, vW_pos (s := s) (fs := []) (by omega)] at ep
  have ea : cn (vArm (un st n s) fr) V + 1 = cn (vArm st fr) V + 0 := ea
  have ep : pot V S (un st n s) fr + 9800 = pot V S st fr + 0 := by
    have e9 : vW 0 [] = 9800 := rfl
    have e0 : fws [] = 0 := rfl
    omega
  obtain ⟨ac1, ac2, ac3⟩ := h
  exact ⟨⟨by omega, by omega, by omega⟩, by omega, by omega⟩
/-- one that is not begun is over -/
theorem Rn.endN (h : Rn κ0 σ0 κ σ b V al S LT HT sp F0 st fr pt ch w v f r) (hn : 1 ≤ n ∧ n ≤ V) (hs : st n = 0) (h4 : 4 ≤ s ∧ s ≤ 6) : Rn κ0 σ0 (enK κ n sp (nI s)) (enR σ n al (nI s)) b V (al - 1) S LT HT sp F0 (un st n s) fr pt ch w v f r ∧ pot V S (un st n s) fr < pot V S st fr := by
  obtain ⟨a0, c, m⟩ := h.bn (x := 0)
  obtain ⟨-, ⟨b1, b2, b3, b4, b5⟩, -, fx, acc, col⟩ := h
  have hnv : n ≠ v := fun z => by rw [z, b3] at hs; omega
  have hf : fr n = [] := by
    rcases m n hn.1 hn.2 hnv with ⟨-, z⟩ | ⟨z, -⟩
    · exact z
    · omega
  have e1 := a0.end (x' := 0) (s := s) hn (by omega) h4 (Or.inl rfl)
  have efr : un fr n [] = fr := by
    have := un_self (f := fr) (n := n)
    rw [hf] at this
    exact this
  rw [efr, hasF_nil hf] at e1
  have es : ∀ k, k ≠ 48 → k ≠ 49 → k ≠ 58 → k ≠ 59 → aI (enR σ n al (nI s)) k = aI σ k := fun k k1 k2 k3 k4 => enR_k k1 k2 k3 k4
  have hch : n ∉ ch := fun z => by
    have := (c.2.2.1 n z).2.2
    omega
  obtain ⟨ac1, ac2, -⟩ := acc.endN hn hs hf h4.1
  have ek : ∀ g, 80 ≤ g → g ≤ 91 → kI (enK κ n sp (nI s)) g = kI κ g ∧ kW (enK κ n sp (nI s)) g = kW κ g := fun g g1 g2 => ⟨(enK_h (by omega) (by omega) (by omega)).1, enK_w (by omega) (by omega)⟩
  refine ⟨Rn.of e1 (c.side hch (Or.inr (Or.inr h4.1)) (fun z => by omega) (es 54 (by decide) (by decide) (by decide) (by decide)) (es 56 (by decide) (by decide) (by decide) (by decide)) (es 57 (by decide) (by decide) (by decide) (by decide))) (fun n' q1 q2 q3 => ?_) ⟨b1, b2, by rw [un_ne (fun z => hnv z.symm)]; exact b3, b4, by rw [enK_79 (by decide) (by decide)]; exact b5⟩ fx ac1 (col.cg (ek 84 (by omega) (by omega)).1 (fun h h1 h2 => ek h (by omega) (by omega)) (fun k k1 k2 => es k (by omega) (by omega) (by omega) (by omega))), ac2⟩
  by_cases cn' : n' = n
  · rw [cn', un_eq, hf]
    exact Or.inl ⟨Or.inr h4.1, rfl⟩
  · rw [un_ne cn']
    exact (m n' q1 q2 q3).cg (congrFun (es 56 (by decide) (by decide) (by decide) (by decide)) n') (Nat.le_refl _)
theorem Desk.endN (h : Desk κ0 σ0 κ σ b V al S LT HT sp F0 z st fr pt w) (hn : 1 ≤ n ∧ n ≤ V) (hs : st n = 0) (h4 : 4 ≤ s ∧ s ≤ 6) : Desk κ0 σ0 (enK κ n sp (nI s)) (enR σ n al (nI s)) b V (al - 1) S LT HT sp F0 z (un st n s) fr pt w ∧ pot V S (un st n s) fr < pot V S st fr ∧ F0 + 1 + cn (vArm (un st n s) fr) V ≤ S + V := by
  obtain ⟨a0, c, m⟩ := h.bn (x := 0)
  obtain ⟨-, b5, acc, col⟩ := h
  have hf : fr n = [] := by
    rcases m n hn.1 hn.2 with ⟨-, z⟩ | ⟨z, -⟩
    · exact z
    · omega
  have e1 := a0.end (x' := 0) (s := s) hn (by omega) h4 (Or.inl rfl)
  have efr : un fr n [] = fr := by
    have := un_self (f := fr) (n := n)
    rw [hf] at this
    exact this
  rw [efr, hasF_nil hf] at e1
  have es : ∀ k, k ≠ 48 → k ≠ 49 → k ≠ 58 → k ≠ 59 → aI (enR σ n al (nI s)) k = aI σ k := fun k k1 k2 k3 k4 => enR_k k1 k2 k3 k4
  obtain ⟨ac1, ac2, ac3⟩ := acc.endN hn hs hf h4.1
  have ek : ∀ g, 80 ≤ g → g ≤ 91 → kI (enK κ n sp (nI s)) g = kI κ g ∧ kW (enK κ n sp (nI s)) g = kW κ g := fun g g1 g2 => ⟨(enK_h (by omega) (by omega) (by omega)).1, enK_w (by omega) (by omega)⟩
  refine ⟨Desk.of e1 (c.side List.not_mem_nil (Or.inr (Or.inr h4.1)) (fun z => by omega) (es 54 (by decide) (by decide) (by decide) (by decide)) (es 56 (by decide) (by decide) (by decide) (by decide)) (es 57 (by decide) (by decide) (by decide) (by decide))) (fun n' q1 q2 => ?_) (by rw [enK_79 (by decide) (by decide)]; exact b5) ac1 (col.cg (ek 84 (by omega) (by omega)).1 (fun h h1 h2 => ek h (by omega) (by omega)) (fun k k1 k2 => es k (by omega) (by omega) (by omega) (by omega))), ac2, ac3⟩
  by_cases cn' : n' = n
  · rw [cn', un_eq, hf]
    exact Or.inl ⟨Or.inr h4.1, rfl⟩
  · rw [un_ne cn']
    exact (m n' q1 q2).cg (congrFun (es 56 (by decide) (by decide) (by decide) (by decide)) n') (Nat.le_refl _)
end CLOSES
