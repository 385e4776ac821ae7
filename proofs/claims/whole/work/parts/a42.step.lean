/-! STEP -/
section STEPS
variable {X : Cx} {d e : Nat} {κ0 κ κ' : Km} {σ0 σ σ' : Rm} {b V al S T LT HT sp F0 z v p x n : Nat} {st : Nat → Nat} {fr : Nat → List Frm} {pt : Nat → Nat} {ch : List Nat} {w rz : Nat → Nat} {r fs : List Frm} {f f' : Frm}
variable {bd i j nv s md i' j' s' md' : Nat} {pl : Int32} {vs : Nat → Int32} {L : List Ite} {O : List Int32} {y : Int32}
theorem arm_un (hv : 1 ≤ v ∧ v ≤ V) : cn (vArm st (un fr v fs)) V + arm (fr v) = cn (vArm st fr) V + arm fs := by
  have e1 := cn_up (g := vArm st fr) (g' := vArm st (un fr v fs)) (n := v) (fun k hk => by unfold vArm; rw [un_ne hk]) V hv.1 hv.2
  have e3 : vArm st fr v = arm (fr v) + if st v = 0 then 1 else 0 := rfl
  have e4 : vArm st (un fr v fs) v = arm fs + if st v = 0 then 1 else 0 := by unfold vArm; rw [un_eq]
  rw [e3, e4] at e1
  omega
theorem pot_un (hv : 1 ≤ v ∧ v ≤ V) : pot V S st (un fr v fs) + fws (fr v) = pot V S st fr + fws fs := by
  have e2 := cn_up (g := vWt st fr) (g' := vWt st (un fr v fs)) (n := v) (fun k hk => by unfold vWt; rw [un_ne hk]) V hv.1 hv.2
  have e5 : vWt st fr v = fws (fr v) + if st v = 0 then 9800 else 0 := rfl
  have e6 : vWt st (un fr v fs) v = fws fs + if st v = 0 then 9800 else 0 := by unfold vWt; rw [un_eq]
  rw [e5, e6] at e2
  unfold pot
  omega
theorem pot_S (hS : S < 6000) : pot V (S + 1) st fr + 32000 = pot V S st fr := by
  unfold pot
  omega
def stK (κ : Km) (v S : Nat) : Km := cI (cI κ 79 12 (nI (S + 1))) (1002 + 8 * v) 6 (kI κ (1002 + 8 * v) 6 + 1)
def stR (σ : Rm) (v S : Nat) : Rm := wI (wS σ 75 (nI (S + 1))) 52 v (aI σ 52 v + 1)
theorem stK_h {g : Nat} (h1 : g ≠ 79) (h2 : g ≠ 1002 + 8 * v) : kI (stK κ v S) g = kI κ g := by
  unfold stK
  rw [kI_ne h2, kI_ne h1]
theorem stK_79 {k : Nat} (h : k ≠ 12) : kI (stK κ v S) 79 k = kI κ 79 k := by
  unfold stK
  rw [kI_ne (by omega), kI_nk h]
theorem stK_12 : kI (stK κ v S) 79 12 = nI (S + 1) := by
  unfold stK
  rw [kI_ne (by omega), kI_eq]
theorem stK_v {k : Nat} (h : k ≠ 6) : kI (stK κ v S) (1002 + 8 * v) k = kI κ (1002 + 8 * v) k := by
  unfold stK
  rw [kI_nk h, kI_ne (by omega)]
theorem stK_6 : kI (stK κ v S) (1002 + 8 * v) 6 = kI κ (1002 + 8 * v) 6 + 1 := by
  unfold stK
  rw [kI_eq]
theorem stR_k {k : Nat} (h : k ≠ 52) (h2 : k ≠ 75) : aI (stR σ v S) k = aI σ k := by
  unfold stR
  rw [aI_ne h, aI_ne h2]
theorem stR_n {n : Nat} (h : n ≠ v) : aI (stR σ v S) 52 n = aI σ 52 n := by
  unfold stR
  rw [aI_ni h, aI_ne (by decide)]
theorem stR_v : aI (stR σ v S) 52 v = aI σ 52 v + 1 := by
  unfold stR
  rw [aI_eq]
theorem stR_75 : sI (stR σ v S) 75 = nI (S + 1) := by
  unfold stR
  rw [sI_ne (by decide), sI_eq]
theorem Vo.stp (ko : Vo v κ κ') : Vo v (stK κ v S) (stK κ' v S) := by
  refine ⟨⟨fun h hh => ?_, ko.1.2⟩, ko.2.1, fun k h1 h2 h3 h4 h5 => ?_⟩
  · obtain ⟨e1, e2, e3⟩ := ko.1.1 h hh
    refine ⟨?_, e2, e3⟩
    have hv : h ≠ 1002 + 8 * v := fun z => hh (Or.inl z)
    by_cases c : h = 79
    · subst c
      funext k
      by_cases c2 : k = 12
      · rw [c2, stK_12, stK_12]
      · rw [stK_79 c2, stK_79 c2, e1]
    · rw [stK_h c hv, stK_h c hv, e1]
  · have e := ko.2.2 k h1 h2 h3 h4 h5
    by_cases c : k = 6
    · rw [c] at e ⊢
      rw [stK_6, stK_6, e]
    · rw [stK_v c, stK_v c, e]
theorem Ro.stp (ro : Ro p σ σ') : Ro p (stR σ v S) (stR σ' v S) := by
  refine ⟨fun k hk => ?_, ro.2.1, fun k i h1 h2 h3 => ?_⟩
  · by_cases c : k = 52
    · rw [c]
      funext i
      have e := congrFun (ro.s (k := 52) (by decide))
      by_cases c2 : i = v
      · rw [c2, stR_v, stR_v, e]
      · rw [stR_n c2, stR_n c2, e]
    · by_cases c3 : k = 75
      · rw [c3]
        unfold stR
        rw [aI_ne (by decide), aI_ne (k' := 75) (k := 52) (by decide)]
        funext i
        have e := congrFun (ro.s (k := 75) (by decide)) i
        by_cases c4 : i = 0
        · rw [c4, aI_eq, aI_eq]
        · rw [aI_ni c4, aI_ni c4, e]
      · rw [stR_k c c3, stR_k c c3]; exact ro.1 k hk
  · rw [stR_k (by omega) (by omega), stR_k (by omega) (by omega)]
    exact ro.2.2 k i h1 h2 h3
theorem RelM.stp (h : RelM κ0 σ0 κ σ b V al S T sp z LT HT F0 st fr pt ch) (hS : S < 6000) (hv : 1 ≤ v ∧ v ≤ V) : RelM κ0 σ0 (stK κ v S) (stR σ v S) b V al (S + 1) T sp z LT HT F0 st fr pt ch := by
  obtain ⟨⟨⟨k1, k2, k3⟩, sta, rg0⟩, ⟨s1, s2, s3, s4, s5, s6, s7, s8, s9, s10, s11, s12, s13, s14, s15⟩, a5, a6, a7, a8, a9⟩ := h
  have es : ∀ k, k ≠ 52 → k ≠ 75 → sI (stR σ v S) k = sI σ k := fun k h1 h2 => congrFun (stR_k h1 h2) 0
  have ek : ∀ m k, k = 1 ∨ k = 10 → kI (stK κ v S) (1002 + 8 * m) k = kI κ (1002 + 8 * m) k := fun m k hk => by
    by_cases c : m = v
    · subst c; exact stK_v (by omega)
    · rw [stK_h (by omega) (by omega)]
  refine ⟨⟨⟨fun g hg => ?_, ⟨k2.1, k2.2.cg (Nat.le_refl _) ek (stK_79 (by decide)) (fun k hk => stR_k (by omega) (by omega))⟩, fun k h1 h2 => ?_⟩, sta, rg0.trans (RG.cI.trans RG.cI)⟩, ⟨?_, ?_, ⟨stK_12, stR_75⟩, ?_, ?_, ?_, ?_, s8, s9, s10, s11, by omega, s13, s14, s15⟩, fun n n1 n2 => ?_, a6.cg (stR_k (by decide) (by decide)) (stR_k (by decide) (by decide)) (stR_k (by decide) (by decide)), ?_, ?_, a9.fr (by rw [stK_h (by omega) (by omega)]) (stK_h (by omega) (by omega)) rfl (fun k h1 h2 => stR_k (by omega) (by omega))⟩
  · have hg' := hg
    unfold hCd at hg'
    rw [stK_h (by omega) (by omega)]
    exact k1 g hg
  · rw [stR_k (by omega) (by omega)]
    exact k3 k h1 h2
  · rw [stK_79 (by decide), es 47 (by decide) (by decide)]; exact s1
  · rw [stK_79 (by decide), es 48 (by decide) (by decide)]; exact s2
  · rw [stK_79 (by decide), es 77 (by decide) (by decide)]; exact s4
  · rw [stK_79 (by decide), es 79 (by decide) (by decide)]; exact s5
  · rw [stK_79 (by decide)]; exact s6
  · rw [stK_79 (by decide), es 76 (by decide) (by decide)]; exact s7
  · obtain ⟨v1, v2, v3, v4, v5, v6, v7, v8, v9⟩ := a5 n n1 n2
    have e : ∀ k, k ≠ 6 → kI (stK κ v S) (1002 + 8 * n) k = kI κ (1002 + 8 * n) k := fun k hk => by
      by_cases c : n = v
      · rw [c, stK_v hk]
      · rw [stK_h (by omega) (by omega)]
    unfold Vof
    rw [e 0 (by decide), e 1 (by decide), e 2 (by decide), e 3 (by decide), e 4 (by decide), e 5 (by decide), e 7 (by decide), e 11 (by decide), stR_k (k := 19) (by decide) (by decide), stR_k (k := 49) (by decide) (by decide), stR_k (k := 50) (by decide) (by decide), stR_k (k := 51) (by decide) (by decide), stR_k (k := 53) (by decide) (by decide), stR_k (k := 54) (by decide) (by decide), stR_k (k := 55) (by decide) (by decide), stR_k (k := 57) (by decide) (by decide)]
    refine ⟨v1, v2, v3, v4, v5, v6, ?_, v8, v9⟩
    by_cases c : n = v
    · rw [c] at v7 ⊢
      rw [stK_6, stR_v, v7]
    · rw [stK_h (by omega) (by omega), stR_n c]; exact v7
  · obtain ⟨r1, r2, r3, r4, r5, r6⟩ := a7
    refine ⟨r1, r2, r3, r4, r5, fun q hq => ?_⟩
    rw [stR_k (by decide) (by decide)]
    exact r6 q hq
  · obtain ⟨⟨g1, a1, a2⟩, ⟨g2, b1, b2⟩, R, c0, c1, c2, c3, c4⟩ := a8
    refine ⟨⟨g1, a1.fr (stK_h (by omega) (by omega)) (stK_h (by omega) (by omega)) rfl, a2.fr (stR_k (by decide) (by decide)) (stR_k (by decide) (by decide)) (stR_k (by decide) (by decide))⟩, ⟨g2, b1.fr (stK_h (by omega) (by omega)) (stK_h (by omega) (by omega)) rfl, b2.fr (stR_k (by decide) (by decide)) (stR_k (by decide) (by decide)) (stR_k (by decide) (by decide))⟩, R, ?_⟩
    rw [stK_79 (by decide), stK_h (g := 91) (by omega) (by omega), es 87 (by decide) (by decide), stR_k (k := 86) (by decide) (by decide)]
    exact ⟨c0, c1, c2, c3, c4⟩
theorem Rn.stp (h : Rn κ0 σ0 κ σ b V al S LT HT sp F0 st fr pt ch w v f r) (hS : S < 6000) : Rn κ0 σ0 (stK κ v S) (stR σ v S) b V al (S + 1) LT HT sp F0 st fr pt ch w v f r := by
  obtain ⟨⟨a1, a2⟩, ⟨b1, b2, b3, b4, b5⟩, ⟨c1, c2, c3⟩, d1, e1, g1⟩ := h
  have hp := pot_S (V := V) (st := st) (fr := fr) hS
  refine ⟨⟨a1.stp hS ⟨b1, b2⟩, fun n n1 n2 hn => (a2 n n1 n2 hn).cg (stK_h (by omega) (by omega)) (stK_h (by omega) (by omega)) rfl (Nat.le_refl _) (fun k h1 h2 _ => stR_k (by omega) (by omega)) (Nat.le_refl _)⟩, ⟨b1, b2, b3, b4, by rw [stK_79 (by decide)]; exact b5⟩, ⟨(c1.oth (by omega) (by omega)).reg (by decide), c2.cg (fun k h1 h2 _ => stR_k (by omega) (by omega)), by rw [stR_k (by decide) (by decide)]; exact c3⟩, d1, ⟨by have := e1.1; omega, by have := e1.2.1; omega, by have := e1.2.2; omega⟩, g1.cg (stK_h (by omega) (by omega)) (fun h h1 h2 => ⟨stK_h (by omega) (by omega), rfl⟩) (fun k h1 h2 => stR_k (by omega) (by omega))⟩
/-- a local act, with its counts -/
theorem Rn.loc2 (h : Rn κ0 σ0 κ σ b V al S LT HT sp F0 st fr pt ch w v f r) (ko : Vo v κ κ') (ro : Ro (pt v) σ σ') (vk : VK κ' v (f' :: r)) (vr : VR σ' v (pt v) (f' :: r)) (m0 : frM f' = 0) (fo : FrO κ0 σ0 F0 b f') (hac : Acc V S F0 LT HT st (un fr v (f' :: r))) (hk : ∀ g, kpl g (frL f') = kpl g (frL f)) (h1 : ∀ x, x ∈ frL f' → x.1 ≠ 0 → x.2.2.2.1 = 1 → x ∈ frL f) :
    Rn κ0 σ0 κ' σ' b V al S LT HT sp F0 st (un fr v (f' :: r)) pt ch w v f' r := by
  obtain ⟨⟨a1, a2⟩, ⟨b1, b2, b3, b4, b5⟩, ⟨c1, c2, c3⟩, ⟨d1, d2, d3⟩, e1, g1⟩ := h
  have hne : fr v ≠ [] := by rw [b4]; exact List.cons_ne_nil _ _
  have hhv : 1 ≤ v ∧ v ≤ V := ⟨b1, b2⟩
  have e59 : ∀ k, k < 60 ∨ 74 < k → aI σ' k = aI σ k := fun k hk => ro.s hk
  refine ⟨⟨a1.vo hhv ko ro hne (List.cons_ne_nil _ _), a2.vo a1 hhv hne ko ro⟩, ⟨b1, b2, b3, un_eq, by rw [(ko.h (h := 79) (by omega) (by omega)).1]; exact b5⟩, ⟨vk, vr, by rw [e59 59 (by omega)]; exact c3⟩, ⟨m0, fo, d3⟩, hac, g1.loc (ko.h (h := 84) (by omega) (by omega)).1 (fun h h1 h2 => ⟨(ko.h (h := h) (by omega) (by omega)).1, (ko.h (h := h) (by omega) (by omega)).2.2⟩) (fun k k1 k2 => e59 k (by omega)) (fun g => ?_) (fun f0 x hf hx x1 x2 => ?_) hhv⟩
  · rw [b4]
    show kpl g (frL f') + kps g r = kpl g (frL f) + kps g r
    rw [hk g]
  · rw [b4]
    rcases List.mem_cons.mp hf with e | hf
    · rw [e] at hx
      exact ⟨f, List.mem_cons_self .., h1 x hx x1 x2⟩
    · exact ⟨f0, List.mem_cons_of_mem _ hf, hx⟩
end STEPS
