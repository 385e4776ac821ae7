/-! acts of one voice alone: both go on -/
section GO
variable {X : Cx} {d e ew : Nat} {κ0 κ κ' : Km} {σ0 σ σ' : Rm} {b V al S LT HT sp F0 v p x : Nat} {st : Nat → Nat} {fr : Nat → List Frm} {pt : Nat → Nat} {ch : List Nat} {w : Nat → Nat} {f f' : Frm} {r : List Frm}
theorem snoc : ∀ O : List Int32, 1 ≤ O.length → ∃ O' y, O = O' ++ [y] := by
  intro O
  induction O with
  | nil => intro h; exact absurd h (by decide)
  | cons a t ih =>
    intro _
    by_cases c : t = []
    · exact ⟨[], a, by rw [c]; rfl⟩
    · have : 1 ≤ t.length := by
        cases t with
        | nil => exact absurd rfl c
        | cons => exact Nat.le_add_left ..
      obtain ⟨O', y, h⟩ := ih this
      exact ⟨a :: O', y, by rw [h]; rfl⟩
/-- what the class and the reference read -/
theorem Rn.cls (h : Rn κ0 σ0 κ σ b V al S LT HT sp F0 st fr pt ch w v f r) : (kI κ 79 10 = nI V ∧ V ≤ 60 ∧ V ≤ kV κ) ∧ kI κ 79 13 = nI v ∧ kI κ 79 17 = 0 ∧ kI κ 79 14 = 0 ∧ (∃ m, CdW κ m ∧ frI f < m ∧ m ≤ 9500 ∧ kI κ0 68 2 = nI m) ∧ (kI κ 69 = kI κ0 69 ∧ kI κ 70 = kI κ0 70) ∧ sI σ 77 = nI v ∧ (∀ k, 1 ≤ k → k ≤ 46 → aI σ k = aI σ0 k) ∧ (1 ≤ v ∧ v ≤ V) := by
  obtain ⟨⟨a1, a2⟩, ⟨b1, b2, b3, b4, b5⟩, ⟨c1, c2, c3⟩, ⟨d1, d2, d3⟩, e1, g1⟩ := h
  obtain ⟨⟨⟨k1, k2, k3⟩, sta, rg⟩, ⟨s1, s2, s3, s4, s5, s6, s7, s8, s9, s10, s11, s12, s13, s14, s15⟩, -⟩ := a1
  have e68 := k1 68 (Or.inr (Or.inl (by omega)))
  have e69 := k1 69 (Or.inr (Or.inl (by omega)))
  have e70 := k1 70 (Or.inr (Or.inl (by omega)))
  obtain ⟨t1, ⟨m, m1, m2, m3, m4⟩, t3⟩ := sta
  have hg : frI f < m := by
    obtain ⟨o1, o2, o3, o4, o5⟩ := d2
    rcases o5 with ⟨z1, z2⟩ | ⟨z, _⟩ | ⟨z, _⟩ | ⟨z, _⟩
    · exact good_lt m1 m2 z2
    · exact absurd (d1.symm.trans z) (by decide)
    · exact absurd (d1.symm.trans z) (by decide)
    · exact absurd (d1.symm.trans z) (by decide)
  exact ⟨⟨s1.1, s8, s9⟩, s4.1, s7.1, b5, ⟨m, ⟨by rw [e68.1]; exact m1, by omega, by rw [e69.2.2]; exact m3, by rw [e70.2.2]; exact m4⟩, hg, m2, m1⟩, ⟨e69.1, e70.1⟩, s4.2, fun k h1 h2 => (k3 k h1 h2).1, b1, b2⟩
theorem Rn.go (h : Rn κ0 σ0 κ σ b V al S LT HT sp F0 st fr pt ch w v f r) (all : AllOK X d e κ0 σ0 b (pot V S st fr)) (hx : x + pot V S st fr ≤ 199000000) (m0 : frM f' = 0) (fo : FrO κ0 σ0 F0 b f') (ha : frS f' ≤ frS f) (hw : fwt f' < fwt f) (hk : ∀ g, kpl g (frL f') = kpl g (frL f)) (h1 : ∀ x, x ∈ frL f' → x.1 ≠ 0 → x.2.2.2.1 = 1 → x ∈ frL f)
    (rf : ∃ σ1, (Ro (pt v) σ σ1 ∧ VR σ1 v (pt v) (f' :: r)) ∧ ∀ Q' : Res → Rm → Prop, A X 92 e MX13_goes 0 [(0, vR 92)] [] σ1 Q' → A X 92 e MX13_goes 0 [(0, vR 92)] [] σ Q')
    (cl : ∀ Q : Res → Km → Prop, (∀ κ', Vo v κ κ' → VK κ' v (f' :: r) → K X d MX6_run 2 [(0, vR 79), (1, vI (nI (x + 1)))] [] κ' Q) → K X d MX6_run 2 [(0, vR 79), (1, vI (nI x))] [] κ Q) : RunOK X d e κ0 σ0 κ σ b x (HT + 2 * pot V S st fr) := by
  intro Q hQ
  obtain ⟨σ1, ⟨ro, vr⟩, adv⟩ := rf
  refine cl Q (fun κ' ko vk => ?_)
  obtain ⟨h', hp⟩ := h.loc ko ro vk vr m0 fo ha hw hk h1
  exact all _ _ _ _ _ _ _ _ _ _ _ _ _ _ _ _ _ _ h' hp (by omega) Q (fun κ2 σ2 V2 al2 S2 LT2 HT2 sp2 F2 z2 st2 fr2 pt2 w2 dk e15 hb adv' => hQ κ2 σ2 V2 al2 S2 LT2 HT2 sp2 F2 z2 st2 fr2 pt2 w2 dk e15 (by omega) (fun Q' hq => adv Q' (adv' Q' hq)))
/-- an act that works on operands and variables -/
theorem Rn.wk {bd i j nv s md a : Nat} {pl : Int32} {vs : Nat → Int32} {L : List Ite} {O : List Int32} (h : Rn κ0 σ0 κ σ b V al S LT HT sp F0 st fr pt ch w v (bd, i, j, pl, nv, vs, L, O, s, md) r) (all : AllOK X d (e + 1) κ0 σ0 b (pot V S st fr)) (hx : x + pot V S st fr ≤ 199000000) (hd : ew + 1 ≤ d) (ha20 : a < 20) (e69 : kI κ0 69 i = nI a) (m0 : frM f' = 0) (fo : FrO κ0 σ0 F0 b f') (ha : frS f' ≤ s) (hw : fwt f' < fwt (bd, i, j, pl, nv, vs, L, O, s, md)) (hL : frL f' = L)
    (rf : A X 92 e MX13_goesOn 0 [(0, vR 92)] [] σ (fun r' σ' => r' = .inl none ∧ Ro (pt v) σ σ' ∧ VR σ' v (pt v) (f' :: r)))
    (wc : ∀ κ1, VK κ1 v ((bd, i + 1, j, pl, nv, vs, L, O, s, md) :: r) → kI κ1 (1002 + 8 * v) 0 = nI v → KC' X ew MX10_work [vR (1002 + 8 * v), vI (nI a), vI (kI κ0 70 i)] κ1 (kRI fun y κ' => y = 1 ∧ Vo v κ1 κ' ∧ VK κ' v (f' :: r))) : RunOK X d (e + 1) κ0 σ0 κ σ b x (HT + 2 * pot V S st fr) := by
  obtain ⟨⟨c1, c2, c3⟩, c4, c5, c6, ⟨m, c7, c8, c9, -⟩, ⟨c10, c11⟩, c12, c13, c14⟩ := h.cls
  have c8 : i < m := c8
  have vk := h.2.2.1.1
  have h0 : kI κ (1002 + 8 * v) 0 = nI v := (h.1.1.2.2.1 v c14.1 c14.2).1
  refine h.go all hx m0 fo ha hw (fun g => by rw [hL]) (fun y hy _ _ => by rw [hL] at hy; exact hy) (ref_ex c12 (by omega) rf) (fun Q hQ => ?_)
  refine run_act (m := m) (V := V) (v := v) (by omega) (by omega) c1 c2 c3 c4 c14 c5 c6 vk.pc9 c7 c8 ?_
  rw [c10, c11, e69, litI 20, litI 40, lt_nI (by omega) (by omega), lt_nI (by omega) (by omega)]
  refine ⟨fun _ => ⟨ew, hd, ?_⟩, fun z => absurd ha20 z, fun z => absurd (show a < 40 by omega) z⟩
  refine (wc _ vk.pc (by rw [kI_nk (by decide)]; exact h0)).mono ?_
  rintro r' κ' ⟨y, rfl, rfl, vo, vk'⟩
  exact ⟨_, rfl, fun z => absurd z (by decide), fun _ => hQ κ' ((Vo.reg (by decide)).trans vo) vk'⟩
end GO
