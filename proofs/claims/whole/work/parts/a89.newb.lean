/-! a new voice: the relation -/
section NEWB
variable {X : Cx} {d e er : Nat} {κ0 κ κa κb κ1 κ' : Km} {σ0 σ σa σ1 σ' : Rm} {b V al S T sp z LT HT F0 v p n x q g k op sc m : Nat} {st : Nat → Nat} {fr fr' : Nat → List Frm} {pt : Nat → Nat} {fs r rr : List Frm} {ch cr : List Nat} {w rz : Nat → Nat} {f f' : Frm} {y u ar mk : Int32} {C : Km → Prop} {D P : Rm → Prop} {G : Rm → Prop}
theorem mdR_k {x1 : Int32} {k : Nat} (h : k < 47 ∨ 58 < k) : aI (mdR σ V al x1 ar mk) k = aI σ k := by
  unfold mdR
  rw [aI_ne (by omega), aI_ne (by omega), aI_ne (by omega), aI_ne (by omega), aI_ne (by omega), aI_ne (by omega), aI_ne (by omega), aI_ne (by omega), aI_ne (by omega), aI_ne (by omega), aI_ne (by omega), aI_ne (by omega)]
theorem mdR_n {x1 : Int32} {k : Nat} (h : 49 ≤ k) (hn : n ≠ V + 1) : aI (mdR σ V al x1 ar mk) k n = aI σ k n := by
  unfold mdR
  rw [aI_o (Or.inr hn), aI_o (Or.inr hn), aI_o (Or.inr hn), aI_o (Or.inr hn), aI_o (Or.inr hn), aI_o (Or.inr hn), aI_o (Or.inr hn), aI_o (Or.inr hn), aI_o (Or.inr hn), aI_o (Or.inr hn), aI_ne (by omega), aI_ne (by omega)]
theorem mdR_48 {x1 : Int32} : sI (mdR σ V al x1 ar mk) 47 = nI (V + 1) ∧ sI (mdR σ V al x1 ar mk) 48 = nI (al + 1) := by
  unfold mdR
  refine ⟨?_, ?_⟩
  · rw [sI_ne (by decide), sI_ne (by decide), sI_ne (by decide), sI_ne (by decide), sI_ne (by decide), sI_ne (by decide), sI_ne (by decide), sI_ne (by decide), sI_ne (by decide), sI_ne (by decide), sI_ne (by decide), sI_eq]
  · rw [sI_ne (by decide), sI_ne (by decide), sI_ne (by decide), sI_ne (by decide), sI_ne (by decide), sI_ne (by decide), sI_ne (by decide), sI_ne (by decide), sI_ne (by decide), sI_ne (by decide), sI_eq]
theorem mdR_v {x1 : Int32} : aI (mdR σ V al x1 ar mk) 49 (V + 1) = 0 ∧ aI (mdR σ V al x1 ar mk) 50 (V + 1) = x1 ∧ aI (mdR σ V al x1 ar mk) 51 (V + 1) = ar ∧ aI (mdR σ V al x1 ar mk) 52 (V + 1) = 0 ∧ aI (mdR σ V al x1 ar mk) 53 (V + 1) = 0 ∧ aI (mdR σ V al x1 ar mk) 54 (V + 1) = -9 ∧ aI (mdR σ V al x1 ar mk) 55 (V + 1) = mk ∧ aI (mdR σ V al x1 ar mk) 56 (V + 1) = 0 ∧ aI (mdR σ V al x1 ar mk) 57 (V + 1) = 0 ∧ aI (mdR σ V al x1 ar mk) 58 (V + 1) = -9 := by
  unfold mdR
  refine ⟨?_, ?_, ?_, ?_, ?_, ?_, ?_, ?_, ?_, aI_eq⟩
  · rw [aI_ne (by decide), aI_ne (by decide), aI_ne (by decide), aI_ne (by decide), aI_ne (by decide), aI_ne (by decide), aI_ne (by decide), aI_ne (by decide), aI_ne (by decide), aI_eq]
  · rw [aI_ne (by decide), aI_ne (by decide), aI_ne (by decide), aI_ne (by decide), aI_ne (by decide), aI_ne (by decide), aI_ne (by decide), aI_ne (by decide), aI_eq]
  · rw [aI_ne (by decide), aI_ne (by decide), aI_ne (by decide), aI_ne (by decide), aI_ne (by decide), aI_ne (by decide), aI_ne (by decide), aI_eq]
  · rw [aI_ne (by decide), aI_ne (by decide), aI_ne (by decide), aI_ne (by decide), aI_ne (by decide), aI_ne (by decide), aI_eq]
  · rw [aI_ne (by decide), aI_ne (by decide), aI_ne (by decide), aI_ne (by decide), aI_ne (by decide), aI_eq]
  · rw [aI_ne (by decide), aI_ne (by decide), aI_ne (by decide), aI_ne (by decide), aI_eq]
  · rw [aI_ne (by decide), aI_ne (by decide), aI_ne (by decide), aI_eq]
  · rw [aI_ne (by decide), aI_ne (by decide), aI_eq]
  · rw [aI_ne (by decide), aI_eq]
/-- one place of a voice of the reference's: the others are as they were -/
theorem VR.o58 (h : VR σ n q fs) (e58 : aI σ' 58 n = aI σ 58 n) (ea : ∀ k, 60 ≤ k → k ≤ 74 → aI σ' k = aI σ k) : VR σ' n q fs := h.fr e58 ⟨by rw [ea 60 (by omega) (by omega)], by rw [ea 68 (by omega) (by omega)], by rw [ea 73 (by omega) (by omega)]⟩ ⟨fun k i h1 h2 _ => by rw [ea k (by omega) (by omega)], fun i _ => by rw [ea 66 (by omega) (by omega)], fun i _ => by rw [ea 67 (by omega) (by omega)], fun k i h1 h2 _ => by rw [ea k (by omega) (by omega)], fun i _ => by rw [ea 74 (by omega) (by omega)]⟩
theorem Vof.up {s : Nat} {V' : Nat} (h : Vof κ σ V b n s) (hV : V ≤ V') : Vof κ σ V' b n s := by
  obtain ⟨v1, v2, v3, v4, ⟨mk, v5, v5b⟩, ⟨v6, v6b⟩, v7, v8, v9⟩ := h
  exact ⟨v1, v2, v3, v4, ⟨mk, by omega, v5b⟩, ⟨v6, v6b.imp id (fun ⟨rm, h1, h2⟩ => ⟨rm, by omega, h2⟩)⟩, v7, v8, v9⟩
theorem Bn.new (h : Bn κ0 σ0 κ σ b V al S T sp z LT HT F0 st fr pt 0) (hV : V < 60) (hA : al < 12) (mc : MkC κ κ' V al (nI sc) ar (nI m)) (hsc : sc < b) (h19 : aI σ 19 sc = 1) (hm : m ≤ V) (har : aI σ 20 sc = 0 → ar = 0) : Bn κ0 σ0 κ' (mdR σ V al (nI sc) ar (nI m)) b (V + 1) (al + 1) S T sp z LT HT F0 (un st (V + 1) 0) (un fr (V + 1) []) pt 0 := by
  obtain ⟨⟨⟨k1, k2, k3⟩, sta, rg⟩, ⟨s1, s2, s3, s4, s5, s6, s7, s8, s9, s10, s11, s12, s13, s14, s15⟩, a5, ⟨r1, r2, r3, r4, r5, r6⟩, a8, a9, a10⟩ := h
  obtain ⟨m1, m2, m3, m4, ⟨m5, m6, m7⟩, m8, m9, f0, f1, f2, f3, f4, f5, f6, f7, f8, f11⟩ := mc
  obtain ⟨e0, e1, e2, e3, e4, e5, e6, e7, e8, e9⟩ := mdR_v (σ := σ) (V := V) (al := al) (ar := ar) (mk := nI m) (x1 := nI sc)
  have es : ∀ k, (k < 47 ∨ 58 < k) → sI (mdR σ V al (nI sc) ar (nI m)) k = sI σ k := fun k hk => congrFun (mdR_k hk) 0
  have e1' : ∀ n, n ≤ V → n ≠ V + 1 := fun n hn z => by omega
  have ea1 : cn (aliv (un st (V + 1) 0)) V = cn (aliv st) V := cn_cg V (fun n n1 n2 => by unfold aliv; rw [un_ne (e1' n n2)])
  have ea2 : aliv (un st (V + 1) 0) (V + 1) = 1 := by unfold aliv; rw [un_eq]; rfl
  have eh1 : cn (hasF (un fr (V + 1) [])) V = cn (hasF fr) V := cn_cg V (fun n n1 n2 => by unfold hasF; rw [un_ne (e1' n n2)])
  have eh2 : hasF (un fr (V + 1) []) (V + 1) = 0 := by unfold hasF; rw [un_eq]; rfl
  have ne : ∀ i, un fr (V + 1) [] i ≠ [] → i ≠ V + 1 ∧ fr i ≠ [] := fun i hi => by
    by_cases c : i = V + 1
    · rw [c, un_eq] at hi; exact absurd rfl hi
    · rw [un_ne c] at hi; exact ⟨c, hi⟩
  have ek : ∀ i, i ≤ kV κ → kI κ' (1002 + 8 * i) 10 = kI κ (1002 + 8 * i) 10 := fun i hi => by
    by_cases c : i = V + 1
    · subst c; exact m5.2 hi
    · rw [(m1 _ (by omega) (by omega)).1]
  have hmk : Mkd κ0 σ0 κ' (mdR σ V al (nI sc) ar (nI m)) := by
    obtain ⟨-, q1, q2, q3, q4, q5⟩ := k2
    have hb12 : b ≤ 12 := sta.1.2.2.2.1
    refine ⟨Nat.le_trans q1 m5.1, fun i hi => (ek i (Nat.le_trans hi q1)).trans (q2 i hi), (mdR_k (by omega)).trans q3, fun n V' h47 h60 n1 n2 hz => ?_, fun V0 V' h0 h60 hV' hV60 => ?_⟩
    · have eV : V' = V + 1 := by
        rw [mdR_48.1] at h47
        exact ((nI_eq (by omega) (by omega)).mp h47).symm
      by_cases c : n = V + 1
      · rw [c, e1, mdR_k (by omega), cl_nI (by omega)] at hz
        rw [c, e2]
        exact har hz
      · rw [mdR_n (by omega) c, mdR_k (by omega)] at hz
        rw [mdR_n (by omega) c]
        exact q4 n V s1.2 s8 n1 (by omega) hz
    · rw [m4.1] at hV'
      have eV : V + 1 = V' := (nI_eq (by omega) (by omega)).mp hV'
      obtain ⟨q6, q7⟩ := q5 V0 V h0 h60 s1.1 s8
      refine ⟨by omega, fun i s0 i1 i2 t1 t2 hs0 => ?_⟩
      obtain ⟨t, t3, t4⟩ := q7 i s0 i1 i2 t1 t2 hs0
      exact ⟨t, t3, by rw [(m1 _ (by omega) (by omega)).1]; exact t4⟩
  refine ⟨⟨⟨fun g hg => ?_, ⟨m8.trans k2.1, hmk⟩, fun k h1 h2 => ?_⟩, sta, rg.trans m9⟩, ⟨⟨m4.1, mdR_48.1⟩, ⟨m4.2, mdR_48.2⟩, ?_, ?_, ?_, ?_, ?_, by omega, m6, m7, by omega, s12, by omega, s14, s15⟩, fun n n1 n2 => ?_, ⟨?_, ?_, ?_, fun n h1 h2 => ?_, fun n n' a1 a2 a3 a4 a5 a6 a7 => ?_, fun p hp => ?_⟩, a8.cg (fun g hg => ⟨(m1 g (by omega) (by omega)).1, by rw [m2]⟩) (m3 9 (by decide) (by decide)) (fun k h1 h2 => mdR_k (by omega)), a9.fr (by rw [(m1 84 (by omega) (by omega)).1]) (m1 85 (by omega) (by omega)).1 (by rw [m2]) (fun k h1 h2 => mdR_k (by omega)), fun n n1 n2 => ?_⟩
  · have hg' := hg
    unfold hCd at hg'
    rw [(m1 g (by omega) (by omega)).1, (m1 g (by omega) (by omega)).2, m2]
    exact k1 g hg
  · rw [mdR_k (by omega)]
    exact k3 k h1 h2
  · rw [m3 12 (by decide) (by decide), es 75 (by decide)]; exact s3
  · rw [m3 13 (by decide) (by decide), es 77 (by decide)]; exact s4
  · rw [m3 16 (by decide) (by decide), es 79 (by decide)]; exact s5
  · rw [m3 8 (by decide) (by decide)]; exact s6
  · rw [m3 17 (by decide) (by decide), es 76 (by decide)]; exact s7
  · by_cases c : n = V + 1
    · subst c
      rw [un_eq]
      unfold Vof
      rw [f0, f1, f2, f3, f4, f5, f6, f7, f11, e0, e1, e2, e3, e4, e5, e6, e8, mdR_k (k := 19) (by omega)]
      exact ⟨rfl, ⟨rfl, rfl, by omega⟩, ⟨sc, hsc, rfl, rfl, h19⟩, rfl, ⟨m, by omega, rfl, rfl⟩, ⟨rfl, Or.inl rfl⟩, rfl, rfl, 0, by omega, rfl, rfl⟩
    · rw [un_ne c]
      exact ((a5 n n1 (by omega)).cg (fun k hk => by rw [(m1 _ (by omega) (by omega)).1]) (fun k h1 h2 => mdR_n h1 c) (mdR_k (by omega))).up (Nat.le_succ V)
  · show al + 1 = cn (aliv (un st (V + 1) 0)) V + aliv (un st (V + 1) 0) (V + 1)
    rw [ea1, ea2, r1]
  · show sp + (cn (hasF (un fr (V + 1) [])) V + hasF (un fr (V + 1) []) (V + 1)) ≤ 12
    rw [eh1, eh2]
    omega
  · rw [m2]; exact r3
  · rw [m2]; exact r4 n (by omega) h2
  · have h1 := ne n a6
    have h2 := ne n' a7
    exact r5 n n' a1 (by omega) a3 (by omega) a5 h1.2 h2.2
  · rw [mdR_k (by omega)]
    refine (r6 p hp).imp id (fun ⟨q1, n, q2, q3, q4, q5⟩ => ⟨q1, n, q2, by omega, ?_, q5⟩)
    rw [un_ne (e1' n q3)]
    exact q4
  · by_cases c : n = V + 1
    · subst c
      rw [un_eq]
      exact Or.inl ⟨rfl, by rw [m2]; exact r4 (V + 1) (by omega) (by omega), e9, f8⟩
    · rw [un_ne c]
      rcases a10 n n1 (by omega) with ⟨h1, h2, h3, h4⟩ | ⟨h1, h2, h3, h4⟩
      · exact Or.inl ⟨h1, by rw [m2]; exact h2, by rw [mdR_n (by omega) c]; exact h3, by rw [(m1 _ (by omega) (by omega)).1]; exact h4⟩
      · have h3 : VR σ n (pt n) (fr n) := h3.elim id (fun z => absurd z.1 (by omega))
        exact Or.inr ⟨h1, h2.cg5 (fun k hk => by rw [(m1 _ (by omega) (by omega)).1]) (m1 _ (by omega) (by omega)).1 (by rw [m2]) m5.1, Or.inl (h3.o58 (mdR_n (by omega) c) (fun k h1 h2 => mdR_k (by omega))), by rw [mdR_k (by omega)]; exact h4⟩
/-- sums with a new voice -/
theorem new_sums (hV : V < 60) : cn (vArm (un st (V + 1) 0) (un fr (V + 1) [])) (V + 1) = cn (vArm st fr) V + 1 ∧ pot (V + 1) S (un st (V + 1) 0) (un fr (V + 1) []) + 100 = pot V S st fr ∧ ∀ y, cn (fun n => kps y (un fr (V + 1) [] n)) (V + 1) = cn (fun n => kps y (fr n)) V := by
  have e1' : ∀ n, n ≤ V → n ≠ V + 1 := fun n hn z => by omega
  refine ⟨?_, ?_, fun y => ?_⟩
  · show cn (vArm (un st (V + 1) 0) (un fr (V + 1) [])) V + vArm (un st (V + 1) 0) (un fr (V + 1) []) (V + 1) = _
    rw [cn_cg V (fun n n1 n2 => by unfold vArm; rw [un_ne (e1' n n2), un_ne (e1' n n2)] : ∀ n, 1 ≤ n → n ≤ V → vArm (un st (V + 1) 0) (un fr (V + 1) []) n = vArm st fr n)]
    have e : vArm (un st (V + 1) 0) (un fr (V + 1) []) (V + 1) = 1 := by unfold vArm; rw [un_eq, un_eq]; rfl
    rw [e]
  · unfold pot
    show (6000 - S) * 32000 + (60 - (V + 1)) * 9900 + (cn (vWt (un st (V + 1) 0) (un fr (V + 1) [])) V + vWt (un st (V + 1) 0) (un fr (V + 1) []) (V + 1)) + 100 = _
    rw [cn_cg V (fun n n1 n2 => by unfold vWt; rw [un_ne (e1' n n2), un_ne (e1' n n2)] : ∀ n, 1 ≤ n → n ≤ V → vWt (un st (V + 1) 0) (un fr (V + 1) []) n = vWt st fr n)]
    have e : vWt (un st (V + 1) 0) (un fr (V + 1) []) (V + 1) = 9800 := by unfold vWt; rw [un_eq, un_eq]; rfl
    rw [e]
    omega
  · show cn (fun n => kps y (un fr (V + 1) [] n)) V + kps y (un fr (V + 1) [] (V + 1)) = _
    rw [cn_cg V (fun n n1 n2 => by show kps y (un fr (V + 1) [] n) = kps y (fr n); rw [un_ne (e1' n n2)] : ∀ n, 1 ≤ n → n ≤ V → (fun n => kps y (un fr (V + 1) [] n)) n = (fun n => kps y (fr n)) n), un_eq]
    rfl
/-- the colours with a new voice -/
theorem Col.new (h : Col κ σ V F0 fr w rz) (hV : V < 60) (ek : kI κ' 84 = kI κ 84) (e86 : ∀ h, 86 ≤ h → h ≤ 88 → kI κ' h = kI κ h ∧ kW κ' h = kW κ h) (es : ∀ k, 88 ≤ k → k ≤ 97 → aI σ' k = aI σ k) : Col κ' σ' (V + 1) F0 (un fr (V + 1) []) w rz := by
  obtain ⟨c1, c2, c3, c4, c5⟩ := h.cg ek e86 es
  refine ⟨c1, fun g hg => ?_, fun n f x n1 n2 hf hx x1 x2 g hg e => ?_, c4, c5⟩
  · rw [(new_sums (S := 0) (st := fun _ => 0) hV).2.2 g]
    exact c2 g hg
  · by_cases c : n = V + 1
    · rw [c, un_eq] at hf
      exact absurd hf List.not_mem_nil
    · rw [un_ne c] at hf
      exact c3 n f x n1 (by omega) hf hx x1 x2 g hg e
/-- the chain with a new voice -/
theorem Chan.new {x1 : Int32} (h : Chan σ V T st ch) : Chan (mdR σ V al x1 ar mk) (V + 1) T (un st (V + 1) 0) ch := by
  obtain ⟨h1, h2, h3, h4, h5, h6, h7⟩ := h
  have e1' : ∀ n, n ≤ V → n ≠ V + 1 := fun n hn z => by omega
  refine ⟨h1, h2, fun x hx => ?_, fun x x1 x2 x3 => ?_, fun x hx => ?_, h6.on _ (fun x hx => mdR_n (by omega) (e1' x (h3 x hx).2.1)), fun x x1 x2 x3 => ?_⟩
  · obtain ⟨a1, a2, a3⟩ := h3 x hx
    exact ⟨a1, by omega, by rw [un_ne (e1' x a2)]; exact a3⟩
  · by_cases c : x = V + 1
    · rw [c, un_eq] at x3; omega
    · rw [un_ne c] at x3; exact h4 x x1 (by omega) x3
  · rw [un_ne (e1' x (h3 x hx).2.1)]
    exact h5 x hx
  · by_cases c : x = V + 1
    · rw [c, mdR_v.2.2.2.2.2.2.2.2.1] at x3
      exact absurd x3 (by decide)
    · rw [mdR_n (by omega) c] at x3 ⊢
      obtain ⟨a1, a2, a3⟩ := h7 x x1 (by omega) x3
      rw [un_ne c]
      refine ⟨a1, a2, fun z => (a3 z).imp id (fun ⟨y, y1, y2, y3, y4⟩ => ⟨y, y1, by omega, y3, ?_⟩)⟩
      rw [mdR_n (by omega) (e1' y y2)]
      exact y4
end NEWB
