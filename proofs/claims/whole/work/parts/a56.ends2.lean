/-! a voice is over: both -/
section ENDS2
variable {X : Cx} {κ0 κ κ' : Km} {σ0 σ σ' : Rm} {b V al S T T' sp z LT HT LT' HT' F0 F0' v p n x x' q s : Nat} {st : Nat → Nat} {fr : Nat → List Frm} {pt : Nat → Nat} {fs : List Frm} {ch : List Nat} {y u : Int32} {H : Nat → Prop}
theorem enK_w {g : Nat} (h1 : g ≠ 1003 + 8 * n) (h2 : g ≠ 1004 + 8 * s) : kW (enK κ n s y) g = kW κ g := by
  unfold enK
  split
  · rfl
  · show kW (mvR (endV κ (1002 + 8 * n) y) (1003 + 8 * n) (1004 + 8 * s)) g = _
    rw [kW_mv, if_neg h2, if_neg h1]
    rfl
theorem enK_w0 : kW (enK κ n s y) (1003 + 8 * n) = 0 := by
  unfold enK
  split
  · rename_i c
    exact c
  · show kW (mvR (endV κ (1002 + 8 * n) y) (1003 + 8 * n) (1004 + 8 * s)) _ = _
    rw [kW_mv, if_neg (by omega), if_pos rfl]
theorem enK_wA (h : kW κ (1003 + 8 * n) = 0) {g : Nat} : kW (enK κ n s y) g = kW κ g := by
  unfold enK
  rw [if_pos h]
  rfl
theorem enK_wB (h : kW κ (1003 + 8 * n) ≠ 0) : kW (enK κ n s y) (1004 + 8 * s) = kW κ (1003 + 8 * n) := by
  unfold enK
  rw [if_neg h]
  show kW (mvR (endV κ (1002 + 8 * n) y) (1003 + 8 * n) (1004 + 8 * s)) _ = _
  rw [kW_mv, if_pos rfl]
  rfl
theorem enK_8A (h : kW κ (1003 + 8 * n) = 0) : kI (enK κ n s y) 79 8 = kI κ 79 8 := by
  unfold enK
  rw [if_pos h]
  unfold endV
  rw [kI_nk (by decide), kI_ne (by omega), kI_ne (by omega)]
theorem enK_8B (h : kW κ (1003 + 8 * n) ≠ 0) : kI (enK κ n s y) 79 8 = nI (s + 1) := by
  unfold enK
  rw [if_neg h, kI_eq]
theorem enK_BV : kB (enK κ n s y) = kB κ ∧ kV (enK κ n s y) = kV κ := by
  unfold enK
  split <;> exact ⟨rfl, rfl⟩
theorem enK_rg (hn : n ≤ 60) (hs : kW κ (1003 + 8 * n) ≠ 0 → s < 12 ∧ kW κ (1004 + 8 * s) = 0) : RG κ (enK κ n s y) := by
  have e : RG κ (endV κ (1002 + 8 * n) y) := RG.cI.trans (RG.cI.trans RG.cI)
  unfold enK
  split
  · exact e
  · rename_i c
    exact e.trans ((RG.mv hn (hs c).1 (hs c).2).trans RG.cI)
theorem enR_59A (h : aI σ 58 n = -9) : aI (enR σ n al y) 59 = aI σ 59 := by
  unfold enR
  rw [if_pos h, aI_ne (by decide), aI_ne (by decide)]
theorem enR_59B {p' : Nat} (h : aI σ 58 n = nI p) (hp : p < 12) : aI (enR σ n al y) 59 p' = if p' = p then 0 else aI σ 59 p' := by
  unfold enR
  rw [if_neg (by rw [h]; exact neg9 (by omega)), h, cl_nI (by omega), aI_ne (by decide)]
  by_cases c : p' = p
  · rw [c, if_pos rfl, aI_eq]
  · rw [if_neg c, aI_ni c, aI_ne (by decide), aI_ne (by decide)]
theorem hasF_nil (h : fr n = []) : hasF fr n = 0 := by unfold hasF; rw [h]; rfl
theorem hasF_one (h : fr n ≠ []) : hasF fr n = 1 := if_neg (fun z => h (List.length_eq_zero_iff.mp z))
theorem Rows.sp12 (h : Rows κ σ V al sp st fr pt) (hn : 1 ≤ n ∧ n ≤ V) (c : fr n ≠ []) : sp < 12 := by
  have h2 := h.2.1
  have e := cn_up (g := hasF fr) (g' := un (hasF fr) n 0) (n := n) (fun k hk => un_ne hk) V hn.1 hn.2
  rw [un_eq, hasF_one c] at e
  omega
theorem Bn.end (h : Bn κ0 σ0 κ σ b V al S T sp z LT HT F0 st fr pt x) (hn : 1 ≤ n ∧ n ≤ V) (hs : st n < 4) (h4 : 4 ≤ s ∧ s ≤ 6) (hx : x = 0 ∨ x = n) : Bn κ0 σ0 (enK κ n sp (nI s)) (enR σ n al (nI s)) b V (al - 1) S T (sp + hasF fr n) z LT HT F0 (un st n s) (un fr n []) pt x' := by
  obtain ⟨⟨⟨k1, k2, k3⟩, sta, rg⟩, ⟨s1, s2, s3, s4, s5, s6, s7, s8, s9, s10, s11, s12, s13, s14, s15⟩, a5, a7, a8, a9, a10⟩ := h
  have hc := a10 n hn.1 hn.2
  obtain ⟨w1, w2⟩ := hc.wid
  have hr := a7
  obtain ⟨r1, r2, r3, r4, r5, r6⟩ := a7
  have hs12 : fr n ≠ [] → sp < 12 := hr.sp12 hn
  have eal := cn_up (g := aliv st) (g' := aliv (un st n s)) (n := n) (fun k hk => by unfold aliv; rw [un_ne hk]) V hn.1 hn.2
  have ea1 : aliv st n = 1 := if_pos hs
  have ea2 : aliv (un st n s) n = 0 := by unfold aliv; rw [un_eq, if_neg (by omega)]
  rw [ea1, ea2] at eal
  have ehf := cn_up (g := hasF fr) (g' := hasF (un fr n [])) (n := n) (fun k hk => by unfold hasF; rw [un_ne hk]) V hn.1 hn.2
  have ef2 : hasF (un fr n []) n = 0 := by unfold hasF; rw [un_eq]; rfl
  rw [ef2] at ehf
  have h1 : hasF fr n ≤ 1 := by unfold hasF; split <;> omega
  have sB : kW κ (1003 + 8 * n) ≠ 0 → sp < 12 ∧ kW κ (1004 + 8 * sp) = 0 := fun w0 => by
    have c : fr n ≠ [] := fun c => w0 (w1 c).1
    exact ⟨hs12 c, (r3 sp (hs12 c)).2 (Nat.le_refl _)⟩
  have e8 : kI (enK κ n sp (nI s)) 79 8 = nI (sp + hasF fr n) := by
    by_cases c : fr n = []
    · rw [enK_8A (w1 c).1, hasF_nil c]; exact s6
    · rw [enK_8B (w2 c).1, hasF_one c]
  have ek : ∀ m, kI (enK κ n sp (nI s)) (1002 + 8 * m) 10 = kI κ (1002 + 8 * m) 10 := fun m => by
    by_cases c : m = n
    · subst c; exact enK_v (by decide) (by decide)
    · rw [(enK_h (by omega) (by omega) (by omega)).1]
  have eo : OvM κ0 (enK κ n sp (nI s)) := fun V0 V' h0 h60 hV' hV60 => by
    rw [enK_79 (by decide) (by decide)] at hV'
    obtain ⟨q1, q2⟩ := k2.2.2.2.2.2 V0 V' h0 h60 hV' hV60
    refine ⟨q1, fun m s0 m1 m2 t1 t2 hs0 => ?_⟩
    obtain ⟨t, t3, t4⟩ := q2 m s0 m1 m2 t1 t2 hs0
    by_cases c : m = n
    · subst c; exact ⟨s, h4, enK_v1⟩
    · exact ⟨t, t3, by rw [(enK_h (by omega) (by omega) (by omega)).1]; exact t4⟩
  refine ⟨⟨⟨fun g hg => ?_, ⟨enK_BV.1.trans k2.1, k2.2.cg2 (Nat.le_of_eq enK_BV.2.symm) (fun m _ => ek m) (fun k hk => enR_k (by omega) (by omega) (by omega) (by omega)) eo⟩, fun k h1 h2 => ?_⟩, sta, rg.trans (enK_rg (by omega) sB)⟩, ⟨?_, ?_, ?_, ?_, ?_, e8, ?_, s8, by rw [enK_BV.2]; exact s9, by rw [enK_BV.2]; exact s10, by omega, s12, s13, ?_, s15⟩, fun m m1 m2 => ?_, ⟨by omega, by omega, fun k hk => ?_, fun m m1 m2 => ?_, fun m m' a1 a2 a3 a4 a5 a6 a7 => ?_, fun p hp => ?_⟩, a8.cg (fun g hg => ?_) (enK_79 (by decide) (by decide)) (fun k k1 k2 => enR_k (by omega) (by omega) (by omega) (by omega)), a9.fr (by rw [(enK_h (by omega) (by omega) (by omega)).1]) (enK_h (by omega) (by omega) (by omega)).1 (enK_w (by omega) (by omega)) (fun k k1 k2 => enR_k (by omega) (by omega) (by omega) (by omega)), fun m m1 m2 => ?_⟩
  · have hg' := hg
    unfold hCd at hg'
    obtain ⟨e1, e2⟩ := enK_h (κ := κ) (n := n) (s := sp) (y := nI s) (g := g) (by omega) (by omega) (by omega)
    rw [e1, e2, enK_w (by omega) (by omega)]
    exact k1 g hg
  · rw [enR_k (by omega) (by omega) (by omega) (by omega), enR_l]
    exact k3 k h1 h2
  · rw [enK_79 (by decide) (by decide), show sI (enR σ n al (nI s)) 47 = sI σ 47 from congrFun (enR_k (by decide) (by decide) (by decide) (by decide)) 0]; exact s1
  · rw [enK_al, enR_48, s2.1, litI 1, nI_sb (by omega)]; exact ⟨rfl, rfl⟩
  · rw [enK_79 (by decide) (by decide), show sI (enR σ n al (nI s)) 75 = sI σ 75 from congrFun (enR_k (by decide) (by decide) (by decide) (by decide)) 0]; exact s3
  · rw [enK_79 (by decide) (by decide), show sI (enR σ n al (nI s)) 77 = sI σ 77 from congrFun (enR_k (by decide) (by decide) (by decide) (by decide)) 0]; exact s4
  · rw [enK_79 (by decide) (by decide), show sI (enR σ n al (nI s)) 79 = sI σ 79 from congrFun (enR_k (by decide) (by decide) (by decide) (by decide)) 0]; exact s5
  · rw [enK_79 (by decide) (by decide), show sI (enR σ n al (nI s)) 76 = sI σ 76 from congrFun (enR_k (by decide) (by decide) (by decide) (by decide)) 0]; exact s7
  · by_cases c : fr n = []
    · rw [hasF_nil c]; exact s14
    · have := hs12 c; omega
  · by_cases c : m = n
    · subst c
      rw [un_eq]
      obtain ⟨v1, v2, v3, v4, v5, v6, v7, v8, v9⟩ := a5 m m1 m2
      have e : ∀ k, k ≠ 1 → k ≠ 8 → kI (enK κ m sp (nI s)) (1002 + 8 * m) k = kI κ (1002 + 8 * m) k := fun k h1 h2 => enK_v h1 h2
      have a : ∀ k, k ≠ 48 → k ≠ 49 → k ≠ 58 → k ≠ 59 → aI (enR σ m al (nI s)) k = aI σ k := fun k h1 h2 h3 h4 => enR_k h1 h2 h3 h4
      unfold Vof
      rw [e 0 (by decide) (by decide), e 2 (by decide) (by decide), e 3 (by decide) (by decide), e 4 (by decide) (by decide), e 5 (by decide) (by decide), e 6 (by decide) (by decide), e 7 (by decide) (by decide), e 11 (by decide) (by decide), a 19 (by decide) (by decide) (by decide) (by decide), a 50 (by decide) (by decide) (by decide) (by decide), a 51 (by decide) (by decide) (by decide) (by decide), a 52 (by decide) (by decide) (by decide) (by decide), a 53 (by decide) (by decide) (by decide) (by decide), a 54 (by decide) (by decide) (by decide) (by decide), a 55 (by decide) (by decide) (by decide) (by decide), a 57 (by decide) (by decide) (by decide) (by decide)]
      exact ⟨v1, ⟨enK_v1, enR_49e, h4.2⟩, v3, v4, v5, v6, v7, v8, v9⟩
    · rw [un_ne c]
      refine (a5 m m1 m2).cg (fun k hk => by rw [(enK_h (by omega) (by omega) (by omega)).1]) (fun k h1 h2 => ?_) (enR_k (by decide) (by decide) (by decide) (by decide))
      by_cases d : k = 49
      · rw [d, enR_49 c]
      · rw [enR_k (by omega) d (by omega) (by omega)]
  · by_cases c : fr n = []
    · rw [enK_wA (w1 c).1, hasF_nil c]
      exact r3 k hk
    · rw [hasF_one c]
      by_cases d : k = sp
      · subst d
        rw [enK_wB (w2 c).1]
        exact ⟨fun _ => ⟨(w2 c).1, (w2 c).2.2.1, (w2 c).2.1⟩, fun z => by omega⟩
      · rw [enK_w (by omega) (by omega)]
        exact ⟨fun z => (r3 k hk).1 (by omega), fun z => (r3 k hk).2 (by omega)⟩
  · rw [enK_w (by omega) (by omega)]
    exact r4 m m1 m2
  · have e : ∀ i, un fr n [] i ≠ [] → i ≠ n ∧ fr i ≠ [] := fun i hi => by
      by_cases c : i = n
      · rw [c, un_eq] at hi; exact absurd rfl hi
      · rw [un_ne c] at hi; exact ⟨c, hi⟩
    exact r5 m m' a1 a2 a3 a4 a5 (e m a6).2 (e m' a7).2
  · by_cases c : fr n = []
    · rw [enR_59A (w1 c).2]
      refine (r6 p hp).imp id (fun ⟨e, m, e1, e2, e3, e4⟩ => ⟨e, m, e1, e2, ?_, e4⟩)
      rw [un_ne (fun z : m = n => e3 (by rw [z]; exact c))]
      exact e3
    · obtain ⟨-, -, -, q1, q2⟩ := w2 c
      rw [enR_59B q2 q1]
      by_cases d : p = pt n
      · rw [if_pos d]; exact Or.inl rfl
      · rw [if_neg d]
        refine (r6 p hp).imp id (fun ⟨e, m, e1, e2, e3, e4⟩ => ⟨e, m, e1, e2, ?_, e4⟩)
        rw [un_ne (fun z : m = n => d (by rw [← e4, z]))]
        exact e3
  · obtain ⟨e1, e2⟩ := enK_h (κ := κ) (n := n) (s := sp) (y := nI s) (g := g) (by omega) (by omega) (by omega)
    exact ⟨e1, enK_w (by omega) (by omega)⟩
  · by_cases c : m = n
    · subst c
      rw [un_eq]
      exact Or.inl ⟨rfl, by rw [← cel3]; exact enK_w0, enR_58e, enK_v8⟩
    · rw [un_ne c]
      have hm := a10 m m1 m2
      have hcg : ∀ k, k = 8 ∨ k = 9 ∨ k = 13 ∨ k = 14 ∨ k = 15 → kI (enK κ n sp (nI s)) (1002 + 8 * m) k = kI κ (1002 + 8 * m) k := fun k hk => by rw [(enK_h (by omega) (by omega) (by omega)).1]
      have e2 : kI (enK κ n sp (nI s)) (1002 + 8 * m + 1) = kI κ (1002 + 8 * m + 1) := (enK_h (by omega) (by omega) (by omega)).1
      have e3 : kW (enK κ n sp (nI s)) (1002 + 8 * m + 1) = kW κ (1002 + 8 * m + 1) := enK_w (by omega) (by omega)
      rcases hm with ⟨h1, h2, h3, h4⟩ | ⟨h1, h2, h3, h4⟩
      · exact Or.inl ⟨h1, by rw [e3]; exact h2, by rw [enR_58 c]; exact h3, by rw [hcg 8 (by decide)]; exact h4⟩
      · have h3 : VR σ m (pt m) (fr m) := h3.elim id (fun z => absurd z.1 (by omega))
        have a : ∀ k, k ≠ 48 → k ≠ 49 → k ≠ 58 → k ≠ 59 → aI (enR σ n al (nI s)) k = aI σ k := fun k h1 h2 h3 h4 => enR_k h1 h2 h3 h4
        refine Or.inr ⟨h1, h2.cg5 hcg e2 e3 (by rw [enK_BV.2]; exact Nat.le_refl _), Or.inl (h3.fr (enR_58 c) ⟨by rw [a 60 (by decide) (by decide) (by decide) (by decide)], by rw [a 68 (by decide) (by decide) (by decide) (by decide)], by rw [a 73 (by decide) (by decide) (by decide) (by decide)]⟩ ⟨fun k i h1 h2 _ => by rw [a k (by omega) (by omega) (by omega) (by omega)], fun i _ => by rw [a 66 (by omega) (by omega) (by omega) (by omega)], fun i _ => by rw [a 67 (by omega) (by omega) (by omega) (by omega)], fun k i h1 h2 _ => by rw [a k (by omega) (by omega) (by omega) (by omega)], fun i _ => by rw [a 74 (by omega) (by omega) (by omega) (by omega)]⟩), ?_⟩
        by_cases cn : fr n = []
        · rw [enR_59A (w1 cn).2]; exact h4
        · obtain ⟨-, -, -, q1, q2⟩ := w2 cn
          rw [enR_59B q2 q1, if_neg (fun z => r5 m n m1 m2 hn.1 hn.2 c h1 cn z)]
          exact h4
end ENDS2
