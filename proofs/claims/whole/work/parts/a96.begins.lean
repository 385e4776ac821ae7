/-! a voice begins: the pieces -/
section BEGINS
variable {X : Cx} {d e er : Nat} {κ0 κ κa κb κc κ1 κ' : Km} {σ0 σ σa σc σr σ1 σ' : Rm} {b V al S T sp z LT HT F0 v p n x q g k : Nat} {st : Nat → Nat} {fr fr' : Nat → List Frm} {pt : Nat → Nat} {fs r rr : List Frm} {y u : Int32}
/-- what stays while a voice begins -/
def BegF (κ κ' : Km) (n sp : Nat) : Prop := (∀ g, g ≠ 79 → g ≠ 1002 + 8 * n → g ≠ 1003 + 8 * n → (sp = 0 ∨ g ≠ 1004 + 8 * (sp - 1)) → kI κ' g = kI κ g ∧ kL κ' g = kL κ g ∧ kW κ' g = kW κ g) ∧ (∀ k, k ≠ 8 → kI κ' 79 k = kI κ 79 k) ∧ kI κ' 79 8 = nI (sp - 1) ∧ (sp ≠ 0 → kW κ' (1004 + 8 * (sp - 1)) = 0) ∧ (kV κ' = kV κ ∧ kB κ' = kB κ) ∧ RG κ κ' ∧ ∀ k, k ≠ 8 → k ≠ 9 → k ≠ 13 → k ≠ 14 → k ≠ 15 → kI κ' (1002 + 8 * n) k = kI κ (1002 + 8 * n) k
theorem BegF.par (h : BegF κ κ' n sp) {k : Nat} : BegF (cI κ (1002 + 8 * n) k y) (cI κ' (1002 + 8 * n) k y) n sp := by
  obtain ⟨h1, h2, h3, h4, h5, h6, h7⟩ := h
  refine ⟨fun g g1 g2 g3 g4 => ?_, fun k hk => by rw [kI_ne (by omega), kI_ne (by omega)]; exact h2 k hk, by rw [kI_ne (by omega)]; exact h3, h4, h5, rg_par h6, fun k' k1 k2 k3 k4 k5 => ?_⟩
  · rw [kI_ne g2, kI_ne g2]
    exact h1 g g1 g2 g3 g4
  · by_cases c : k' = k
    · rw [c, kI_eq, kI_eq]
    · rw [kI_nk c, kI_nk c]
      exact h7 k' k1 k2 k3 k4 k5
theorem BegF.kvo (h : BegF κ κ1 n sp) (ko : Vo n κ1 κ') : BegF κ κ' n sp := by
  obtain ⟨h1, h2, h3, h4, h5, h6, h7⟩ := h
  refine ⟨fun g g1 g2 g3 g4 => ?_, fun k hk => by rw [(ko.h (h := 79) (by omega) (by omega)).1]; exact h2 k hk, by rw [(ko.h (h := 79) (by omega) (by omega)).1]; exact h3, fun hs => by rw [(ko.h (h := 1004 + 8 * (sp - 1)) (by omega) (by omega)).2.2]; exact h4 hs, ⟨ko.1.2.2.2.trans h5.1, ko.1.2.2.1.trans h5.2⟩, h6.trans ko.2.1, fun k k1 k2 k3 k4 k5 => (ko.2.2 k k1 k2 k3 k4 k5).trans (h7 k k1 k2 k3 k4 k5)⟩
  obtain ⟨e1, e2, e3⟩ := ko.h (h := g) g2 (by omega)
  rw [e1, e2, e3]
  exact h1 g g1 g2 g3 g4
theorem rg_mv2 {s : Nat} (hn : n ≤ 60) (hs : s < 12) (h0 : kW κ (1003 + 8 * n) = 0) : RG κ (mvR κ (1004 + 8 * s) (1003 + 8 * n)) := by
  have s1 := sumW_one (κ := κ) (κ' := mvR κ (1004 + 8 * s) (1003 + 8 * n)) (a := 1003) (j := n) 61 (by omega) (fun i hi hne => by rw [kW_mv, if_neg (by omega), if_neg (by omega)])
  have s2 := sumW_one (κ := κ) (κ' := mvR κ (1004 + 8 * s) (1003 + 8 * n)) (a := 1004) (j := s) 12 hs (fun i hi hne => by rw [kW_mv, if_neg (by omega), if_neg (by omega)])
  have e1 : kW (mvR κ (1004 + 8 * s) (1003 + 8 * n)) (1003 + 8 * n) = kW κ (1004 + 8 * s) := by rw [kW_mv, if_pos rfl]
  have e2 : kW (mvR κ (1004 + 8 * s) (1003 + 8 * n)) (1004 + 8 * s) = 0 := by rw [kW_mv, if_neg (by omega), if_pos rfl]
  have z : kZ (mvR κ (1004 + 8 * s) (1003 + 8 * n)) = kZ κ := rfl
  have t : kT (mvR κ (1004 + 8 * s) (1003 + 8 * n)) = kT κ := rfl
  have v : kV (mvR κ (1004 + 8 * s) (1003 + 8 * n)) = kV κ := rfl
  have b : kB (mvR κ (1004 + 8 * s) (1003 + 8 * n)) = kB κ := rfl
  have o : ∀ h, h < 92 → kW (mvR κ (1004 + 8 * s) (1003 + 8 * n)) h = kW κ h := fun h hh => by rw [kW_mv, if_neg (by omega), if_neg (by omega)]
  rw [e1, h0] at s1
  rw [e2] at s2
  unfold RG Pot
  rw [z, t, v, b, o 69 (by decide), o 70 (by decide), o 74 (by decide), o 75 (by decide), o 76 (by decide), o 81 (by decide), o 83 (by decide), o 85 (by decide)]
  omega
/-- what spareRow and begin do -/
theorem begK_f (hn : 1 ≤ n ∧ n ≤ 60) (hkV : n ≤ kV κ) (h0 : kW κ (1003 + 8 * n) = 0) (h8 : kI κ 79 8 = nI sp) (hsp : sp ≤ 12) (hw : sp ≠ 0 → 40 ≤ kW κ (1004 + 8 * (sp - 1)) ∧ kW κ (1004 + 8 * (sp - 1)) ≤ 40000) (hc : kI κ (1002 + 8 * n) 8 = 0) : BegF κ (begK κ n sp) n sp ∧ Vc (begK κ n sp) n (kI (begK κ n sp) (1003 + 8 * n)) 1 0 (-9) (-9) 0 ∧ kI (begK κ n sp) (1003 + 8 * n) 0 = kI κ (1002 + 8 * n) 3 := by
  -- begV, over a row that is there
  have go : ∀ κ1 : Km, BegF κ κ1 n sp → (∀ k, kI κ1 (1002 + 8 * n) k = kI κ (1002 + 8 * n) k) → (40 ≤ kW κ1 (1003 + 8 * n) ∧ kW κ1 (1003 + 8 * n) ≤ 40000) → BegF κ (begV κ1 n) n sp ∧ Vc (begV κ1 n) n (kI (begV κ1 n) (1003 + 8 * n)) 1 0 (-9) (-9) 0 ∧ kI (begV κ1 n) (1003 + 8 * n) 0 = kI κ (1002 + 8 * n) 3 := fun κ1 bf er ew => by
    have ko : Vo n κ1 (begV κ1 n) := by
      unfold begV
      rw [cel3]
      exact ((((Vo.cel.trans (Vo.reg (by decide))).trans (Vo.reg (by decide))).trans (Vo.reg (by decide))).trans (Vo.reg (by decide)))
    refine ⟨bf.kvo ko, ⟨⟨hn.1, by rw [ko.1.2.2.2, bf.2.2.2.2.1.1]; exact hkV, hn.2⟩, ?_, ?_, fun k _ => by rw [cel3]⟩, ?_⟩
    · unfold begV
      refine ⟨?_, ?_, ?_, kI_eq, ?_⟩
      · rw [kI_nk (by decide), kI_nk (by decide), kI_nk (by decide), kI_eq]; rfl
      · rw [kI_nk (by decide), kI_nk (by decide), kI_eq]; rfl
      · rw [kI_nk (by decide), kI_eq]
      · rw [kI_nk (by decide), kI_nk (by decide), kI_nk (by decide), kI_nk (by decide), kI_ne (by omega), er 8, hc]; rfl
    · rw [← cel3]
      show 1 ≤ kW κ1 (1003 + 8 * n) ∧ 40 ≤ kW κ1 (1003 + 8 * n) ∧ kW κ1 (1003 + 8 * n) ≤ 40000
      omega
    · unfold begV
      rw [kI_ne (by omega), kI_ne (by omega), kI_ne (by omega), kI_ne (by omega), kI_eq, er 3]
  unfold begK
  by_cases c : sp = 0
  · rw [if_pos c]
    subst c
    have ew : ∀ g, kW (cRow κ (1003 + 8 * n) 40 (fun _ => 0) (fun _ => 0)) g = if g = 1003 + 8 * n then 40 else kW κ g := fun g => kW_row
    have ei : ∀ g, g ≠ 1003 + 8 * n → kI (cRow κ (1003 + 8 * n) 40 (fun _ => 0) (fun _ => 0)) g = kI κ g := fun g hg => by rw [kI_row, if_neg hg]
    refine go _ ⟨fun g g1 g2 g3 g4 => ⟨ei g g3, by rw [kL_row, if_neg g3], by rw [ew, if_neg g3]⟩, fun k hk => by rw [ei 79 (by omega)], by rw [ei 79 (by omega)]; exact h8, fun z => absurd rfl z, ⟨rfl, rfl⟩, ?_, fun k _ _ _ _ _ => by rw [ei _ (by omega)]⟩ (fun k => by rw [ei _ (by omega)]) (by rw [ew, if_pos rfl]; omega)
    have := RG.cells (κ := κ) (n := n) (w := 40) (f := fun _ => 0) (l := fun _ => 0) hn.2 (by rw [← cel3, h0]; omega) (by omega)
    rw [← cel3] at this
    exact this
  · rw [if_neg c]
    obtain ⟨w1, w2⟩ := hw c
    have h8' : sp - 1 < 12 := by omega
    have ew : ∀ g, kW (mvR (cI κ 79 8 (nI (sp - 1))) (1004 + 8 * (sp - 1)) (1003 + 8 * n)) g = if g = 1003 + 8 * n then kW κ (1004 + 8 * (sp - 1)) else if g = 1004 + 8 * (sp - 1) then 0 else kW κ g := fun g => kW_mv
    have ei : ∀ g, g ≠ 1003 + 8 * n → g ≠ 79 → kI (mvR (cI κ 79 8 (nI (sp - 1))) (1004 + 8 * (sp - 1)) (1003 + 8 * n)) g = kI κ g := fun g hg h1 => by rw [kI_mv hg, kI_ne h1]
    have e79 : kI (mvR (cI κ 79 8 (nI (sp - 1))) (1004 + 8 * (sp - 1)) (1003 + 8 * n)) 79 = kI (cI κ 79 8 (nI (sp - 1))) 79 := kI_mv (by omega)
    refine go _ ⟨fun g g1 g2 g3 g4 => ⟨ei g g3 g1, by rw [kL_mv g3]; rfl, by rw [ew, if_neg g3, if_neg (g4.resolve_left c)]⟩, fun k hk => by rw [e79, kI_nk hk], by rw [e79, kI_eq], fun _ => by rw [ew, if_neg (by omega), if_pos rfl], ⟨rfl, rfl⟩, RG.cI.trans (rg_mv2 hn.2 h8' h0), fun k _ _ _ _ _ => by rw [ei _ (by omega) (by omega)]⟩ (fun k => by rw [ei _ (by omega) (by omega)]) (by rw [ew, if_pos rfl]; exact ⟨w1, w2⟩)
/-- of twelve parts one is free -/
theorem free_part (hr : Rows κ σ V al sp st fr pt) (hc : cn (hasF fr) V < 12) : ∃ p, p < 12 ∧ aI σ 59 p = 0 ∧ ∀ k, k < p → aI σ 59 k ≠ 0 := by
  obtain ⟨r1, r2, r3, r4, r5, r6⟩ := hr
  have hex : ∃ p, p < 12 ∧ aI σ 59 p = 0 := by
    refine Classical.byContradiction (fun hno => ?_)
    have hall : ∀ p, p < 12 → ∃ n, 1 ≤ n ∧ n ≤ V ∧ fr n ≠ [] ∧ pt n = p := fun p hp => by
      rcases r6 p hp with z | ⟨-, z⟩
      · exact absurd ⟨p, hp, z⟩ hno
      · exact z
    have hf : ∀ p, ∃ n, p < 12 → 1 ≤ n ∧ n ≤ V ∧ fr n ≠ [] ∧ pt n = p := fun p => by
      by_cases hp : p < 12
      · obtain ⟨n, hn⟩ := hall p hp
        exact ⟨n, fun _ => hn⟩
      · exact ⟨0, fun z => absurd z hp⟩
    obtain ⟨N, hN⟩ := Classical.skolem.mp hf
    have hl : ((List.range 12).map N).length ≤ cn (hasF fr) V := by
      refine cn_mem _ _ _ ?_ (fun x hx => ?_)
      · refine List.nodup_iff_pairwise_ne.mpr (List.pairwise_map.mpr ?_)
        refine (List.Pairwise.imp_of_mem ?_ (List.pairwise_lt_range (n := 12)))
        intro a c ha hc' hac e
        have h1 := (hN a (List.mem_range.mp ha)).2.2.2
        have h2 := (hN c (List.mem_range.mp hc')).2.2.2
        rw [e, h2] at h1
        omega
      · obtain ⟨p, hp, rfl⟩ := List.mem_map.mp hx
        obtain ⟨h1, h2, h3, h4⟩ := hN p (List.mem_range.mp hp)
        exact ⟨h1, h2, by rw [hasF_one h3]; exact Nat.le_refl _⟩
    rw [List.length_map, List.length_range] at hl
    omega
  obtain ⟨p, hp, h0⟩ := hex
  have key : ∀ m p, p < m → p < 12 → aI σ 59 p = 0 → ∃ p, p < 12 ∧ aI σ 59 p = 0 ∧ ∀ k, k < p → aI σ 59 k ≠ 0 := by
    intro m
    induction m with
    | zero => intro p h; omega
    | succ m ih =>
      intro p h1 h2 h3
      by_cases c : ∃ k, k < p ∧ aI σ 59 k = 0
      · obtain ⟨k, k1, k2⟩ := c
        exact ih k (by omega) (by omega) k2
      · exact ⟨p, h2, h3, fun k hk z => c ⟨k, hk, z⟩⟩
  exact key (p + 1) p (Nat.lt_succ_self p) hp h0
/-- one that is not begun begins -/
theorem Bn.beg (h : Bn κ0 σ0 κ σ b V al S T sp z LT HT F0 st fr pt 0) (hn : 1 ≤ n ∧ n ≤ V) (hf : fr n = []) (hc : cn (hasF fr) V < 12) (bf : BegF κ κ' n sp) (hp : p < 12) (h59 : aI σ 59 p = 0) (ro : Ro p (wI (wI σ 59 p 1) 58 n (nI p)) σ') (vk : VK κ' n fs) (vr : VR σ' n p fs) (hne : fs ≠ []) : Bn κ0 σ0 κ' σ' b V al S T (sp - 1) z LT HT F0 st (un fr n fs) (un pt n p) 0 := by
  obtain ⟨⟨⟨k1, k2, k3⟩, sta, rg⟩, ⟨s1, s2, s3, s4, s5, s6, s7, s8, s9, s10, s11, s12, s13, s14, s15⟩, a5, ⟨r1, r2, r3, r4, r5, r6⟩, a8, a9, a10⟩ := h
  obtain ⟨f1, f2, f3, f4, ⟨f5, f6⟩, f7, f8⟩ := bf
  have es : ∀ k, (k < 58 ∨ 74 < k) → aI σ' k = aI σ k := fun k hk => by rw [ro.s (by omega), aI_ne (by omega), aI_ne (by omega)]
  have e58 : ∀ m, m ≠ n → aI σ' 58 m = aI σ 58 m := fun m hm => by rw [ro.s (by decide), aI_ni hm, aI_ne (by decide)]
  have e59 : ∀ m, aI σ' 59 m = if m = p then 1 else aI σ 59 m := fun m => by
    rw [ro.s (by decide), aI_ne (by decide)]
    by_cases c : m = p
    · rw [if_pos c, c, aI_eq]
    · rw [if_neg c, aI_ni c]
  have el : ∀ k, 1 ≤ k → k ≤ 46 → aL σ' k = aL σ k := fun k h1 h2 => by rw [ro.2.1]; rfl
  have ehf := cn_up (g := hasF fr) (g' := hasF (un fr n fs)) (n := n) (fun k hk => by unfold hasF; rw [un_ne hk]) V hn.1 hn.2
  have eh1 : hasF fr n = 0 := hasF_nil hf
  have eh2 : hasF (un fr n fs) n = 1 := hasF_one (by rw [un_eq]; exact hne)
  rw [eh1, eh2] at ehf
  have hk : ∀ g, g ≠ 79 → (g < 1000 ∨ g % 8 ≤ 1) → kI κ' g = kI κ g ∧ kL κ' g = kL κ g ∧ kW κ' g = kW κ g := fun g h1 h2 => f1 g h1 (by omega) (by omega) (by omega)
  have hfr : ∀ m, m ≠ n → un fr n fs m = fr m := fun m hm => un_ne hm
  have ek : ∀ i k, k = 1 ∨ k = 10 → kI κ' (1002 + 8 * i) k = kI κ (1002 + 8 * i) k := fun i k hk => by
    by_cases c : i = n
    · subst c; exact f8 k (by omega) (by omega) (by omega) (by omega) (by omega)
    · rw [(f1 _ (by omega) (by omega) (by omega) (by omega)).1]
  refine ⟨⟨⟨fun g hg => ?_, ⟨f6.trans k2.1, k2.2.cg (Nat.le_of_eq f5.symm) ek (f2 10 (by decide)) (fun k hk => es k (by omega))⟩, fun k h1 h2 => ?_⟩, sta, rg.trans f7⟩, ⟨?_, ?_, ?_, ?_, ?_, f3, ?_, s8, by rw [f5]; exact s9, by rw [f5]; exact s10, s11, s12, s13, by omega, s15⟩, fun m m1 m2 => ?_, ⟨r1, by omega, fun k hk2 => ?_, fun m m1 m2 => ?_, fun m m' a1 a2 a3 a4 a5 a6 a7 => ?_, fun q hq => ?_⟩, a8.cg (fun g hg => ?_) (f2 9 (by decide)) (fun k h1 h2 => es k (by omega)), a9.fr (by rw [(hk 84 (by decide) (by decide)).1]) (hk 85 (by decide) (by decide)).1 (hk 85 (by decide) (by decide)).2.2 (fun k h1 h2 => es k (by omega)), fun m m1 m2 => ?_⟩
  · have hg' := hg
    unfold hCd at hg'
    obtain ⟨e1, e2, e3⟩ := f1 g (by omega) (by omega) (by omega) (by omega)
    rw [e1, e2, e3]
    exact k1 g hg
  · rw [es k (by omega), el k h1 h2]
    exact k3 k h1 h2
  · rw [f2 10 (by decide), show sI σ' 47 = sI σ 47 from congrFun (es 47 (by decide)) 0]; exact s1
  · rw [f2 11 (by decide), show sI σ' 48 = sI σ 48 from congrFun (es 48 (by decide)) 0]; exact s2
  · rw [f2 12 (by decide), show sI σ' 75 = sI σ 75 from congrFun (es 75 (by decide)) 0]; exact s3
  · rw [f2 13 (by decide), show sI σ' 77 = sI σ 77 from congrFun (es 77 (by decide)) 0]; exact s4
  · rw [f2 16 (by decide), show sI σ' 79 = sI σ 79 from congrFun (es 79 (by decide)) 0]; exact s5
  · rw [f2 17 (by decide), show sI σ' 76 = sI σ 76 from congrFun (es 76 (by decide)) 0]; exact s7
  · refine (a5 m m1 m2).cg (fun k hk2 => ?_) (fun k h1 h2 => by rw [es k (by omega)]) (es 19 (by decide))
    by_cases c : m = n
    · rw [c, f8 k (by omega) (by omega) (by omega) (by omega) (by omega)]
    · rw [(f1 (1002 + 8 * m) (by omega) (by omega) (by omega) (by omega)).1]
  · by_cases c : sp ≠ 0 ∧ k = sp - 1
    · obtain ⟨c1, c2⟩ := c
      subst c2
      exact ⟨fun z => by omega, fun _ => f4 c1⟩
    · rw [(f1 (1004 + 8 * k) (by omega) (by omega) (by omega) (by omega)).2.2]
      exact ⟨fun z => (r3 k hk2).1 (by omega), fun z => (r3 k hk2).2 (by omega)⟩
  · rw [(f1 (1002 + 8 * m + 1) (by omega) (by omega) (by omega) (by omega)).2.2]
    exact r4 m m1 m2
  · have key : ∀ m, 1 ≤ m → m ≤ V → m ≠ n → fr m ≠ [] → pt m ≠ p := fun m m1 m2 hm hfm e => by
      rcases a10 m m1 m2 with ⟨z, -⟩ | ⟨-, -, -, z⟩
      · exact hfm z
      · rw [e, h59] at z
        exact absurd z (by decide)
    by_cases c : m = n
    · subst c
      have hm' : m' ≠ m := fun z => a5 z.symm
      rw [un_eq, un_ne hm']
      rw [hfr m' hm'] at a7
      exact fun z => key m' a3 a4 hm' a7 z.symm
    · by_cases c' : m' = n
      · subst c'
        rw [un_eq, un_ne c]
        rw [hfr m c] at a6
        exact key m a1 a2 c a6
      · rw [un_ne c, un_ne c']
        rw [hfr m c] at a6
        rw [hfr m' c'] at a7
        exact r5 m m' a1 a2 a3 a4 a5 a6 a7
  · rw [e59]
    by_cases c : q = p
    · rw [if_pos c]
      exact Or.inr ⟨rfl, n, hn.1, hn.2, by rw [un_eq]; exact hne, by rw [un_eq, c]⟩
    · rw [if_neg c]
      refine (r6 q hq).imp id (fun ⟨q1, m, q2, q3, q4, q5⟩ => ⟨q1, m, q2, q3, ?_, ?_⟩)
      · rw [un_ne (fun z : m = n => q4 (by rw [z]; exact hf))]; exact q4
      · rw [un_ne (fun z : m = n => q4 (by rw [z]; exact hf))]; exact q5
  · obtain ⟨e1, e2, e3⟩ := hk g (by omega) (by omega)
    exact ⟨e1, e3⟩
  · by_cases c : m = n
    · subst c
      rw [un_eq, un_eq]
      exact Or.inr ⟨hne, vk, Or.inl vr, by rw [e59, if_pos rfl]⟩
    · rw [un_ne c, un_ne c]
      have g1 := f1 (1002 + 8 * m) (by omega) (by omega) (by omega) (by omega)
      have g2 := f1 (1002 + 8 * m + 1) (by omega) (by omega) (by omega) (by omega)
      rcases a10 m m1 m2 with ⟨h1, h2, h3, h4⟩ | ⟨h1, h2, h3, h4⟩
      · exact Or.inl ⟨h1, by rw [g2.2.2]; exact h2, by rw [e58 m c]; exact h3, by rw [g1.1]; exact h4⟩
      · have h3 : VR σ m (pt m) (fr m) := h3.elim id (fun z => absurd z.1 (by omega))
        have hpm : pt m ≠ p := fun e => by
          rw [e, h59] at h4
          exact absurd h4 (by decide)
        refine Or.inr ⟨h1, h2.cg5 (fun k _ => by rw [g1.1]) g2.1 g2.2.2 (by rw [f5]; exact Nat.le_refl _), Or.inl ?_, by rw [e59, if_neg hpm]; exact h4⟩
        have h5 : VR (wI (wI σ 59 p 1) 58 n (nI p)) m (pt m) (fr m) := h3.o58 (by rw [aI_ni c, aI_ne (by decide)]) (fun k k1 k2 => by rw [aI_ne (by omega), aI_ne (by omega)])
        exact h5.ro hpm ro
end BEGINS
