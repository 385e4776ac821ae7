/-- a new cell at the top becomes the row h, which was not there -/
theorem CV.newRow {ad ad' : Nat → Nat} {κ : Km} {S S' : Mem} {h n o k : Nat} {f : Nat → Int32} {l : Nat → Int64} (hC : CV ad κ S) (hLV : ∀ g, g ≠ h → (live (cRow κ h n f l) g ↔ live κ g)) (hkd : 20 ≤ hk h) (hns : ¬ still h) (hn : n ≠ 0) (hoo : isH κ o (hk o)) (hob : hk o < 20)
    (how : (o, k, h) ∈ hRs ∨ (∃ m, o = 1002 + 8 * m ∧ k = 12 ∧ h = 1003 + 8 * m))
    (t1 : tp S' = tp S + 1) (t2 : sz S' = sz S + n) (k1 : gK S' (tp S) = hk h) (k2 : gN S' (tp S) = n) (k3 : ∀ a, a < tp S → gK S' a = gK S a ∧ gN S' a = gN S a) (i1 : gI S' (tp S) = f) (i2 : gL S' (tp S) = l) (i3 : ∀ a, a < tp S → gI S' a = gI S a ∧ gL S' a = gL S a)
    (r1 : gR S' (ad o) k = tp S) (r2 : ∀ a j, a < tp S → ¬ (a = ad o ∧ j = k) → gR S' a j = gR S a j) (h69 : h = 69 → ∀ i, (f i).toInt8.toInt32 = f i) (ea : ad' h = tp S) (eb : ∀ g, g ≠ h → ad' g = ad g) :
    CV ad' (cRow κ h n f l) S' ∧ Ob κ ad ad' ∧ Fc S S' := by
  obtain ⟨c1, c2, c3, c4, c5, c6, c7, c8, c9, c10, c11, c12, c13, c14, c15, c16, c17, c18, c19, c20, c21⟩ := hC
  have lt : ∀ g, live κ g → ad g < tp S := fun g hg => (c1 g hg).2.1
  have hobj : ∀ g, hk g < 20 → g ≠ h := fun g hg e => by subst e; omega
  have fx : ∀ x, 64 ≤ x → x < 92 → live κ x := fun x a b => Or.inl ⟨a, b⟩
  have own : ∀ g, live κ g → g ≠ o → ad g ≠ ad o := fun g hg hn2 e => hn2 (c2 g o hg hoo.1 e)
  have hR : ∀ g j, live κ g → ¬ (g = o ∧ j = k) → gR S' (ad g) j = gR S (ad g) j := fun g j hg hn2 => r2 _ _ (lt g hg) (fun z => by
    by_cases e : g = o
    · exact hn2 ⟨e, z.2⟩
    · exact own g hg e z.1)
  have vwS : vw 92 S' = vw 92 S := vw_cong (fun a h1 h2 => i3 a (by omega))
  refine ⟨⟨fun g hg => ?_, fun g g' hg hg' e => ?_, fun g hg => ?_, fun q hq => ?_, fun i hi => ?_, fun m h1 h2 => ?_, ?_, ?_, fun i hi => ?_, fun i hi => ?_, fun s hs h0 => ?_, c12, c13, by rw [t1, c14]; rfl, by rw [t2, c15]; rfl, by omega, ?_, ?_, ?_, fun i => ?_, fun q hq => ?_⟩, fun g hg hg2 => eb g (hobj g hg2), vwS, (k3 1 (by omega)).2, (i3 1 (by omega)).1⟩
  · by_cases c : g = h
    · subst c
      rw [ea]
      refine ⟨by omega, by omega, by omega, k1, fun _ => ?_, ?_, ?_⟩
      · rw [k2]; show n = if g = g then n else _; rw [if_pos rfl]
      · rw [i1]; funext j; show f j = if g = g then f j else _; rw [if_pos rfl]
      · rw [i2]; funext j; show l j = if g = g then l j else _; rw [if_pos rfl]
    · have hg' := (hLV g c).mp hg
      rw [eb g c]
      obtain ⟨b1, b2, b3, b4, b5, b6, b7⟩ := c1 g hg'
      refine ⟨b1, by omega, b3, by rw [(k3 _ b2).1]; exact b4, fun hh => ?_, ?_, ?_⟩
      · rw [(k3 _ b2).2, b5 hh]; show _ = if g = h then n else _; rw [if_neg c]; rfl
      · rw [(i3 _ b2).1, b6]; funext j; show _ = if g = h then f j else _; rw [if_neg c]; rfl
      · rw [(i3 _ b2).2, b7]; funext j; show _ = if g = h then l j else _; rw [if_neg c]; rfl
  · by_cases c : g = h
    · by_cases c' : g' = h
      · rw [c, c']
      · rw [c, ea, eb g' c'] at e; have := lt g' ((hLV g' c').mp hg'); omega
    · by_cases c' : g' = h
      · rw [c', ea, eb g c] at e; have := lt g ((hLV g c).mp hg); omega
      · rw [eb g c, eb g' c'] at e; exact c2 g g' ((hLV g c).mp hg) ((hLV g' c').mp hg') e
  · rw [eb g (fun e => hns (e ▸ hg))]; exact c3 g hg
  · have hq1 : ∀ q ∈ hRs, 64 ≤ q.1 ∧ q.1 < 92 ∧ hk q.1 < 20 := by decide
    obtain ⟨b1, b2, b3⟩ := hq1 q hq
    rw [eb _ (hobj _ b3)]
    by_cases c : q.1 = o ∧ q.2.1 = k
    · rw [c.1, c.2, r1]
      rcases how with hw | ⟨m, e1, e2, e3⟩
      · have hu : ∀ q ∈ hRs, ∀ q' ∈ hRs, q.1 = q'.1 → q.2.1 = q'.2.1 → q.2.2 = q'.2.2 := by decide
        have := hu q hq (o, k, h) hw c.1 c.2
        rw [this, ea]
      · have := c.1; omega
    · rw [hR q.1 q.2.1 (fx _ b1 b2) c, c4 q hq]
      rcases how with hw | ⟨m, e1, e2, e3⟩
      · have hu : ∀ q ∈ hRs, ∀ q' ∈ hRs, q.2.2 = q'.2.2 → (q.2.2 = 69 ∨ q.2.2 = 70 ∨ q.2.2 = 74 ∨ q.2.2 = 75 ∨ q.2.2 = 76 ∨ q.2.2 = 81 ∨ q.2.2 = 83 ∨ q.2.2 = 85) → q.1 = q'.1 ∧ q.2.1 = q'.2.1 := by decide
        have hr : ∀ q ∈ hRs, 64 ≤ q.2.2 ∧ q.2.2 < 92 := by decide
        by_cases e : q.2.2 = h
        · exfalso
          have hr2 := hr q hq
          have h8 : q.2.2 = 69 ∨ q.2.2 = 70 ∨ q.2.2 = 74 ∨ q.2.2 = 75 ∨ q.2.2 = 76 ∨ q.2.2 = 81 ∨ q.2.2 = 83 ∨ q.2.2 = 85 := by
            rw [e]; rw [e] at hr2; unfold still at hns; omega
          exact c (hu q hq (o, k, h) hw e h8)
        · rw [eb _ e]
      · have hr : ∀ q ∈ hRs, q.2.2 < 92 := by decide
        rw [eb _ (by have := hr q hq; omega)]
  · have hb := isH_body (κ := κ) hi
    rw [eb _ (hobj _ (by rw [hb.2]; decide))]
    have n1 : 1001 + 8 * i ≠ h := by
      rcases how with hw | ⟨m, e1, e2, e3⟩
      · have hr : ∀ q ∈ hRs, q.2.2 < 92 := by decide
        have := hr _ hw
        have : h < 92 := this
        omega
      · omega
    rw [eb _ n1, hR _ _ hb.1 (fun z => ?_)]
    · exact c5 i hi
    · rcases how with hw | ⟨m, e1, e2, e3⟩
      · have hr : ∀ q ∈ hRs, q.1 < 92 := by decide
        have : o < 92 := hr _ hw
        omega
      · omega
  · have hb := isH_voice (κ := κ) h1 h2
    rw [eb _ (hobj _ (by rw [hb.2]; decide))]
    have hw' : kW (cRow κ h n f l) (1003 + 8 * m) = if 1003 + 8 * m = h then n else kW κ (1003 + 8 * m) := rfl
    rw [hw']
    by_cases c : 1003 + 8 * m = h
    · rw [if_pos c, c, ea]
      refine ⟨?_, fun z => absurd z hn⟩
      rcases how with hw | ⟨m', e1, e2, e3⟩
      · have hr : ∀ q ∈ hRs, q.2.2 < 92 := by decide
        have : h < 92 := hr _ hw
        omega
      · have : m' = m := by omega
        subst this
        rw [← e1, ← e2]; exact r1
    · rw [if_neg c, eb _ c]
      refine ⟨?_, (c6 m h1 h2).2⟩
      rw [hR _ _ hb.1 (fun z => ?_)]
      · exact (c6 m h1 h2).1
      · rcases how with hw | ⟨m', e1, e2, e3⟩
        · have hr : ∀ q ∈ hRs, q.1 < 92 := by decide
          have : o < 92 := hr _ hw
          omega
        · omega
  · show gR S' (ad' 77) 3 = if kC κ = 0 then 0 else ad' (kC κ)
    have n77 : (77 : Nat) ≠ h := hobj 77 (by decide)
    rw [eb _ n77, hR 77 3 (fx 77 (by decide) (by decide)) (fun z => ?_), c7]
    · by_cases c : kC κ = 0
      · rw [if_pos c, if_pos c]
      · rw [if_neg c, if_neg c, eb _ (hobj _ (by rw [(c8.resolve_left c).2]; decide))]
    · rcases how with hw | ⟨m', e1, e2, e3⟩
      · have hr : ∀ q ∈ hRs, ¬ (q.1 = 77 ∧ q.2.1 = 3) := by decide
        exact hr _ hw ⟨z.1.symm, z.2.symm⟩
      · omega
  · rcases c8 with c | c
    · exact Or.inl c
    · exact Or.inr ⟨(hLV (kC κ) (hobj _ (by rw [c.2]; decide))).mpr c.1, c.2⟩
  · show gR S' (ad' 71) i = if i < kB κ then ad' (1000 + 8 * i) else 0
    have o71 : (71 : Nat) ≠ o := fun e => by rw [← e] at hob; exact absurd hob (by decide)
    have n71 : (71 : Nat) ≠ h := fun e => hns (by rw [← e]; unfold still; decide)
    rw [eb _ n71, hR 71 i (fx 71 (by decide) (by decide)) (fun z => o71 z.1), c9 i hi]
    by_cases c : i < kB κ
    · rw [if_pos c, if_pos c, eb _ (hobj _ (by rw [(isH_body (κ := κ) c).2]; decide))]
    · rw [if_neg c, if_neg c]
  · show gR S' (ad' 89) i = if 1 ≤ i ∧ i ≤ kV κ then ad' (1002 + 8 * i) else 0
    have o89 : (89 : Nat) ≠ o := fun e => by rw [← e] at hob; exact absurd hob (by decide)
    have n89 : (89 : Nat) ≠ h := fun e => hns (by rw [← e]; unfold still; decide)
    rw [eb _ n89, hR 89 i (fx 89 (by decide) (by decide)) (fun z => o89 z.1), c10 i hi]
    by_cases c : 1 ≤ i ∧ i ≤ kV κ
    · rw [if_pos c, if_pos c, eb _ (hobj _ (by rw [(isH_voice (κ := κ) c.1 c.2).2]; decide))]
    · rw [if_neg c, if_neg c]
  · have o90 : (90 : Nat) ≠ o := fun e => by rw [← e] at hob; exact absurd hob (by decide)
    have n90 : (90 : Nat) ≠ h := fun e => hns (by rw [← e]; unfold still; decide)
    have ns : 1004 + 8 * s ≠ h := by
      rcases how with hw | ⟨m, e1, e2, e3⟩
      · have hr : ∀ q ∈ hRs, q.2.2 < 92 := by decide
        have : h < 92 := hr _ hw
        omega
      · omega
    have h0' : kW κ (1004 + 8 * s) ≠ 0 := by
      have e : kW (cRow κ h n f l) (1004 + 8 * s) = if 1004 + 8 * s = h then n else kW κ (1004 + 8 * s) := rfl
      rw [e, if_neg ns] at h0; exact h0
    rw [eb _ n90, eb _ ns, hR 90 s (fx 90 (by decide) (by decide)) (fun z => o90 z.1)]
    exact c11 s hs h0'
  · have hR92 : ∀ a j, 92 ≤ a → a < 168 → gR S' a j = gR S a j := fun a j h1 h2 => r2 a j (by omega) (fun z => by have := (c1 o hoo.1).2.2.1; omega)
    obtain ⟨l1, l2, l3, l4⟩ := c17
    refine ⟨l1, ⟨by have := l2.1; omega, by rw [(k3 92 (by omega)).1]; exact l2.2⟩, fun q hq h0 => ?_, fun i hi => by rw [hR92 _ _ (by decide) (by decide)]; exact l4 i hi⟩
    obtain ⟨q1, q2, q3⟩ := l3 q hq h0
    have hm := maf_lt q
    exact ⟨by rw [hR92 _ _ (by decide) (by decide)]; exact q1, ⟨by have := q2.1; omega, by rw [(k3 _ (by omega)).1]; exact q2.2⟩, by rw [(k3 _ (by omega)).2]; exact q3⟩
  · rw [(k3 27 (by omega)).1]; exact c18
  · rw [(k3 27 (by omega)).2]; exact c19
  · show (if 69 = h then f i else κ.1 69 i).toInt8.toInt32 = if 69 = h then f i else κ.1 69 i
    by_cases c : 69 = h
    · rw [if_pos c]; exact h69 c.symm i
    · rw [if_neg c]; exact c20 i
  · show (if q.1 = h then n else κ.2.2.1 q.1) = q.2
    have hr : ∀ q ∈ cNs, 64 ≤ q.1 ∧ q.1 < 92 ∧ q.1 ≠ 69 ∧ q.1 ≠ 70 ∧ q.1 ≠ 74 ∧ q.1 ≠ 75 ∧ q.1 ≠ 76 ∧ q.1 ≠ 81 ∧ q.1 ≠ 83 ∧ q.1 ≠ 85 := by decide
    rw [if_neg (fun e => hns (by rw [← e]; exact hr q hq))]
    exact c21 q hq
theorem live_newRow {κ : Km} {m n : Nat} {f : Nat → Int32} {l : Nat → Int64} : ∀ g, g ≠ 1003 + 8 * m → (live (cRow κ (1003 + 8 * m) n f l) g ↔ live κ g) := by
  intro g hg
  have e : kW (cRow κ (1003 + 8 * m) n f l) g = kW κ g := by
    show (if g = 1003 + 8 * m then n else κ.2.2.1 g) = _
    rw [if_neg hg]; rfl
  have e1 : kB (cRow κ (1003 + 8 * m) n f l) = kB κ := rfl
  have e2 : kV (cRow κ (1003 + 8 * m) n f l) = kV κ := rfl
  unfold live
  rw [e1, e2, e]
theorem hk_cells {n : Nat} : hk (1003 + 8 * n) = 21 := by unfold hk; rw [if_neg (by omega), if_neg (by omega), if_neg (by omega), if_neg (by omega)]
/-- what begin writes, when the row stands -/
def begV (κ : Km) (n : Nat) : Km := cI (cI (cI (cI (cI κ (1003 + 8 * n) 0 (kI κ (1002 + 8 * n) 3)) (1002 + 8 * n) 13 1) (1002 + 8 * n) 14 0) (1002 + 8 * n) 15 (-9)) (1002 + 8 * n) 9 (-9)
section KBEGIN
variable {X : Cx} {d : Nat} {M : MI} {pc pc2 : Nat} {lv : Lv} {st : List AV} {κ : Km} {Q : Res → Km → Prop}
theorem begV_CV {ad : Nat → Nat} {κ : Km} {S : Mem} {n : Nat} (hC : CV ad κ S) (n1 : 1 ≤ n) (n2 : n ≤ kV κ) (hw : kW κ (1003 + 8 * n) ≠ 0) {x : Int32} (hx : x = kI κ (1002 + 8 * n) 3) : CV ad (begV κ n) (uI (uI (uI (uI (uI S (ad (1003 + 8 * n)) 0 x) (ad (1002 + 8 * n)) 13 1) (ad (1002 + 8 * n)) 14 0) (ad (1002 + 8 * n)) 15 (-9)) (ad (1002 + 8 * n)) 9 (-9)) ∧ Fc S (uI (uI (uI (uI (uI S (ad (1003 + 8 * n)) 0 x) (ad (1002 + 8 * n)) 13 1) (ad (1002 + 8 * n)) 14 0) (ad (1002 + 8 * n)) 15 (-9)) (ad (1002 + 8 * n)) 9 (-9)) := by
  have hp := isH_voice (κ := κ) n1 n2
  have hr := isH_cells (κ := κ) n1 n2 hw
  subst hx
  obtain ⟨C1, f1⟩ := hC.setI (k := 0) (v := kI κ (1002 + 8 * n) 3) hr.1 (fun e => by omega)
  obtain ⟨C2, f2⟩ := C1.setI (h := 1002 + 8 * n) (k := 13) (v := 1) hp.1 (fun e => by omega)
  obtain ⟨C3, f3⟩ := C2.setI (h := 1002 + 8 * n) (k := 14) (v := 0) hp.1 (fun e => by omega)
  obtain ⟨C4, f4⟩ := C3.setI (h := 1002 + 8 * n) (k := 15) (v := -9) hp.1 (fun e => by omega)
  obtain ⟨C5, f5⟩ := C4.setI (h := 1002 + 8 * n) (k := 9) (v := -9) hp.1 (fun e => by omega)
  exact ⟨C5, (((f1.trans f2).trans f3).trans f4).trans f5⟩
/-- begin, behind the row's putfield: the memory S2 has the row -/
theorem begin_tail {ad : Nat → Nat} {κ : Km} {S2 : Mem} {n : Nat} (hC : CV ad κ S2) (n1 : 1 ≤ n) (n2 : n ≤ kV κ) (hw : kW κ (1003 + 8 * n) ≠ 0) (hwl : kW κ (1003 + 8 * n) < 2147483648) {x : Int32} {Q' : Res → Mem → Prop} (q : Q' (.inl none) (uI (uI (uI (uI (uI S2 (ad (1003 + 8 * n)) 0 x) (ad (1002 + 8 * n)) 13 1) (ad (1002 + 8 * n)) 14 0) (ad (1002 + 8 * n)) 15 (-9)) (ad (1002 + 8 * n)) 9 (-9))) :
    ∃ e4 : Nat, e4 + 1 ≤ 1 ∧ C X e4 MX10_put [vR (ad (1002 + 8 * n)), vI 0, vI x] S2 (RV fun S7 => (isK S7 (ad (1002 + 8 * n)) 10) ∧ ∀ S9 : Mem, S9 = uI S7 (ad (1002 + 8 * n)) 13 1 → ∀ S10 : Mem, S10 = uI S9 (ad (1002 + 8 * n)) 14 0 → ∀ S11 : Mem, S11 = uI S10 (ad (1002 + 8 * n)) 15 (-9) → ∀ S12 : Mem, S12 = uI S11 (ad (1002 + 8 * n)) 9 (-9) → Q' (.inl none) S12) := by
  have hp := isH_voice (κ := κ) n1 n2
  have hr := isH_cells (κ := κ) n1 n2 hw
  have hv := (hC.2.2.2.2.2.1 n n1 n2).1
  have kp := hC.k hp
  have kr := hC.k hr
  have nr := hC.n hr (by decide)
  refine ⟨0, Nat.le_refl _, C_of_V rfl (Nat.le_of_ble_eq_true rfl) rfl (w_X10_put_0 _ 0 x ⟨fun c => absurd c (by decide), fun _ => ⟨kp, by rw [hv]; exact kr, ?_, fun _ => ⟨?_, fun S6 e6 => w_X10_put_20 _ 0 x ⟨rfl, by rw [e6]; exact kp, fun S9 e9 S10 e10 S11 e11 S12 e12 => ?_⟩⟩⟩⟩)⟩
  · intro c
    rw [hv, nr, show (0 : Int32) = nI 0 from rfl, le_nI hwl (by decide)] at c
    omega
  · rw [hv, nr, show (0 : Int32) = nI 0 from rfl]; exact vp_in_lt (by omega) (by omega)
  · rw [hv] at e6
    have z : ((0 : Int32).toNatClampNeg) = 0 := by decide
    rw [z] at e6
    rw [e12, e11, e10, e9, e6]; exact q
/-- the state behind spareRow and begin -/
def begK (κ : Km) (n s : Nat) : Km := if s = 0 then begV (cRow κ (1003 + 8 * n) 40 (fun _ => 0) (fun _ => 0)) n else begV (mvR (cI κ 79 8 (nI (s - 1))) (1004 + 8 * (s - 1)) (1003 + 8 * n)) n
theorem begK_mo {κ : Km} {n s : Nat} : Mo κ (begK κ n s) := by
  unfold begK
  split
  · exact ⟨Nat.le_refl _, Nat.le_refl _⟩
  · exact ⟨Nat.le_refl _, Nat.le_refl _⟩
theorem newV_mo {κ : Km} : Mo κ (newV κ) := ⟨Nat.le_refl _, Nat.le_succ _⟩
/-- spareRow and begin -/
theorem K_begin {ix1 ix2 n s : Nat} (hlv : ∀ q ∈ lv, okv κ q.2) (hst : ∀ v ∈ st, okv κ v) (hd1 : decode M.2.1 pc = .ok (.invokevirtual ix1, 3)) (hw1 : Cond.methodLink (kcn.getD M.2.2.2.2 "") ix1 MX6_spareRow.1 ∈ lw_tbl) (hd2 : decode M.2.1 (pc + 3) = .ok (.invokevirtual ix2, 3)) (hw2 : Cond.methodLink (kcn.getD M.2.2.2.2 "") ix2 MX10_begin.1 ∈ lw_tbl) (hp : pc + 3 + 3 = pc2) (hdd : 2 ≤ d) (hs8 : (st.map cat).sum ≤ 5) (n1 : 1 ≤ n) (n2 : n ≤ kV κ) (hw : kW κ (1003 + 8 * n) = 0) (h8 : kI κ 79 8 = nI s) (hs : s ≤ 12) (hsw : s ≠ 0 → kW κ (1004 + 8 * (s - 1)) ≠ 0 ∧ kW κ (1004 + 8 * (s - 1)) < 2147483648)
    (kk : K X d M pc2 lv st (begK κ n s) Q) : K X d M pc lv (vR 79 :: vR (1002 + 8 * n) :: st) κ Q := by
  have hB : kB (begK κ n s) = kB κ ∧ kV (begK κ n s) = kV κ := by unfold begK; split <;> exact ⟨rfl, rfl⟩
  obtain ⟨r, κ', ⟨mo, e⟩, q⟩ := kk
  refine ⟨r, κ', ⟨⟨by rw [← hB.1]; exact mo.1, by rw [← hB.2]; exact mo.2⟩, fun ad S hC => ?_⟩, q⟩
  have hpv := isH_voice (κ := κ) n1 n2
  have h79 : isH κ 79 6 := fixH 79 6 (by decide) rfl
  have e79 : ad 79 = 79 := hC.2.2.1 79 (by unfold still; decide)
  have kp := hC.k hpv
  have k79 : isK S 79 6 := by have := hC.k h79; rw [e79] at this; exact this
  have ne : ad (1002 + 8 * n) ≠ 79 := fun z => by have := hC.2.1 _ 79 hpv.1 h79.1 (z.trans e79.symm); omega
  have g8 : gI S 79 8 = nI s := by have := hC.i (k := 8) h79.1; rw [e79] at this; exact this.trans h8
  have g3 : gI S (ad (1002 + 8 * n)) 3 = kI κ (1002 + 8 * n) 3 := hC.i hpv.1
  have lp := (hC.1 _ hpv.1).2.1
  have es : mps ad (vR 79 :: vR (1002 + 8 * n) :: st) = vR 79 :: vR (ad (1002 + 8 * n)) :: mps ad st := by
    rw [mps_R (by decide), mps_R (by omega), e79]
  rw [es]
  -- what is to be shown of the two calls
  have both : ∀ (ad' : Nat → Nat) (S4 : Mem), CV ad' (begK κ n s) S4 → Ob κ ad ad' → Fc S S4 → (∃ (S1 : Mem) (a : Nat), C X 1 MX6_spareRow [vR 79] S (RR fun x T => x = a ∧ T = S1) ∧ isK S1 (ad (1002 + 8 * n)) 10 ∧ C X 1 MX10_begin [vR (ad (1002 + 8 * n)), vR a] S1 (RV fun T => T = S4)) → ∃ (ad' : Nat → Nat) (S' : Mem), Ev X d M pc (mpl ad lv) (vR 79 :: vR (ad (1002 + 8 * n)) :: mps ad st) S (mpr ad' r) S' ∧ CV ad' κ' S' ∧ Ob κ ad ad' ∧ Fc S S' := by
    intro ad' S4 C4 ob f4 ⟨S1, a, cr1, kp1, cr2⟩
    obtain ⟨ad2, S2, ev, C2, ob2, f2⟩ := e ad' S4 C4
    rw [mpl_ok ob lv hlv, mps_ok ob st hst] at ev
    refine ⟨ad2, S2, ?_, C2, fun x hx hxk => (ob2 x (live_mo hx hxk ⟨Nat.le_of_eq hB.1.symm, Nat.le_of_eq hB.2.symm⟩) hxk).trans (ob x hx hxk), f4.trans f2⟩
    have vgo : V X d M pc (mpl ad lv) (vR 79 :: vR (ad (1002 + 8 * n)) :: mps ad st) S (fun r' T' => r' = mpr ad2 r ∧ T' = S2) := by
      refine V_callV (as := []) (st := vR (ad (1002 + 8 * n)) :: mps ad st) (M' := MX6_spareRow) (d' := 1) (ci := 6) (pc2 := pc + 3) hd1 hw1 mv_X6_spareRow rfl rfl (by decide) rfl (by show 1 + ((mps ad st).map cat).sum ≤ 8; rw [mps_cat]; omega) rfl (by omega) k79 cr1 ?_
      rintro r1 T1 ⟨x, rfl, rfl, rfl⟩
      refine ⟨some (vR x), rfl, ?_⟩
      refine V_callV (as := [vR x]) (st := mps ad st) (M' := MX10_begin) (d' := 1) (ci := 10) (pc2 := pc2) hd2 hw2 mv_X10_begin rfl rfl (by decide) rfl (by rw [mps_cat]; omega) hp (by omega) kp1 cr2 ?_
      rintro r1 T2 ⟨rfl, rfl⟩
      exact ⟨none, rfl, _, S2, ev, rfl, rfl⟩
    obtain ⟨r3, S3, ev3, rfl, rfl⟩ := vgo
    exact ev3
  by_cases c0 : s = 0
  · subst c0
    have eB : begK κ n 0 = begV (cRow κ (1003 + 8 * n) 40 (fun _ => 0) (fun _ => 0)) n := if_pos rfl
    obtain ⟨C3, ob3, f3⟩ := hC.newRow (h := 1003 + 8 * n) (n := 40) (o := 1002 + 8 * n) (k := 12) (f := fun _ => 0) (l := fun _ => 0) (S' := uR (nw S 21 40 40) (ad (1002 + 8 * n)) 12 (tp S)) (ad' := fun g => if g = 1003 + 8 * n then tp S else ad g) live_newRow (by rw [hk_cells]; decide) (by unfold still; omega) (by decide) (by rw [hpv.2]; exact hpv) (by rw [hpv.2]; decide) (Or.inr ⟨n, rfl, rfl, rfl⟩) rfl rfl (by rw [hk_cells]; exact (gK_nw (S := S) (k := 21) (n := 40) (w := 40)).trans (if_pos rfl)) ((gN_nw (S := S) (k := 21) (n := 40) (w := 40)).trans (if_pos rfl))
      (fun a ha => ⟨(gK_nw (S := S) (k := 21) (n := 40) (w := 40)).trans (if_neg (by omega)), (gN_nw (S := S) (k := 21) (n := 40) (w := 40)).trans (if_neg (by omega))⟩) (by funext j; exact (gI_nw (S := S) (k := 21) (n := 40) (w := 40)).trans (if_pos rfl)) (by funext j; exact (gL_nw (S := S) (k := 21) (n := 40) (w := 40)).trans (if_pos rfl))
      (fun a ha => ⟨by funext j; exact (gI_nw (S := S) (k := 21) (n := 40) (w := 40)).trans (if_neg (by omega)), by funext j; exact (gL_nw (S := S) (k := 21) (n := 40) (w := 40)).trans (if_neg (by omega))⟩) (by rw [gR_uR, if_pos ⟨rfl, rfl⟩]) (fun a j ha hn => by rw [gR_uR, if_neg hn, gR_nw, if_neg (by omega)]) (fun z => by omega) (if_pos rfl) (fun g hg => if_neg hg)
    have w3 : kW (cRow κ (1003 + 8 * n) 40 (fun _ => 0) (fun _ => 0)) (1003 + 8 * n) = 40 := by show (if 1003 + 8 * n = 1003 + 8 * n then 40 else _) = 40; rw [if_pos rfl]
    have x3 : kI (cRow κ (1003 + 8 * n) 40 (fun _ => 0) (fun _ => 0)) (1002 + 8 * n) 3 = kI κ (1002 + 8 * n) 3 := by show (if 1002 + 8 * n = 1003 + 8 * n then (0 : Int32) else kI κ (1002 + 8 * n) 3) = _; rw [if_neg (by omega)]
    obtain ⟨C4, f4⟩ := begV_CV C3 n1 n2 (by rw [w3]; decide) x3.symm
    rw [← eB] at C4
    refine both _ _ C4 ob3 (f3.trans f4) ⟨S, 0, C_of_V rfl (Nat.le_of_ble_eq_true rfl) rfl (w_X6_spareRow_0 79 ⟨k79, fun _ => w_X6_spareRow_16 79 ⟨_, rfl, rfl, rfl⟩, fun c => absurd (by rw [g8]; decide) c⟩), kp, C_of_V rfl (Nat.le_of_ble_eq_true rfl) rfl (w_X10_begin_0 _ 0 ⟨fun c => absurd rfl c, fun _ S3 e3 => ?_⟩)⟩
    have ea : (if 1002 + 8 * n = 1003 + 8 * n then tp S else ad (1002 + 8 * n)) = ad (1002 + 8 * n) := if_neg (by omega)
    refine w_X10_begin_13 _ 0 _ _ ⟨by rw [e3]; exact isK_nw kp, fun S5 e5 => ⟨by rw [e3]; exact isK_nw kp, ?_⟩⟩
    have hx : gI S3 (ad (1002 + 8 * n)) 3 = kI κ (1002 + 8 * n) 3 := by rw [e3, gI_nw, if_neg (by omega)]; exact g3
    have e5' : S5 = uR (nw S 21 40 40) (ad (1002 + 8 * n)) 12 (tp S) := by rw [e5, e3]
    rw [hx, e5']
    have hq := begin_tail (X := X) (x := kI κ (1002 + 8 * n) 3) (Q' := RV fun T => T = _) C3 n1 n2 (by rw [w3]; decide) (by rw [w3]; decide) ⟨rfl, rfl⟩
    simp only [ea] at hq ⊢
    exact hq
  · obtain ⟨sw1, sw2⟩ := hsw c0
    have eB : begK κ n s = begV (mvR (cI κ 79 8 (nI (s - 1))) (1004 + 8 * (s - 1)) (1003 + 8 * n)) n := if_neg c0
    have h90 : isH κ 90 26 := fixH 90 26 (by decide) rfl
    have e90 : ad 90 = 90 := hC.2.2.1 90 (by unfold still; decide)
    have k90 : isK S 90 26 := by have := hC.k h90; rw [e90] at this; exact this
    have n90 : gN S 90 = 12 := by have := hC.n h90 (by decide); rw [e90] at this; rw [this]; exact hC.2.2.2.2.2.2.2.2.2.2.2.2.2.2.2.2.2.2.2.2 (90, 12) (by decide)
    have r6 : gR S 79 6 = 90 := by have := hC.2.2.2.1 (79, 6, 90) (by decide); rw [e79, e90] at this; exact this
    have r90 : gR S 90 (s - 1) = ad (1004 + 8 * (s - 1)) := by have := hC.2.2.2.2.2.2.2.2.2.2.1 (s - 1) (by omega) sw1; rw [e90] at this; exact this
    have lrow : live κ (1004 + 8 * (s - 1)) := by unfold live; omega
    have arow := (hC.1 _ lrow).1
    obtain ⟨C1, f1⟩ := hC.setI (h := 79) (k := 8) (v := nI (s - 1)) h79.1 (fun z => absurd z (by decide))
    rw [e79] at C1 f1
    obtain ⟨C3, ob3, f3⟩ := C1.mvIn (n := n) (s := s - 1) (S' := uR (uI S 79 8 (nI (s - 1))) (ad (1002 + 8 * n)) 12 (ad (1004 + 8 * (s - 1)))) (ad' := fun g => if g = 1003 + 8 * n then ad (1004 + 8 * (s - 1)) else if g = 1004 + 8 * (s - 1) then 27 else ad g) n1 n2 (by omega) sw1 hw rfl rfl rfl rfl rfl rfl (by rw [gR_uR, if_pos ⟨rfl, rfl⟩]) (fun a j h1 => by rw [gR_uR, if_neg h1]) (if_pos rfl) (by show (if 1004 + 8 * (s - 1) = 1003 + 8 * n then _ else _) = _; rw [if_neg (by omega), if_pos rfl]) (fun g h1 h2 => by show (if g = _ then _ else _) = _; rw [if_neg h1, if_neg h2])
    have w3 : kW (mvR (cI κ 79 8 (nI (s - 1))) (1004 + 8 * (s - 1)) (1003 + 8 * n)) (1003 + 8 * n) = kW κ (1004 + 8 * (s - 1)) := by show (if 1003 + 8 * n = 1003 + 8 * n then kW κ (1004 + 8 * (s - 1)) else _) = _; rw [if_pos rfl]
    have x3 : kI (mvR (cI κ 79 8 (nI (s - 1))) (1004 + 8 * (s - 1)) (1003 + 8 * n)) (1002 + 8 * n) 3 = kI κ (1002 + 8 * n) 3 := by
      show (if 1002 + 8 * n = 1003 + 8 * n then _ else up2 κ.1 79 8 (nI (s - 1)) (1002 + 8 * n) 3) = _
      rw [if_neg (by omega)]; unfold up2; rw [if_neg (by omega)]; rfl
    obtain ⟨C4, f4⟩ := begV_CV C3 n1 n2 (by rw [w3]; exact sw1) x3.symm
    rw [← eB] at C4
    refine both _ _ C4 ob3 ((f1.trans f3).trans f4) ⟨uI S 79 8 (nI (s - 1)), ad (1004 + 8 * (s - 1)), C_of_V rfl (Nat.le_of_ble_eq_true rfl) rfl (w_X6_spareRow_0 79 ⟨k79, fun c => ?_, fun _ => ⟨fun _ S4 e4 => ?_, fun c => ?_⟩⟩), kp, C_of_V rfl (Nat.le_of_ble_eq_true rfl) rfl (w_X10_begin_0 _ _ ⟨fun _ => ?_, fun c => by omega⟩)⟩
    · rw [g8, show (0 : Int32) = nI 0 from rfl, le_nI (by omega) (by decide)] at c; omega
    · have em : nI s - 1 = nI (s - 1) := by
        obtain ⟨t, rfl⟩ : ∃ t, s = t + 1 := ⟨s - 1, by omega⟩
        exact nI_pred t
      rw [g8, em] at e4
      have g4 : gI S4 79 8 = nI (s - 1) := by rw [e4]; exact gI_uI_eq
      rw [g4, r6, cl_nI (by omega), r90]
      exact ⟨k90, by rw [n90]; exact vp_in_lt (by omega) (by omega), _, rfl, rfl, e4⟩
    · rw [g8, litI 12, le_nI (by omega) (by omega)] at c; omega
    · have ea : (if 1002 + 8 * n = 1003 + 8 * n then ad (1004 + 8 * (s - 1)) else if 1002 + 8 * n = 1004 + 8 * (s - 1) then 27 else ad (1002 + 8 * n)) = ad (1002 + 8 * n) := by rw [if_neg (by omega), if_neg (by omega)]
      refine w_X10_begin_13 _ _ _ _ ⟨kp, fun S5 e5 => ⟨kp, ?_⟩⟩
      have hx : gI (uI S 79 8 (nI (s - 1))) (ad (1002 + 8 * n)) 3 = kI κ (1002 + 8 * n) 3 := by rw [gI_uI_ne ne]; exact g3
      rw [hx, e5]
      have hq := begin_tail (X := X) (x := kI κ (1002 + 8 * n) 3) (Q' := RV fun T => T = _) C3 n1 n2 (by rw [w3]; exact sw1) (by rw [w3]; exact sw2) ⟨rfl, rfl⟩
      simp only [ea] at hq ⊢
      exact hq
end KBEGIN
