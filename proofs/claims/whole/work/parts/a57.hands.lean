/-! a handing, a failure more, a failure beneath another; what goes side by side -/
section HANDS
variable {X : Cx} {κ0 κ κ1 κ' : Km} {σ0 σ σ1 σ' : Rm} {b V al S T T' sp z LT HT LT' HT' F0 F0' v p n x x' q s : Nat} {st : Nat → Nat} {fr : Nat → List Frm} {pt : Nat → Nat} {fs : List Frm} {ch : List Nat} {y u : Int32} {H : Nat → Prop}
theorem Bn.oth (h : Bn κ0 σ0 κ σ b V al S T sp z LT HT F0 st fr pt x) (kf : KF H κ κ') (rg : RG κ κ') (hH : ∀ g, H g → 80 ≤ g ∧ g ≤ 85) (af : AF aOt σ σ') (ln : Lns κ' σ' LT' HT') (fl : FRl κ' σ' F0') : Bn κ0 σ0 κ' σ' b V al S T sp z LT' HT' F0' st fr pt x := by
  obtain ⟨⟨⟨k1, k2, k3⟩, sta, rg0⟩, a4, a5, a7, a8, a9, a10⟩ := h
  have e : ∀ g, (g < 80 ∨ 85 < g) → kI κ' g = kI κ g ∧ kL κ' g = kL κ g ∧ kW κ' g = kW κ g := fun g hg => kf.1 g (fun z => by have := hH g z; omega)
  have ea : ∀ k, k < 80 → aI σ' k = aI σ k := fun k hk => (af k (fun z => by have := z.1; omega)).1
  have es : ∀ k, k < 80 → sI σ' k = sI σ k := fun k hk => congrFun (ea k hk) 0
  refine ⟨⟨⟨fun g hg => ?_, ⟨kf.2.2.1.trans k2.1, k2.2.cg (Nat.le_of_eq kf.2.2.2.symm) (fun m k _ => by rw [(e (1002 + 8 * m) (by omega)).1]) (by rw [(e 79 (by omega)).1]) (fun k hk => (af k (fun z => by have z1 := z.1; have z2 := z.2; omega)).1)⟩, fun k h1 h2 => ?_⟩, sta, rg0.trans rg⟩, a4.cg (fun k _ => by rw [(e 79 (by omega)).1]) kf.2.2.2 (fun k hk => es k (by omega)), fun n n1 n2 => (a5 n n1 n2).cg (fun k _ => by rw [(e (1002 + 8 * n) (by omega)).1]) (fun k h1 h2 => by rw [ea k (by omega)]) (ea 19 (by omega)), ?_, ln, fl, fun n n1 n2 => (a10 n n1 n2).cg (fun k _ => by rw [(e (1002 + 8 * n) (by omega)).1]) (e _ (by omega)).1 (e _ (by omega)).2.2 (by rw [kf.2.2.2]; exact Nat.le_refl _) (fun k h1 h2 => ea k (by omega))⟩
  · have hg' := hg
    unfold hCd at hg'
    obtain ⟨e1, e2, e3⟩ := e g (by omega)
    rw [e1, e2, e3]
    exact k1 g hg
  · rw [ea k (by omega), (af k (fun z => by have := z.1; omega)).2]
    exact k3 k h1 h2
  · obtain ⟨r1, r2, r3, r4, r5, r6⟩ := a7
    refine ⟨r1, r2, fun k hk => ?_, fun n n1 n2 => ?_, r5, fun q hq => ?_⟩
    · rw [(e (1004 + 8 * k) (by omega)).2.2]; exact r3 k hk
    · rw [(e (1002 + 8 * n + 1) (by omega)).2.2]; exact r4 n n1 n2
    · rw [ea 59 (by omega)]; exact r6 q hq
/-- a handing more -/
theorem Lns.hand {g : Nat → Int32} {a c : Int32} (h : Lns κ σ LT HT) (po : Po 82 κ κ') (af : AF (fun k => k = 83 ∨ k = 84 ∨ k = 85) σ σ') (hp' : PrC κ' 82 (HT + 1) (padd HT g a c)) (hr' : PRr σ' 83 84 85 (HT + 1) (padd HT g a c)) : Lns κ' σ' LT (HT + 1) := by
  obtain ⟨⟨g2, b1, b2⟩, -, R, c0, c1, c2, c3, c4⟩ := h
  have e : ∀ k, k ≠ 82 → k ≠ 83 → kI κ' k = kI κ k ∧ kL κ' k = kL κ k ∧ kW κ' k = kW κ k := fun k h1 h2 => po.1.1 k (fun z => z.elim h1 h2)
  have ea : ∀ k, k ≠ 83 → k ≠ 84 → k ≠ 85 → aI σ' k = aI σ k := fun k h1 h2 h3 => (af k (fun z => by rcases z with z | z | z <;> omega)).1
  refine ⟨⟨g2, b1.fr (e 80 (by decide) (by decide)).1 (e 81 (by decide) (by decide)).1 (e 81 (by decide) (by decide)).2.2, b2.fr (ea 80 (by decide) (by decide) (by decide)) (ea 81 (by decide) (by decide) (by decide)) (ea 82 (by decide) (by decide) (by decide))⟩, ⟨_, hp', hr'⟩, R, ?_⟩
  rw [(e 79 (by decide) (by decide)).1, (e 91 (by decide) (by decide)).1, (e 91 (by decide) (by decide)).2.2, show sI σ' 87 = sI σ 87 from congrFun (ea 87 (by decide) (by decide) (by decide)) 0, ea 86 (by decide) (by decide) (by decide)]
  exact ⟨c0, c1, c2, c3, c4⟩
/-- what a handing is, for the class and for the reference -/
def HdC (κ κ' : Km) (HT : Nat) (a c : Int32) : Prop := Po 82 κ κ' ∧ ∀ g, PrC κ 82 HT g → PrC κ' 82 (HT + 1) (padd HT g a c)
def HdR (σ σ' : Rm) (HT : Nat) (a c : Int32) : Prop := AF (fun k => k = 83 ∨ k = 84 ∨ k = 85) σ σ' ∧ ∀ g, PRr σ 83 84 85 HT g → PRr σ' 83 84 85 (HT + 1) (padd HT g a c)
theorem Bn.hand {a c : Int32} (h : Bn κ0 σ0 κ σ b V al S T sp z LT HT F0 st fr pt x) (hk : HdC κ κ' HT a c) (hr : HdR σ σ' HT a c) : Bn κ0 σ0 κ' σ' b V al S T sp z LT (HT + 1) F0 st fr pt x := by
  have ln := h.2.2.2.2.1
  obtain ⟨-, ⟨g, p1, p2⟩, -⟩ := id ln
  refine h.oth hk.1.1 hk.1.2 (fun g hg => by omega) (hr.1.weak (fun k hk => ⟨by omega, by omega⟩)) (ln.hand hk.1 hr.1 (hk.2 g p1) (hr.2 g p2)) (h.2.2.2.2.2.1.fr (by rw [(hk.1.1.1 84 (by omega)).1]) (hk.1.1.1 85 (by omega)).1 (hk.1.1.1 85 (by omega)).2.2 (fun k h1 h2 => (hr.1 k (by omega)).1))
/-- the pairs: what is there depends on the memory alone -/
theorem kc_hand {F : Km → Prop} {a c : Int32} {g : Nat → Int32} (p : PrC κ 82 HT g) (hT : HT < 2000000000) (q : ∀ κ', HdC κ κ' HT a c → F κ') : KC' X 3 MX4_add [vR 82, vI a, vI c] κ (kRV F) := by
  refine kc_padd (Or.inr rfl) p hT (fun κ' po p' => q κ' ⟨po, fun g' pg => ?_⟩)
  have e : ∀ k, k < 2 * min HT 300 → g' k = g k := fun k hk => (pg.2.2.1 k hk).symm.trans (p.2.2.1 k hk)
  obtain ⟨a1, a2, a3, a4⟩ := p'
  refine ⟨a1, a2, fun k hk => (a3 k hk).trans ?_, a4⟩
  unfold padd
  by_cases c0 : HT < 300
  · rw [if_pos c0, if_pos c0]
    by_cases c1 : k = 2 * HT + 1
    · rw [c1, ud_eq, ud_eq]
    · rw [ud_ne c1, ud_ne c1]
      by_cases c2 : k = 2 * HT
      · rw [c2, ud_eq, ud_eq]
      · rw [ud_ne c2, ud_ne c2]
        exact (e k (by omega)).symm
  · rw [if_neg c0, if_neg c0]
    exact (e k (by omega)).symm
theorem ac_hand {F : Rm → Prop} {a c : Int32} {g : Nat → Int32} (p : PRr σ 83 84 85 HT g) (hT : HT < 2000000000) (q : ∀ σ', HdR σ σ' HT a c → F σ') : AC X 92 0 MX13_hands [vR 92, vI a, vI c] σ (aRV F) := by
  refine ac_hands p hT (fun σ' af p' => q σ' ⟨af, fun g' pg => ?_⟩)
  obtain ⟨a1, a3⟩ := p'
  refine ⟨a1, fun i hi => ?_⟩
  obtain ⟨b1, b2⟩ := a3 i hi
  rw [b1, b2]
  unfold padd
  by_cases c0 : HT < 300
  · rw [if_pos c0, if_pos c0]
    by_cases c1 : i = HT
    · have e1 : ∀ g0 : Nat → Int32, ud (ud g0 (2 * HT) a) (2 * HT + 1) c (2 * HT) = a := fun g0 => (ud_ne (by omega)).trans ud_eq
      have e2 : ∀ g0 : Nat → Int32, ud (ud g0 (2 * HT) a) (2 * HT + 1) c (2 * HT + 1) = c := fun g0 => ud_eq
      rw [c1, e1, e1, e2, e2]
      exact ⟨rfl, rfl⟩
    · obtain ⟨d1, d2⟩ := p.2 i (by omega)
      obtain ⟨d3, d4⟩ := pg.2 i (by omega)
      rw [ud_ne (by omega), ud_ne (by omega), ud_ne (by omega), ud_ne (by omega), ud_ne (by omega), ud_ne (by omega), ud_ne (by omega), ud_ne (by omega), ← d1, ← d2, ← d3, ← d4]
      exact ⟨rfl, rfl⟩
  · rw [if_neg c0, if_neg c0]
    obtain ⟨d1, d2⟩ := p.2 i (by omega)
    obtain ⟨d3, d4⟩ := pg.2 i (by omega)
    rw [← d1, ← d2, ← d3, ← d4]
    exact ⟨rfl, rfl⟩
theorem Bn.hp (h : Bn κ0 σ0 κ σ b V al S T sp z LT HT F0 st fr pt x) : ∃ g, PrC κ 82 HT g ∧ PRr σ 83 84 85 HT g := h.2.2.2.2.1.2.1
theorem PrC.hand {g : Nat → Int32} (p : PrC κ 82 HT g) (e : kI κ' 82 = kI κ 82) (e2 : kI κ' 83 = kI κ 83) (e3 : kW κ' 83 = kW κ 83) : PrC κ' 82 HT g := p.fr e e2 e3
/-- a failure more -/
theorem Bn.fmk {k : Nat} {val vo pl ca : Int32} (h : Bn κ0 σ0 κ σ b V al S T sp z LT HT F0 st fr pt x) (hF : F0 < 7900) (hk : k ≤ 14) (hc : fok F0 ca) (c : FmC κ κ' F0 (nI k) val vo pl (fm ca)) : Bn κ0 σ0 κ' (flS σ F0 (nI k) val vo pl ca) b V al S T sp z LT HT (F0 + 1) st fr pt x := by
  have fo := c.1
  refine h.oth fo.1 fo.2.1 (fun g hg => by omega) (fun q hq => ⟨flS_ne ?_, rfl⟩) (h.2.2.2.2.1.cg (fun g hg => ⟨(fo.1.1 g (by omega)).1, (fo.1.1 g (by omega)).2.2⟩) (by rw [(fo.1.1 79 (by omega)).1]) (fun q h1 h2 => flS_ne (by omega))) (h.2.2.2.2.2.1.make hF hk rfl hc c)
  unfold aOt at hq
  omega
theorem bnR_l {f w : Nat} : aL (bnR σ f w) = aL σ := by
  unfold bnR
  split <;> rfl
theorem Bn.bnt {f w : Nat} (h : Bn κ0 σ0 κ σ b V al S T sp z LT HT F0 st fr pt x) (hf : f < F0) (hw : w < F0) : Bn κ0 σ0 (bnK κ σ f w) (bnR σ f w) b V al S T sp z LT HT F0 st fr pt x := by
  have fo : Fo κ (bnK κ σ f w) := bnK_fo
  refine h.oth fo.1 fo.2.1 (fun g hg => by omega) (fun q hq => ⟨bnR_ne ?_, by rw [bnR_l]⟩) (h.2.2.2.2.1.cg (fun g hg => ⟨(fo.1.1 g (by omega)).1, (fo.1.1 g (by omega)).2.2⟩) (by rw [(fo.1.1 79 (by omega)).1]) (fun q h1 h2 => bnR_ne (by omega))) (h.2.2.2.2.2.1.beneath hf hw)
  unfold aOt at hq
  omega
/-- side by side -/
theorem kf_par {g k : Nat} (h : KF H κ κ') : KF H (cI κ g k y) (cI κ' g k y) := by
  refine ⟨fun q hq => ?_, h.2.1, h.2.2.1, h.2.2.2⟩
  obtain ⟨e1, e2, e3⟩ := h.1 q hq
  refine ⟨?_, e2, e3⟩
  by_cases c : q = g
  · subst c
    funext i
    by_cases d : i = k
    · rw [d, kI_eq, kI_eq]
    · rw [kI_nk d, kI_nk d, e1]
  · rw [kI_ne c, kI_ne c, e1]
theorem rg_par {g k : Nat} (h : RG κ κ') : RG (cI κ g k y) (cI κ' g k y) := h
theorem Vo.par {g k : Nat} (h : Vo n κ κ') : Vo n (cI κ g k y) (cI κ' g k y) := by
  refine ⟨kf_par h.1, h.2.1, fun i h1 h2 h3 h4 h5 => ?_⟩
  by_cases c : 1002 + 8 * n ≠ g ∨ i ≠ k
  · rw [kI_o c, kI_o c, h.2.2 i h1 h2 h3 h4 h5]
  · have c1 : 1002 + 8 * n = g := by omega
    have c2 : i = k := by omega
    rw [← c1, c2, kI_eq, kI_eq]
theorem HdC.par {g k : Nat} {a c : Int32} (hg : g ≠ 82 ∧ g ≠ 83) (h : HdC κ κ' HT a c) : HdC (cI κ g k y) (cI κ' g k y) HT a c := by
  refine ⟨⟨kf_par h.1.1, h.1.2⟩, fun f hf => ?_⟩
  have := h.2 f (hf.fr (kI_ne (by omega)).symm (kI_ne (by omega)).symm rfl)
  exact this.fr (kI_ne (by omega)) (kI_ne (by omega)) rfl
theorem af_par {g k : Nat} (h : AF H σ σ') : AF H (wI σ g k y) (wI σ' g k y) := by
  intro q hq
  obtain ⟨e1, e2⟩ := h q hq
  refine ⟨?_, e2⟩
  by_cases c : q = g
  · subst c
    funext i
    by_cases d : i = k
    · rw [d, aI_eq, aI_eq]
    · rw [aI_ni d, aI_ni d, e1]
  · rw [aI_ne c, aI_ne c, e1]
theorem HdR.par {g k : Nat} {a c : Int32} (hg : g ≠ 83 ∧ g ≠ 84 ∧ g ≠ 85) (h : HdR σ σ' HT a c) : HdR (wI σ g k y) (wI σ' g k y) HT a c := by
  refine ⟨af_par h.1, fun f hf => ?_⟩
  have := h.2 f (hf.fr (aI_ne (by omega)).symm (aI_ne (by omega)).symm (aI_ne (by omega)).symm)
  exact this.fr (aI_ne (by omega)) (aI_ne (by omega)) (aI_ne (by omega))
theorem Ro.par {g k : Nat} (h : Ro p σ σ') : Ro p (wI σ g k y) (wI σ' g k y) := by
  refine ⟨fun q hq => ?_, h.2.1, fun q i h1 h2 h3 => ?_⟩
  · by_cases c : q = g
    · subst c
      funext i
      by_cases d : i = k
      · rw [d, aI_eq, aI_eq]
      · rw [aI_ni d, aI_ni d, h.1 q hq]
    · rw [aI_ne c, aI_ne c, h.1 q hq]
  · by_cases c : q ≠ g ∨ i ≠ k
    · rw [aI_o c, aI_o c, h.2.2 q i h1 h2 h3]
    · have c1 : q = g := by omega
      have c2 : i = k := by omega
      rw [c1, c2, aI_eq, aI_eq]
end HANDS
