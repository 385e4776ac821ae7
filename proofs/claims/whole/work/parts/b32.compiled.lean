/-! compile, of both -/
section COMPILED
variable {X : Cx} {d e : Nat} {κ0 κ κ1 κ2 κ' : Km} {σ0 σ σ1 σ2 σ' : Rm} {b V al S T sp z LT HT F0 n k s p o j i x t g : Nat} {st : Nat → Nat} {fr : Nat → List Frm} {pt : Nat → Nat} {w m : Nat → Nat} {y hi rd x0 : Int32} {l : Int64}
/-- the class at a story's beginning -/
def FC (κ : Km) (sp : Nat) : Prop := ((kI κ 79 8 = nI sp ∧ sp ≤ 12) ∧ kI κ 79 9 = 0 ∧ kI κ 79 10 = 0 ∧ kI κ 79 11 = 0 ∧ kI κ 79 12 = 0 ∧ kI κ 79 13 = 0 ∧ kI κ 79 14 = 0 ∧ kI κ 79 16 = 0 ∧ kI κ 79 17 = 0) ∧ ((kI κ 80 1 = 0 ∧ kI κ 80 2 = 0) ∧ (kI κ 82 1 = 0 ∧ kI κ 82 2 = 0) ∧ kI κ 84 1 = 1 ∧ kI κ 84 2 = 0 ∧ kI κ 84 3 = 0) ∧ (∀ m, 1 ≤ m → m ≤ 60 → kW κ (1003 + 8 * m) = 0) ∧ (∀ k, k < 12 → (k < sp → kW κ (1004 + 8 * k) ≠ 0 ∧ kW κ (1004 + 8 * k) ≤ 40000 ∧ 40 ≤ kW κ (1004 + 8 * k)) ∧ (sp ≤ k → kW κ (1004 + 8 * k) = 0)) ∧ kV κ ≤ 60 ∧ (kW κ 91 = 12 ∧ kW κ 86 = 40 ∧ kW κ 87 = 40 ∧ kW κ 88 = 40) ∧ (32 ≤ kW κ 81 ∧ kW κ 81 ≤ 1200) ∧ (32 ≤ kW κ 83 ∧ kW κ 83 ≤ 1200) ∧ (64 ≤ kW κ 85 ∧ kW κ 85 ≤ 140000)
theorem cn_0 : ∀ m, cn (fun _ => 0) m = 0 := by
  intro m
  induction m with
  | zero => rfl
  | succ m ih => show cn (fun _ => 0) m + 0 = 0; rw [ih]
theorem FC.sc (h : FC κ sp) : SC κ 0 sp := by
  obtain ⟨⟨⟨a1, a2⟩, a3, a4, -⟩, -, hw, h4, hv, hw2, h81, h83, h85⟩ := h
  have e : cn (hwd κ) 60 = 0 := (cn_cg 60 (fun n n1 n2 => if_pos (hw n n1 n2))).trans (cn_0 60)
  exact ⟨⟨a4, by omega, Nat.zero_le _, hv⟩, a1, by omega, h4, fun n n1 n2 => hw n (by omega) n2, fun n n1 n2 => by omega, hw2, h81, h83, h85⟩
theorem FC.desk (h : FC κ sp) (sta : Sta b κ σ) (bg : BgR σ) : Desk κ σ κ σ b 0 0 0 0 0 sp 0 0 (fun _ => 0) (fun _ => []) (fun _ => 0) (fun _ => 0) := by
  obtain ⟨⟨⟨a1, a2⟩, a3, a4, a5, a6, a7, a8, a9, a10⟩, ⟨⟨b1, b2⟩, ⟨b3, b4⟩, b5, b6, b7⟩, hw, h4, hv, hw2, h81, h83, h85⟩ := h
  obtain ⟨g1, ⟨g2, g3, g4⟩, g5, g6, g7, g8, g9, g10, g11, g12, g13⟩ := bg
  have arz : ArZ σ := fun n V h47 _ n1 n2 _ => by
    rw [g2, litI 0, eq_nI (by omega) (by omega)] at h47
    omega
  have prc : ∀ hh, hh = 80 ∨ hh = 82 → kI κ hh 1 = 0 → kI κ hh 2 = 0 → 32 ≤ kW κ (hh + 1) ∧ kW κ (hh + 1) ≤ 1200 → PrC κ hh 0 (fun _ => 0) := fun hh _ e1 e2 e3 => ⟨e2, e1, fun k hk => absurd hk (by omega), by omega, e3.1, e3.2⟩
  have prr : ∀ a b c, sI σ a = 0 → PRr σ a b c 0 (fun _ => 0) := fun a b c e1 => ⟨e1, fun i hi => absurd hi (by omega)⟩
  refine Desk.of ⟨⟨⟨fun _ _ => ⟨rfl, rfl, rfl⟩, ⟨rfl, Mkd.refl arz⟩, fun _ _ _ => ⟨rfl, rfl⟩⟩, sta, RG.refl⟩, ⟨⟨a4, g2⟩, ⟨a5, g3⟩, ⟨a6, g5⟩, ⟨a7, g7⟩, a9.trans g8.symm, a1, ⟨a10, g6⟩, by omega, by omega, hv, by omega, by omega, by omega, a2, by omega⟩, fun n n1 n2 => by omega, ⟨rfl, ?_, h4, fun n n1 n2 => ?_, fun n m n1 n2 => by omega, fun p hp => Or.inl (g4 p hp)⟩, ⟨⟨_, prc 80 (Or.inl rfl) b1 b2 h81, prr 80 81 82 g9⟩, ⟨_, prc 82 (Or.inr rfl) b3 b4 h83, prr 83 84 85 g10⟩, 0, hw2.1, a3, g11, by omega, fun k hk => absurd hk (Nat.not_lt_zero _)⟩, ⟨⟨b5, g12, by omega⟩, ⟨by omega, h85.1, h85.2⟩, fun k hk => absurd hk (Nat.not_lt_zero _)⟩, fun n n1 n2 => by omega⟩ ⟨rfl, List.nodup_nil, fun x hx => absurd hx List.not_mem_nil, fun x x1 x2 => by omega, fun x hx => absurd hx List.not_mem_nil, trivial, fun x x1 x2 => by omega⟩ (fun n n1 n2 => by omega) a8 ⟨?_, ?_, ?_⟩ ⟨fun x hx => absurd hx (Nat.not_lt_zero _), fun g hg => absurd hg (Nat.not_lt_zero _), fun n f x n1 n2 => by omega, Or.inl ⟨g13, b6⟩, ⟨hw2.2, Or.inl b7⟩⟩
  · show sp + 0 ≤ 12
    omega
  · rw [← cel3]; exact hw n (by omega) n2
  · show 0 + 0 ≤ 0 + 0
    omega
  · show 0 + ((6000 - 0) * 32000 + (60 - 0) * 9900 + 0) ≤ 400000000
    omega
  · show 0 + 2 * ((6000 - 0) * 32000 + (60 - 0) * 9900 + 0) ≤ 400000000
    omega
/-- behind the text's reading: the tape is empty, the stage is set back -/
theorem comp_tail {Q : Res → Km → Prop} {x1 : Int32} (sc : SC κ V sp) (kr : KR2 κ κ') (q : ∀ κ2 sp', FC κ2 sp' → (∀ g, g ≠ 64 → g ≠ 65 → g ≠ 79 → g ≠ 80 → g ≠ 82 → g ≠ 84 → (g < 1000 ∨ g % 8 ≤ 1 ∨ g = 1003) → kI κ2 g = kI κ' g ∧ kL κ2 g = kL κ' g ∧ kW κ2 g = kW κ' g) → kI κ2 65 1 = 0 → (kB κ2 = kB κ' ∧ RG κ' κ2) → kI κ2 64 = kI κ' 64 → ((0 ≤ x1 → K X 1000 MX11_compile 44 [(0, vR 64), (1, vI x1)] [vI 0, vR 64] κ2 Q) ∧ (¬ 0 ≤ x1 → K X 1000 MX11_compile 44 [(0, vR 64), (1, vI x1)] [vI 1, vR 64] κ2 Q))) : K X 1000 MX11_compile 20 [(0, vR 64), (1, vI x1)] [] κ' Q := by
  have kk : ∀ g, (79 ≤ g ∧ g < 92) ∨ (1000 ≤ g ∧ 2 ≤ g % 8) → kI κ' g = kI κ g ∧ kL κ' g = kL κ g ∧ kW κ' g = kW κ g := fun g hg => kr.1 g (fun z => by unfold hRd at z; omega)
  have sc1 : SC (cI κ' 65 1 0) V sp := (sc.cg (κ' := κ') (fun k => by rw [(kk 79 (by omega)).1]) kr.2.1 (fun n => (kk (1002 + 8 * n) (by omega)).1) (fun g hg => (kk g hg).2.2)).cg (fun k => by rw [kI_ne (by decide)]) rfl (fun n => kI_ne (by omega)) (fun g _ => rfl)
  refine k_11_compile_20 _ ⟨0, by omega, KC_of_K rfl (Nat.le_of_ble_eq_true rfl) rfl (k_8_clear_0 ?_)⟩
  rintro κ4 rfl
  refine ⟨rfl, 4, by omega, kc_reset sc1 (fun κ2 sp' sc2 fz hw => q (rsS κ2) sp' ?_ (fun g g1 g2 g3 g4 g5 g6 g7 => ?_) ?_ ?_ ?_)⟩
  · obtain ⟨r1, r2, r3, r4, r5, r6, r7, r8, r9⟩ := rsS_79 (κ := κ2)
    obtain ⟨⟨s1, s2, s3, s4⟩, s5, s6, s7, s8, s9, w1, w2, w3, w4⟩ := sc2
    exact ⟨⟨⟨r1.trans s5, by omega⟩, r2, r3, r4, r5, r6, r7, r8, r9⟩, rsS_80, hw, s7, s4, w1, w2, w3, w4⟩
  · obtain ⟨f1, f2, f3⟩ := fz.1 g g3 g7
    refine ⟨?_, f2, f3⟩
    rw [rsS_h g3 g4 g5 g6, f1, kI_ne g2]
  · rw [rsS_h (by decide) (by decide) (by decide) (by decide), (fz.1 65 (by decide) (by decide)).1, kI_eq]
  · refine ⟨fz.2.1.2, ?_⟩
    have r1 : RG κ' (cI κ' 65 1 0) := RG.cI
    have r2 : RG κ2 (rsS κ2) := by
      unfold rsS
      exact ((((((((((((((RG.cI.trans RG.cI).trans RG.cI).trans RG.cI).trans RG.cI).trans RG.cI).trans RG.cI).trans RG.cI).trans RG.cI).trans RG.cI).trans RG.cI).trans RG.cI).trans RG.cI).trans RG.cI).trans RG.cI).trans RG.cI
    exact (r1.trans fz.2.2).trans r2
  · rw [rsS_h (by decide) (by decide) (by decide) (by decide), (fz.1 64 (by decide) (by decide)).1, kI_ne (by decide)]
theorem compile_ok (h : Rr k κ σ) : P2C X κ σ (Rr (k + 1)) := by
  refine ⟨1000, 800, by decide, by decide, ?_⟩
  obtain ⟨n, tp, t2, tb⟩ := h.tp
  obtain ⟨pp, V, sp, sc⟩ := h.sc
  have pp : ∃ rd, Pe κ σ rd := pp.elim (fun z => ⟨_, z⟩) (fun z => ⟨_, z⟩)
  obtain ⟨rd, -, ⟨h1, h2, h3, h4⟩, ⟨h5, κ1, rg, h7, h8⟩, -, -⟩ := pp
  -- what stays for the next reading
  have pe : ∀ κ' σ' κ2 σ2 rd, KR2 κ κ' → ClW κ' → TkW κ' → (∀ g, g ≠ 64 → g ≠ 65 → g ≠ 79 → g ≠ 80 → g ≠ 82 → g ≠ 84 → (g < 1000 ∨ g % 8 ≤ 1 ∨ g = 1003) → kI κ2 g = kI κ' g ∧ kL κ2 g = kL κ' g ∧ kW κ2 g = kW κ' g) → kI κ2 65 1 = 0 → (kB κ2 = kB κ' ∧ RG κ' κ2) → BgR σ' → NN σ' → (∀ k, k ≠ 46 → k ≠ 18 → aI σ2 k = aI σ' k) → kI κ2 64 5 = rd → sI σ2 46 = rd → Pe κ2 σ2 rd := fun κ' σ' κ2 σ2 rd kr cw tk e e65 eB bg nn es e64 e46 => by
    have kk : ∀ g, g = 66 ∨ g = 73 ∨ g = 1003 → kI κ' g = kI κ g ∧ kL κ' g = kL κ g ∧ kW κ' g = kW κ g := fun g hg => kr.1 g (fun z => by unfold hRd at z; omega)
    have e' : ∀ g, (66 ≤ g ∧ g ≤ 76) ∨ (1000 ≤ g ∧ g % 8 ≤ 1) ∨ g = 1003 → kI κ2 g = kI κ' g ∧ kL κ2 g = kL κ' g ∧ kW κ2 g = kW κ' g := fun g hg => e g (by omega) (by omega) (by omega) (by omega) (by omega) (by omega) (by omega)
    refine ⟨⟨0, ⟨e65, ?_, by omega, fun i => ?_⟩, (congrFun (es 2 (by decide) (by decide)) 0).trans bg.1, fun i hi => absurd hi (Nat.not_lt_zero _)⟩, ⟨tk.fr ⟨(e' 74 (by omega)).2.2, (e' 75 (by omega)).2.2, (e' 76 (by omega)).2.2⟩, ?_, ?_, nn.fr (fun k hk => es k (by omega) (by omega))⟩, ⟨?_, κ1, (rg.trans kr.2.2.1).trans eB.2, h7, h8⟩, e64, e46⟩
    · rw [(e' 66 (by omega)).2.2, (kk 66 (by omega)).2.2]; exact tp.2.1
    · rw [(e' 66 (by omega)).1, (kk 66 (by omega)).1]; exact tp.2.2.2 i
    · unfold Ky at *
      rw [(e' 73 (by omega)).2.1, (e' 73 (by omega)).2.2, (kk 73 (by omega)).2.1, (kk 73 (by omega)).2.2]; exact h2
    · unfold ClW at *
      rw [(e' 69 (by omega)).2.2, (e' 70 (by omega)).2.2, eB.1]
      refine ⟨cw.1, cw.2.1, fun i hi => ?_⟩
      rw [(e' (1001 + 8 * i) (by omega)).2.2]
      exact cw.2.2 i hi
    · rw [(e' 1003 (by omega)).2.2, (kk 1003 (by omega)).2.2]; exact h5
  refine KC_of_K rfl (Nat.le_of_ble_eq_true rfl) rfl (comp_core (by omega) tp t2 tb h1 h2 h3 h4 (fun b κ' σ' sta n67 kr cw tk bg nn adv => ?_) (fun x κ' σ' hx kr cw tk bg nn s46 adv => ?_))
  · refine comp_tail sc kr (fun κ2 sp' fc e e65 eB e64 => ⟨fun z => absurd z (by decide), fun _ => k_11_compile_44 _ _ ⟨Or.inr rfl, ?_⟩⟩)
    rintro κ3 rfl
    rw [kI_eq]
    refine ⟨fun z => absurd z (by decide), fun _ => ⟨0, by omega, KC_of_K rfl (Nat.le_of_ble_eq_true rfl) rfl (k_7_size_0 ⟨_, rfl, k_11_compile_68 _ _ ⟨_, rfl, adv _ ?_⟩⟩)⟩⟩
    have n67' : kI (cI κ2 64 5 1) 67 2 = nI b := by
      rw [kI_ne (by decide), (e 67 (by decide) (by decide) (by decide) (by decide) (by decide) (by decide) (by decide)).1]; exact n67
    have fc3 : FC (cI κ2 64 5 1) sp' := by
      unfold FC at *
      rw [kI_ne (h' := 79) (by decide), kI_ne (h' := 80) (by decide), kI_ne (h' := 82) (by decide), kI_ne (h' := 84) (by decide)]
      exact fc
    have sta3 : Sta b (cI κ2 64 5 1) (wS σ' 46 1) := sta.same (fun h hh => by rw [kI_ne (by omega), (e h (by omega) (by omega) (by omega) (by omega) (by omega) (by omega) (by omega)).1]) ⟨(e 69 (by decide) (by decide) (by decide) (by decide) (by decide) (by decide) (by decide)).2.2, (e 70 (by decide) (by decide) (by decide) (by decide) (by decide) (by decide) (by decide)).2.2⟩ eB.1 (fun k k1 k2 => aI_ne (by omega))
    have bg3 : BgR (wS σ' 46 1) := bg.fr (fun k hk => aI_ne (by omega))
    refine ⟨n67', Or.inr ⟨_, _, b, 0, 0, 0, 0, 0, sp', 0, 0, _, _, _, _, ?_, fc3.desk sta3 bg3, ?_⟩⟩
    · exact pe κ' σ' _ _ 1 kr cw tk (fun g g1 g2 g3 g4 g5 g6 g7 => by rw [kI_ne g1]; exact e g g1 g2 g3 g4 g5 g6 g7) (by rw [kI_ne (by decide)]; exact e65) ⟨eB.1, eB.2.trans RG.cI⟩ bg nn (fun k k1 k2 => aI_ne k1) kI_eq sI_eq
    · show 0 + 2 * ((6000 - 0) * 32000 + (60 - 0) * 9900 + cn (fun _ => 0) 0) ≤ 385300000 + 100 * (k + 1)
      rw [cn_0]
      omega
  · refine comp_tail sc kr (fun κ2 sp' fc e e65 eB e64 => ⟨fun _ => k_11_compile_44 _ _ ⟨Or.inl rfl, ?_⟩, fun z => absurd (nI_pos' (by omega)) z⟩)
    rintro κ3 rfl
    rw [kI_eq]
    refine ⟨fun _ => k_11_compile_68 _ _ ⟨_, rfl, adv _ ⟨rfl, Or.inl ⟨?_, sp', ?_⟩⟩⟩, fun z => absurd rfl z⟩
    · exact pe κ' σ' _ _ 0 kr cw tk (fun g g1 g2 g3 g4 g5 g6 g7 => by rw [kI_ne g1]; exact e g g1 g2 g3 g4 g5 g6 g7) (by rw [kI_ne (by decide)]; exact e65) ⟨eB.1, eB.2.trans RG.cI⟩ bg nn (fun k k1 k2 => aI_ne k2) kI_eq (by rw [sI_ne (by decide)]; exact s46)
    · exact fc.sc.cg (fun k => by rw [kI_ne (by decide)]) rfl (fun n => kI_ne (by omega)) (fun g _ => rfl)
end COMPILED
