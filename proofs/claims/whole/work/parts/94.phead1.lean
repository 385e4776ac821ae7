/-! heads of bodies: frames, faults, one argument -/
section HD1
variable {X : Cx} {N b P : Nat} {κ κ1 κ2 κ' : Km} {σ σ1 σ2 σ' : Rm}
abbrev hB (b h : Nat) : Prop := h = 67 ∨ h = 72 ∨ h = 77 ∨ h = 1000 + 8 * b ∨ h = 1001 + 8 * b
abbrev qB (k : Nat) : Prop := k = 0 ∨ k = 10 ∨ k = 12 ∨ (18 ≤ k ∧ k ≤ 26) ∨ k = 35 ∨ k = 36 ∨ k = 37 ∨ k = 44
abbrev qA (k : Nat) : Prop := k = 0 ∨ k = 10 ∨ k = 12 ∨ k = 24 ∨ k = 25 ∨ k = 37
theorem qAB : ∀ k, qA k → qB k := fun k h => by unfold qA at h; unfold qB; omega
/-- what the reading of a head leaves -/
def BF (b : Nat) (κ κ' : Km) : Prop := KF (hB b) κ κ' ∧ RG κ κ' ∧ kI κ' 72 5 = kI κ 72 5 ∧ (∀ k, k ≠ 3 → kI κ' 67 k = kI κ 67 k) ∧ kI κ' 77 5 = kI κ 77 5 ∧ (∀ k, k ≠ 4 → k ≠ 5 → k ≠ 8 → kI κ' (1000 + 8 * b) k = kI κ (1000 + 8 * b) k) ∧ kL κ' (1000 + 8 * b) = kL κ (1000 + 8 * b) ∧ kW κ' (1001 + 8 * b) = kW κ (1001 + 8 * b) ∧ (kI κ' 67 3 = -9 → kI κ 67 3 = -9)
theorem BF.refl : BF b κ κ := ⟨KF.refl, RG.refl, rfl, fun _ _ => rfl, rfl, fun _ _ _ _ => rfl, rfl, rfl, id⟩
theorem BF.trans (x : BF b κ κ1) (y : BF b κ1 κ2) : BF b κ κ2 := ⟨x.1.trans y.1, x.2.1.trans y.2.1, y.2.2.1.trans x.2.2.1, fun k hk => (y.2.2.2.1 k hk).trans (x.2.2.2.1 k hk), y.2.2.2.2.1.trans x.2.2.2.2.1, fun k h1 h2 h3 => (y.2.2.2.2.2.1 k h1 h2 h3).trans (x.2.2.2.2.2.1 k h1 h2 h3), y.2.2.2.2.2.2.1.trans x.2.2.2.2.2.2.1, y.2.2.2.2.2.2.2.1.trans x.2.2.2.2.2.2.2.1, fun z => x.2.2.2.2.2.2.2.2 (y.2.2.2.2.2.2.2.2 z)⟩
theorem BF.set {p : Nat} : BF b κ (setC κ p) := ⟨setC_kf.weak (fun h e => Or.inr (Or.inl e)), setC_rg, setC_nk (by decide) (by decide) (by decide), fun k _ => by rw [setC_ne (by decide)], by rw [setC_ne (by decide)], fun k _ _ _ => by rw [setC_ne (by omega)], (setC_kf.1 _ (by omega)).2.1, (setC_kf.1 _ (by omega)).2.2, fun z => by rwa [setC_ne (by decide)] at z⟩
theorem nt_neg {f : Nat} (hf : f < 2147483648) (h : kI (nt κ f) 67 3 = -9) : kI κ 67 3 = -9 := by
  unfold nt at h
  split at h
  · rw [kI_eq] at h
    exact absurd h (neg9 hf)
  · exact h
theorem BF.nt {f : Nat} (hf : f < 2147483648) (hb : b < 12) : BF b κ (nt κ f) := by
  obtain ⟨n1, n2, n3⟩ := nt_kf (κ := κ) (f := f)
  exact ⟨n1.weak (fun h e => Or.inl e), n2, by rw [(n1.1 72 (by decide)).1], n3, by rw [(n1.1 77 (by decide)).1], fun k _ _ _ => by rw [(n1.1 (1000 + 8 * b) (by omega)).1], (n1.1 (1000 + 8 * b) (by omega)).2.1, (n1.1 (1001 + 8 * b) (by omega)).2.2, nt_neg hf⟩
theorem BF.fld {v : Int32} : BF b κ (cI κ (1000 + 8 * b) 4 v) := ⟨KF.cI (Or.inr (Or.inr (Or.inr (Or.inl rfl)))), RG.cI, by rw [kI_ne (by omega)], fun k _ => by rw [kI_ne (by omega)], by rw [kI_ne (by omega)], fun k h1 _ _ => kI_nk h1, rfl, rfl, fun z => by rwa [kI_ne (by omega)] at z⟩
theorem BF.dc {n : Nat} {v : Int64} {pl : Int32} (hb : b < 12) (h : DcR b n κ κ' v pl) : BF b κ κ' := by
  obtain ⟨k1, k2, k3, k4, k5⟩ := h.kf
  exact ⟨k1.weak (fun h e => by unfold hB; rcases e with e | e <;> simp [e]), k2, by rw [(k1.1 72 (by omega)).1], fun k _ => by rw [(k1.1 67 (by omega)).1], by rw [(k1.1 77 (by omega)).1], fun k _ h5 h8 => k3 k h5 h8, k4, by rw [k5], fun z => by rwa [(k1.1 67 (by omega)).1] at z⟩
theorem BF.opn {v : Int32} : BF b κ (cI κ 77 4 v) := ⟨KF.cI (Or.inr (Or.inr (Or.inl rfl))), RG.cI, by rw [kI_ne (by decide)], fun k _ => by rw [kI_ne (by decide)], kI_nk (by decide), fun k _ _ _ => by rw [kI_ne (by omega)], rfl, rfl, fun z => by rwa [kI_ne (by decide)] at z⟩
/-- a fault in a head -/
def FltB (b : Nat) (κ : Km) (σ : Rm) (κ' : Km) (σ' : Rm) : Prop := (∃ x, x < 4000 ∧ kI κ' 77 5 = nI x ∧ aI σ' 0 6 = nI x ∧ NN σ') ∧ KF (hB b) κ κ' ∧ RG κ κ' ∧ AF qB σ σ' ∧ kI κ' 72 5 = kI κ 72 5 ∧ kW κ' (1001 + 8 * b) = kW κ (1001 + 8 * b)
theorem FltB.pre (t : BF b κ κ1) (a : AF qB σ σ1) (h : FltB b κ1 σ1 κ' σ') : FltB b κ σ κ' σ' := ⟨h.1, t.1.trans h.2.1, t.2.1.trans h.2.2.1, a.trans h.2.2.2.1, h.2.2.2.2.1.trans t.2.2.1, h.2.2.2.2.2.trans t.2.2.2.2.2.2.2.1⟩
theorem FltB.here {x : Nat} (h : Pq κ σ N) (hx : x < 4000) : FltB b κ σ (cI κ 77 5 (nI x)) (wI σ 0 6 (nI x)) := by
  obtain ⟨b1, b2, b3, b4, b5, b6, b7, b8, b9, b10, b11, b12, b13, b14, b15, b16, b17⟩ := h.2
  have nn : NN (wI σ 0 6 (nI x)) := by
    unfold NN rK rE rU
    rw [sI_ne (by decide), sI_ne (by decide), sI_ne (by decide)]
    exact ⟨b16, b17, b14⟩
  exact ⟨⟨x, hx, kI_eq, aI_eq, nn⟩, KF.cI (Or.inr (Or.inr (Or.inl rfl))), RG.cI, AF.wI (Or.inl rfl), by rw [kI_ne (by decide)], rfl⟩
theorem FltB.at (h : Pq κ σ N) : FltB b κ σ (cI κ 77 5 (kI κ 72 8)) (wI σ 0 6 (kI κ 72 8)) := by
  obtain ⟨f, t, t1, t2, t3, t4, t5, t6, -⟩ := h.tok
  rw [t1]
  exact FltB.here h (by omega)
theorem FltB.at' {k : Nat} (h : Pq κ σ N) (hk : k < 20) : FltB b κ σ (cI κ 77 5 (kI κ 72 8 + nI k)) (wI σ 0 6 (kI κ 72 8 + nI k)) := by
  obtain ⟨f, t, t1, t2, t3, t4, t5, t6, -⟩ := h.tok
  rw [t1, nI_add]
  exact FltB.here h (by omega)
/-- an argument was read by both -/
def AO (N b P n : Nat) (κ : Km) (σ : Rm) (κ4 : Km) (σ4 : Rm) : Prop := Ps κ4 σ4 N b P ∧ Nu κ4 σ4 (pC κ + 1) (oC κ) (iC κ) (rJ σ) (rU σ) (rA σ) (rT σ) (rC σ) (n + 1) (rK σ) (rE σ) ∧ kI κ4 (1000 + 8 * b) 4 = nI (n + 1) ∧ BF b κ κ4 ∧ AF qA σ σ4
theorem arg_one {d n : Nat} {x1 y2 y3 : Int32} {Qk : Res → Km → Prop} (h : Ps κ σ N b P) (h2 : kI κ 72 7 = 2) (hn : kI κ (1000 + 8 * b) 4 = nI n) (hn4 : n < 4) (hv : rV σ = n) (hd : 2 ≤ d)
    (q : ∀ κ4 σ4, AO N b P n κ σ κ4 σ4 → (∀ (e : Nat) (Q : Res → Rm → Prop), 7 ≤ e → A X 92 e MX13_readBody 192 [(0, vR 92), (1, vI x1), (2, vI y2), (3, vI y3), (4, vI (nI (n + 1)))] [] σ4 Q → A X 92 e MX13_readBody 266 [(0, vR 92), (1, vI x1), (2, vI y2), (3, vI y3), (4, vI (nI n))] [] σ Q) → ((x1 = 0 → (((kI κ4 72 7) = 44 → ∃ e16 : Nat, e16 + 1 ≤ d ∧ KC' X e16 MX9_next [vR 72] κ4 (kRV fun κ19 => K X d MX5_readArguments 16 [(0, vR 77), (1, vI x1), (2, vI (nI (n + 1)))] [] κ19 Qk)) ∧ (¬ (kI κ4 72 7) = 44 → K X d MX5_readArguments 123 [(0, vR 77), (1, vI x1), (2, vI (nI n)), (3, vL (kL κ 76 (pC κ)))] [] κ4 Qk))) ∧ (¬ x1 = 0 → K X d MX5_readArguments 123 [(0, vR 77), (1, vI x1), (2, vI (nI n)), (3, vL (kL κ 76 (pC κ)))] [] κ4 Qk))) :
    ∃ e16 : Nat, e16 + 1 ≤ d ∧ KC' X e16 MX9_index [vR 72] κ (kRI fun y19 κ20 => ∃ e22 : Nat, e22 + 1 ≤ d ∧ KC' X e22 MX9_valueOf [vR 72, vI y19] κ20 (kRJ fun w25 κ26 => (isH κ26 (kC κ26) 0) ∧ ∃ e28 : Nat, e28 + 1 ≤ d ∧ KC' X e28 MX0_find [vR (kC κ26), vL w25] κ26 (kRI fun y31 κ33 => ((y31 = (-9) → K X d MX5_readArguments 72 [(0, vR 77), (1, vI x1), (2, vI (nI n)), (3, vL w25)] [] κ33 Qk) ∧ (¬ y31 = (-9) → ∃ e36 : Nat, e36 + 1 ≤ d ∧ KC' X e36 MX7_noteWrongName [vR 67, vI (kI κ33 72 8)] κ33 (kRV fun κ39 => K X d MX5_readArguments 72 [(0, vR 77), (1, vI x1), (2, vI (nI n)), (3, vL w25)] [] κ39 Qk)))))) := by
  have hb := h.1.2.2.2.1
  have hkB := h.1.2.2.1
  have hC := h.1.2.1
  have hp := h.p3
  have hlt := h.n0 (c := 2) h2 (by omega) (by omega)
  obtain ⟨m, m1, m2, m3⟩ := h.TW
  obtain ⟨f, tt, g1, g2, g3, g4, g5, g6, g7, g8⟩ := h.tok
  obtain ⟨v, σd, hds, href, v16⟩ := decl_ref (X := X) h
  have s25 : sI σ 25 = nI n := by
    obtain ⟨E, D, n1, n2, n3, n4, n5, n6, n7, n8, nE, -⟩ := h.1.2.2.2.2
    have eV : rV σ = E.length := by unfold rV; rw [n8, cl_nI (by omega)]
    rw [n8, ← eV, hv]
  obtain ⟨w5, w12⟩ : kW κ (1001 + 8 * b) = 12 ∧ kI κ (1000 + 8 * b) 5 = nI (cV κ b) ∧ cV κ b ≤ 12 := by
    obtain ⟨E, D, n1, n2, n3, n4, n5, n6, n7, n8, nE, -⟩ := h.1.2.2.2.2
    have ecV : cV κ b = min 12 D.length := by unfold cV; rw [n4, cl_nI (by omega)]
    exact ⟨n5, by rw [ecV]; exact n4, by omega⟩
  have fnd := h.fnd h2 (by omega)
  -- behind the declaration
  have tail : ∀ (κa : Km) (σa : Rm) (κ5 : Km) (σ5 : Rm), Ps κa σa N b P → κ5 = cI κa (1000 + 8 * b) 4 (nI (n + 1)) → Nu κa σa (pC κ) (oC κ) (iC κ) (rJ σ) (rU σ) (rA σ) (rT σ) (rC σ) (n + 1) (rK σ) (rE σ) → BF b κ κa → AF qA σ σa → (∀ (e : Nat) (Q : Res → Rm → Prop), 7 ≤ e → A X 92 e MX13_readBody 192 [(0, vR 92), (1, vI x1), (2, vI y2), (3, vI y3), (4, vI (nI (n + 1)))] [] (wS σa 10 (nI (pC κ + 1))) Q → A X 92 e MX13_readBody 266 [(0, vR 92), (1, vI x1), (2, vI y2), (3, vI y3), (4, vI (nI n))] [] σ Q) → ∃ e9 : Nat, e9 + 1 ≤ d ∧ KC' X e9 MX9_next [vR 72] κ5 (kRV fun κ12 => ((x1 = 0 → (((kI κ12 72 7) = 44 → ∃ e16 : Nat, e16 + 1 ≤ d ∧ KC' X e16 MX9_next [vR 72] κ12 (kRV fun κ19 => K X d MX5_readArguments 16 [(0, vR 77), (1, vI x1), (2, vI (nI (n + 1)))] [] κ19 Qk)) ∧ (¬ (kI κ12 72 7) = 44 → K X d MX5_readArguments 123 [(0, vR 77), (1, vI x1), (2, vI (nI n)), (3, vL (kL κ 76 (pC κ)))] [] κ12 Qk))) ∧ (¬ x1 = 0 → K X d MX5_readArguments 123 [(0, vR 77), (1, vI x1), (2, vI (nI n)), (3, vL (kL κ 76 (pC κ)))] [] κ12 Qk))) := by
    rintro κa σa κ5 σ5 pa rfl ⟨a1, a2, a3, a4, a5, a6, a7, a8, a9, a10, a11⟩ bf af ref
    obtain ⟨p5, f1, f2, f3, -⟩ := pa.fld (k := 4) (v := nI (n + 1)) (by decide)
    have hlt5 : pC (cI κa (1000 + 8 * b) 4 (nI (n + 1))) < N := by omega
    obtain ⟨p6, -, l1, l2, l3, l4, l5, l6, l7, l8, l9, l10, l11⟩ := p5.next hlt5
    refine ⟨0, by omega, kc_nextP p5 hlt5 (q _ (wS σa 10 (nI (pC (cI κa (1000 + 8 * b) 4 (nI (n + 1))) + 1))) ⟨p6, ⟨by omega, by omega, by omega, by omega, by omega, by omega, by omega, by omega, by omega, by omega, by omega⟩, ?_, (bf.trans BF.fld).trans BF.set, af.trans (AF.wI (by decide))⟩ ?_)⟩
    · rw [setC_ne (by omega), kI_eq]
    · have e : pC (cI κa (1000 + 8 * b) 4 (nI (n + 1))) = pC κ := by omega
      rw [e]
      exact ref
  refine ⟨0, by omega, kc_index h ⟨0, by omega, kc_valueOf m3 m2 (by omega) ⟨by rw [hC]; exact isH_body hkB, 0, by omega, ?_⟩⟩⟩
  rw [hC]
  refine kc_find (n := cV κ b) (isH_body hkB) (by rw [show 1000 + 8 * b + 1 = 1001 + 8 * b by omega]; exact isH_names hkB) w12.1 w12.2 (by rw [show 1000 + 8 * b + 1 = 1001 + 8 * b by omega]; exact w5) (fun y fy => ?_)
  rw [show 1000 + 8 * b + 1 = 1001 + 8 * b by omega] at fy
  refine ⟨fun c => ?_, fun c => ?_⟩
  · -- a new name
    have no : ∀ u, u < cV κ b → kL κ (1001 + 8 * b) u ≠ kL κ 76 (pC κ) := by
      rcases fy with ⟨i, i1, i2, -⟩ | ⟨-, hu⟩
      · rw [i2] at c
        exact absurd c (neg9 (by omega))
      · exact hu
    refine k_5_readArguments_72 _ _ _ ⟨by rw [hC]; exact isH_body hkB, 1, by omega, ?_⟩
    rw [hC]
    refine kc_declare (n := cV κ b) hkB w12.1 w12.2 w5 (fun κd dc => ?_)
    obtain ⟨pd, td, nu, u12, -⟩ := h.decl0 (by omega) h2 (hds κd dc)
    have hCd : kC κd = 1000 + 8 * b := pd.1.2.1
    have kfd := dc.kf
    have e4 : kI κd (1000 + 8 * b) 4 = nI n := (kfd.2.2.1 4 (by decide) (by decide)).trans hn
    rw [hCd, e4, nI_1]
    refine ⟨isH_body pd.1.2.2.1, ?_⟩
    rintro κ8 rfl
    have hnew : σd = vd σ (pC κ) := by
      rcases (hds κd dc).2 with ⟨⟨z1, z2, -⟩, -⟩ | ⟨-, -, z⟩
      · obtain ⟨i, i1, i2⟩ := fnd.mpr ⟨v, z1, z2⟩
        exact absurd i2 (no i i1)
      · exact z
    have rVd : rV σd = n + 1 := by rw [hnew]; unfold rV; rw [vd_25, cl_nI (by omega), hv]
    have sd25 : sI σd 25 = nI (n + 1) := by rw [hnew, vd_25, hv]
    obtain ⟨n1, n2, n3, n4, n5, n6, n7, n8, n9, n10, n11⟩ := nu
    refine tail κd σd _ σd pd rfl ⟨n1, n2, n3, n4, n5, n6, n7, n8, rVd, n10, n11⟩ (BF.dc hb dc) (by rw [hnew]; exact vd_af.weak (fun k hk => by unfold qA; omega)) (fun e Q he hA => ?_)
    refine a_readBody_266 _ _ _ _ ⟨1, by omega, ac_mustName h (fun _ => ⟨1, by omega, href _ _ ?_⟩) (fun z => absurd (h2.symm.trans z) (by decide)) (fun z => absurd h2 z)⟩
    rw [sI_ne (by decide), sI_ne (by decide), sd25, s25]
    refine ⟨fun z => ?_, fun _ => a_readBody_321 _ _ _ _ _ _ _ ?_⟩
    · have := (nI_eq (a := n + 1) (b := n) (by omega) (by omega)).mp z
      omega
    · rw [nI_1]
      exact hA
  · -- a name that is there
    have yes : ∃ i, i < cV κ b ∧ kL κ (1001 + 8 * b) i = kL κ 76 (pC κ) := by
      rcases fy with ⟨i, i1, i2, i3, -⟩ | ⟨z, -⟩
      · exact ⟨i, i1, i3⟩
      · exact absurd z c
    obtain ⟨u, u1, u2⟩ := fnd.mp yes
    have hsame : σd = σ := by
      have dc : DcR b (cV κ b) κ κ (kL κ 76 (pC κ)) (kI κ 72 8) := Or.inl ⟨yes, rfl⟩
      rcases (hds κ dc).2 with ⟨-, z⟩ | ⟨z, -⟩
      · exact z
      · exact absurd u2 (z u u1)
    obtain ⟨pD, nu⟩ := h.dup (by omega)
    obtain ⟨nk1, nk2, nk3⟩ := nt_kf (κ := κ) (f := plT κ (pC κ))
    have c0 := nk1.1 (1000 + 8 * b) (by omega)
    have c1 := nk1.1 (1001 + 8 * b) (by omega)
    rw [g1, g8]
    refine ⟨0, by omega, kc_note ?_⟩
    have hCd : kC (nt κ (plT κ (pC κ))) = 1000 + 8 * b := pD.1.2.1
    have cvD : cV (nt κ (plT κ (pC κ))) b = cV κ b := by unfold cV; rw [c0.1]
    refine k_5_readArguments_72 _ _ _ ⟨by rw [hCd]; exact isH_body pD.1.2.2.1, 1, by omega, ?_⟩
    rw [hCd]
    refine kc_declare (n := cV κ b) pD.1.2.2.1 (by rw [c0.1]; exact w12.1) w12.2 (by rw [c1.2.2]; exact w5) (fun κd dc => ?_)
    have ed : κd = nt κ (plT κ (pC κ)) := by
      obtain ⟨i, i1, i2⟩ := yes
      rcases dc with ⟨-, z⟩ | ⟨z, -⟩ | ⟨z, -⟩
      · exact z
      · exact absurd (by rw [c1.2.1]; exact i2) (z i i1)
      · exact absurd (by rw [c1.2.1]; exact i2) (z i i1)
    subst ed
    have e4 : kI (nt κ (plT κ (pC κ))) (1000 + 8 * b) 4 = nI n := by rw [c0.1]; exact hn
    rw [hCd, e4, nI_1]
    refine ⟨isH_body pD.1.2.2.1, ?_⟩
    rintro κ8 rfl
    obtain ⟨n1, n2, n3, n4, n5, n6, n7, n8, n9, n10, n11⟩ := nu
    have afd : AF qA σ (dp σ (pC κ)) := fun k hk => ⟨dp_a (fun z => hk (by unfold qA; omega)) (fun z => hk (by unfold qA; omega)), dp_l (fun z => hk (by unfold qA; omega))⟩
    refine tail (nt κ (plT κ (pC κ))) (dp σ (pC κ)) _ (dp σ (pC κ)) pD rfl ⟨n1, n2, n3, n4, n5, n6, n7, n8, by omega, n10, n11⟩ (BF.nt (by unfold plT; have := Int32.toNatClampNeg_lt (kI κ 75 (pC κ)); omega) hb) afd (fun e Q he hA => ?_)
    refine a_readBody_266 _ _ _ _ ⟨1, by omega, ac_mustName h (fun _ => ⟨1, by omega, href _ _ ?_⟩) (fun z => absurd (h2.symm.trans z) (by decide)) (fun z => absurd h2 z)⟩
    rw [hsame]
    refine ⟨fun _ => ⟨0, by omega, ac_blame (by omega) ?_⟩, fun z => absurd rfl z⟩
    have e25 : sI (bl (wS σ 10 (nI (pC κ + 1))) (pC κ)) 25 = nI (rV σ) := by rw [bl_s (by decide), sI_ne (by decide), s25, hv]
    rw [e25, vpn (by omega), cl_nI (by omega)]
    refine ⟨by omega, ?_⟩
    rintro s17 rfl
    have e25' : sI (wL (bl (wS σ 10 (nI (pC κ + 1))) (pC κ)) 24 (rV σ) 0) 25 = nI (rV σ) := e25
    rw [e25', nI_1]
    rintro s18 rfl
    refine a_readBody_321 _ _ _ _ _ _ _ ?_
    rw [nI_1]
    have ec := dp_comm (σ := σ) (t := pC κ) (x := nI (pC κ + 1))
    have er : rV (wS σ 10 (nI (pC κ + 1))) = rV σ := by unfold rV; rw [sI_ne (by decide)]
    unfold dp at ec hA
    rw [er] at ec
    rw [ec]
    exact hA
end HD1
