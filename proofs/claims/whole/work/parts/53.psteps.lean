/-! basic steps of both parsers -/
def Ps (κ : Km) (σ : Rm) (N b P : Nat) : Prop := PA κ σ N b P ∧ PB κ σ N
/-- the numbers of both states: token, levels, acts of both, uses, asks, tries, catches, names, nests -/
def Nu (κ : Km) (σ : Rm) (p o i j u a t c v k e : Nat) : Prop := pC κ = p ∧ oC κ = o ∧ iC κ = i ∧ rJ σ = j ∧ rU σ = u ∧ rA σ = a ∧ rT σ = t ∧ rC σ = c ∧ rV σ = v ∧ rK σ = k ∧ rE σ = e
theorem Nu.refl {κ : Km} {σ : Rm} : Nu κ σ (pC κ) (oC κ) (iC κ) (rJ σ) (rU σ) (rA σ) (rT σ) (rC σ) (rV σ) (rK σ) (rE σ) := ⟨rfl, rfl, rfl, rfl, rfl, rfl, rfl, rfl, rfl, rfl, rfl⟩
theorem TkA.pl {κ : Km} {σ : Rm} {N t : Nat} (h : TkA κ σ N) (ht : t ≤ N) : kI κ 75 t = nI (plT κ t) ∧ plT κ t < 3001 ∧ ∀ s, s < t → plT κ s < plT κ t := by
  obtain ⟨f, h1, h2, h3⟩ := h.2.2.2.2.1 t (by omega)
  have e : plT κ t = f := by unfold plT; rw [h1, cl_nI (by omega)]
  refine ⟨by rw [e]; exact h1, by omega, fun s hs => ?_⟩
  obtain ⟨g, g1, g2⟩ := h3 s hs
  have e2 : plT κ s = g := by unfold plT; rw [g1, cl_nI (by omega)]
  omega
theorem cl_set {κ : Km} {q : Nat} (h : q < 2147483648) : pC (setC κ q) = q := by
  unfold pC
  rw [setC_cur.1, cl_nI h]
/-- a token on -/
theorem Ps.next {κ : Km} {σ : Rm} {N b P : Nat} (h : Ps κ σ N b P) (hp : pC κ < N) : Ps (setC κ (pC κ + 1)) (wS σ 10 (nI (pC κ + 1))) N b P ∧ Tr b κ σ (setC κ (pC κ + 1)) (wS σ 10 (nI (pC κ + 1))) ∧ Nu (setC κ (pC κ + 1)) (wS σ 10 (nI (pC κ + 1))) (pC κ + 1) (oC κ) (iC κ) (rJ σ) (rU σ) (rA σ) (rT σ) (rC σ) (rV σ) (rK σ) (rE σ) := by
  obtain ⟨hA, hB⟩ := h
  have hN : N ≤ 3000 := hA.1.2.2.2.1
  have kf : KF hE κ (setC κ (pC κ + 1)) := setC_kf.weak (fun h e => Or.inl e)
  have af : AF qE σ (wS σ 10 (nI (pC κ + 1))) := AF.wI (by decide)
  have e5 : kI (setC κ (pC κ + 1)) 72 5 = kI κ 72 5 := setC_nk (by decide) (by decide) (by decide)
  have ep : pC (setC κ (pC κ + 1)) = pC κ + 1 := cl_set (by omega)
  have e77 : kI (setC κ (pC κ + 1)) 77 = kI κ 77 := setC_ne (by decide)
  have e68 : kI (setC κ (pC κ + 1)) 68 = kI κ 68 := setC_ne (by decide)
  have e69 : kI (setC κ (pC κ + 1)) 69 = kI κ 69 := setC_ne (by decide)
  have e70 : kI (setC κ (pC κ + 1)) 70 = kI κ 70 := setC_ne (by decide)
  have s : ∀ k, k ≠ 10 → sI (wS σ 10 (nI (pC κ + 1))) k = sI σ k := fun k hk => sI_ne hk
  have a : ∀ k, k ≠ 10 → aI (wS σ 10 (nI (pC κ + 1))) k = aI σ k := fun k hk => aI_ne hk
  have nu : Nu (setC κ (pC κ + 1)) (wS σ 10 (nI (pC κ + 1))) (pC κ + 1) (oC κ) (iC κ) (rJ σ) (rU σ) (rA σ) (rT σ) (rC σ) (rV σ) (rK σ) (rE σ) := by
    refine ⟨ep, ?_, ?_, ?_, ?_, ?_, ?_, ?_, ?_, ?_, ?_⟩
    · unfold oC; rw [e77]
    · unfold iC; rw [e68]
    all_goals (first | (unfold rJ; rw [s _ (by decide)]) | (unfold rU; rw [s _ (by decide)]) | (unfold rA; rw [s _ (by decide)]) | (unfold rT; rw [s _ (by decide)]) | (unfold rC; rw [s _ (by decide)]) | (unfold rV; rw [s _ (by decide)]) | (unfold rK; rw [s _ (by decide)]) | (unfold rE; rw [s _ (by decide)]))
  refine ⟨⟨hA.fr kf e5 af (by omega), ?_⟩, ⟨Tf.fr hA.2.2.2.1 kf setC_rg e5, af.weak (fun k hk => Or.inl hk), ?_, Tn.fr hA.2.2.2.1 kf af (by rw [e77])⟩, nu⟩
  · obtain ⟨b1, b2, b3, b4, b5, b6, b7, b8, b9, b10, b11, b12, b13, b14, b15, b16, b17⟩ := hB
    obtain ⟨n1, n2, n3, n4, n5, n6, n7, n8, n9, n10, n11⟩ := nu
    unfold PB
    rw [n1, n2, n3, n4, n5, n6, n7, n8, n10, n11, e77, e68, setC_cur.1, setC_cur.2.1, setC_cur.2.2, setC_ne (by decide), setC_ne (by decide), s 12 (by decide), s 17 (by decide), s 29 (by decide), s 34 (by decide), s 44 (by decide), s 41 (by decide), s 35 (by decide), s 36 (by decide)]
    exact ⟨rfl, rfl, rfl, sI_eq, by omega, b6, b7, b8, b9, b10, b11, b12, b13, b14, b15, b16, b17⟩
  · obtain ⟨n1, n2, n3, n4, n5, n6, n7, n8, n9, n10, n11⟩ := nu
    unfold Tw
    rw [n3, n4, n5, n6, n7, n8, e69, e70]
    simp (disch := decide) only [a, Nat.le_refl, true_and, and_self, implies_true]
/-- one level more, or one less -/
theorem Ps.opn {κ : Km} {σ : Rm} {N b P o : Nat} (h : Ps κ σ N b P) (ho : o ≤ 24) : Ps (cI κ 77 4 (nI o)) (wS σ 12 (nI o)) N b P ∧ Tr b κ σ (cI κ 77 4 (nI o)) (wS σ 12 (nI o)) ∧ Nu (cI κ 77 4 (nI o)) (wS σ 12 (nI o)) (pC κ) o (iC κ) (rJ σ) (rU σ) (rA σ) (rT σ) (rC σ) (rV σ) (rK σ) (rE σ) := by
  obtain ⟨hA, hB⟩ := h
  have kf : KF hE κ (cI κ 77 4 (nI o)) := KF.cI (by decide)
  have af : AF qE σ (wS σ 12 (nI o)) := AF.wI (by decide)
  have c : ∀ h, h ≠ 77 → kI (cI κ 77 4 (nI o)) h = kI κ h := fun h hh => kI_ne hh
  have s : ∀ k, k ≠ 12 → sI (wS σ 12 (nI o)) k = sI σ k := fun k hk => sI_ne hk
  have a : ∀ k, k ≠ 12 → aI (wS σ 12 (nI o)) k = aI σ k := fun k hk => aI_ne hk
  have nu : Nu (cI κ 77 4 (nI o)) (wS σ 12 (nI o)) (pC κ) o (iC κ) (rJ σ) (rU σ) (rA σ) (rT σ) (rC σ) (rV σ) (rK σ) (rE σ) := by
    refine ⟨?_, ?_, ?_, ?_, ?_, ?_, ?_, ?_, ?_, ?_, ?_⟩
    · unfold pC; rw [c _ (by decide)]
    · unfold oC; rw [kI_eq, cl_nI (by omega)]
    · unfold iC; rw [c _ (by decide)]
    all_goals (first | (unfold rJ; rw [s _ (by decide)]) | (unfold rU; rw [s _ (by decide)]) | (unfold rA; rw [s _ (by decide)]) | (unfold rT; rw [s _ (by decide)]) | (unfold rC; rw [s _ (by decide)]) | (unfold rV; rw [s _ (by decide)]) | (unfold rK; rw [s _ (by decide)]) | (unfold rE; rw [s _ (by decide)]))
  refine ⟨⟨hA.fr kf (by rw [c _ (by decide)]) af (by rw [nu.1]; exact Nat.le_refl _), ?_⟩, ⟨Tf.fr hA.2.2.2.1 kf RG.cI (by rw [c _ (by decide)]), af.weak (fun k hk => Or.inl hk), ?_, Tn.fr hA.2.2.2.1 kf af (kI_nk (by decide))⟩, nu⟩
  · obtain ⟨b1, b2, b3, b4, b5, b6, b7, b8, b9, b10, b11, b12, b13, b14, b15, b16, b17⟩ := hB
    obtain ⟨n1, n2, n3, n4, n5, n6, n7, n8, n9, n10, n11⟩ := nu
    unfold PB
    rw [n1, n2, n3, n4, n5, n6, n7, n8, n10, n11, kI_eq, sI_eq]
    simp (disch := decide) only [c, s]
    exact ⟨b1, b2, b3, b4, b5, trivial, trivial, ho, b9, b10, b11, b12, b13, b14, b15, b16, b17⟩
  · obtain ⟨n1, n2, n3, n4, n5, n6, n7, n8, n9, n10, n11⟩ := nu
    unfold Tw
    rw [n3, n4, n5, n6, n7, n8]
    simp (disch := decide) only [a, c, Nat.le_refl, true_and, and_self, implies_true]
/-- one act more, of the class alone -/
def AdC (κ κ' : Km) (a x : Int32) : Prop := kI κ' 68 2 = nI (iC κ + 1) ∧ kI κ' 69 (iC κ) = a ∧ kI κ' 70 (iC κ) = x ∧ (∀ k, k < iC κ → kI κ' 69 k = kI κ 69 k ∧ kI κ' 70 k = kI κ 70 k) ∧ (∃ w, kW κ' 69 = w ∧ kW κ' 70 = w ∧ iC κ + 1 ≤ w ∧ 128 ≤ w ∧ w ≤ 20000) ∧ KF (fun h => h = 68 ∨ h = 69 ∨ h = 70) κ κ' ∧ RG κ κ'
theorem kc_addC {X : Cx} {κ : Km} {F : Int32 → Km → Prop} {a x : Int32} (h1 : kI κ 68 2 = nI (iC κ)) (hw : ∃ w, kW κ 69 = w ∧ kW κ 70 = w ∧ iC κ ≤ w ∧ 128 ≤ w ∧ w ≤ 20000) (hi : iC κ < 9900) (ha : i8 a) (q : ∀ κ', AdC κ κ' a x → F (nI (iC κ)) κ') : KC' X 2 MX1_add [vR 68, vI a, vI x] κ (kRI F) := by
  obtain ⟨w, w1, w2, w3, w4, w5⟩ := hw
  have a8 : (a.toInt8.toInt32).toInt8.toInt32 = a := by rw [ha, ha]
  have tail : ∀ (κg : Km) (w' : Nat), kI κg 68 2 = nI (iC κ) → iC κ < w' → w' ≤ 20000 → 128 ≤ w' → kW κg 69 = w' → kW κg 70 = w' → (∀ i, i < iC κ → kI κg 69 i = kI κ 69 i ∧ kI κg 70 i = kI κ 70 i) → KF (fun h => h = 68 ∨ h = 69 ∨ h = 70) κ κg → RG κ κg → K X 2 MX1_add 46 [(0, vR 68), (1, vI a), (2, vI x)] [] κg (kRI F) := by
    intro κg w' g1 g2 g3 g4 g5 g6 g7 g8 g9
    refine k_1_add_46 _ _ ?_
    rw [g1, g5, a8, cl_nI (by omega), vpn (by omega)]
    refine ⟨g2, ?_⟩
    rintro κ2 rfl
    rw [kI_ne (by decide), g1, kW_i, g6, cl_nI (by omega), vpn (by omega)]
    refine ⟨g2, ?_⟩
    rintro κ4 rfl
    rw [kI_ne (by decide), kI_ne (by decide), g1, nI_1]
    rintro κ5 rfl
    rw [kI_eq, litI 1, nI_sb (by omega)]
    refine ⟨_, rfl, ?_⟩
    refine q _ ⟨kI_eq, ?_, ?_, fun k hk => ⟨?_, ?_⟩, ⟨w', g5, g6, by omega, g4, g3⟩, ?_, ?_⟩
    · rw [kI_ne (by decide), kI_ne (by decide), kI_eq]
    · rw [kI_ne (by decide), kI_eq]
    · rw [kI_ne (by decide), kI_ne (by decide), kI_nk (by omega)]; exact (g7 k hk).1
    · rw [kI_ne (by decide), kI_nk (by omega), kI_ne (by decide)]; exact (g7 k hk).2
    · exact g8.trans (((KF.cI (by decide)).trans (KF.cI (by decide))).trans (KF.cI (by decide)))
    · exact g9.trans ((RG.cI.trans RG.cI).trans RG.cI)
  refine KC_of_K rfl (Nat.le_of_ble_eq_true rfl) rfl (k_1_add_0 _ _ ?_)
  rw [h1, w1, lt_nI (by omega) (by omega)]
  by_cases c : iC κ < w
  · exact ⟨fun _ => tail κ w h1 c w5 w4 w1 w2 (fun _ _ => ⟨rfl, rfl⟩) KF.refl RG.refl, fun z => absurd c z⟩
  · refine ⟨fun z => absurd z c, fun _ => ⟨by decide, 2 * iC κ, by rw [litI 2, pk_mul], by omega, by omega, ?_⟩⟩
    rintro κ8 rfl
    have r69 : ∀ h, h ≠ 69 → kI (cRow κ 69 (2 * iC κ) (fun i => if i < w then kI κ 69 i else 0) fun _ => 0) h = kI κ h := fun h hh => by rw [kI_row, if_neg hh]
    rw [r69 68 (by decide), h1]
    refine ⟨by decide, 2 * iC κ, by rw [litI 2, pk_mul], ?_, by omega, ?_⟩
    · rw [kW_row, if_neg (by decide)]; omega
    rintro κ15 rfl
    refine tail _ (2 * iC κ) ?_ (by omega) (by omega) (by omega) ?_ ?_ (fun i hi => ⟨?_, ?_⟩) ?_ ?_
    · rw [kI_row, if_neg (by decide), r69 68 (by decide)]; exact h1
    · rw [kW_row, if_neg (by decide), kW_row, if_pos rfl]
    · rw [kW_row, if_pos rfl]
    · rw [kI_row, if_neg (by decide), kI_row, if_pos rfl]; exact if_pos (by omega)
    · rw [kI_row, if_pos rfl, kW_row, if_neg (show ¬ 70 = 69 by decide)]
      show (if i < kW κ 70 then _ else _) = _
      rw [if_pos (by omega), r69 70 (by decide)]
    · exact (KF.row (by decide)).trans (KF.row (by decide))
    · refine (RG.row (by decide) (by omega) (by omega)).trans (RG.row (by decide) ?_ (by omega))
      rw [kW_row, if_neg (by decide)]; omega
