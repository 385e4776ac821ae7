/-! acts, uses, asks: added -/
theorem Ps.gen {κ κ' : Km} {σ σ' : Rm} {N b P : Nat} (h : Ps κ σ N b P) (kf : KF hE κ κ') (rg : RG κ κ') (e5 : kI κ' 72 5 = kI κ 72 5) (e77 : kI κ' 77 5 = kI κ 77 5) (af : AF qE σ σ') (hp : pC κ ≤ pC κ') (hB : PB κ' σ' N) (tw : Tw κ σ κ' σ') : Ps κ' σ' N b P ∧ Tr b κ σ κ' σ' :=
  ⟨⟨h.1.fr kf e5 af hp, hB⟩, Tf.fr h.1.2.2.2.1 kf rg e5, af.weak (fun k hk => Or.inl hk), tw, Tn.fr h.1.2.2.2.1 kf af e77⟩
theorem Ps.addC {κ κ' : Km} {σ : Rm} {N b P : Nat} {a x : Int32} (h : Ps κ σ N b P) (hi : iC κ < 9900) (ad : AdC κ κ' a x) : (Ps κ' σ N b P ∧ Tr b κ σ κ' σ) ∧ Nu κ' σ (pC κ) (oC κ) (iC κ + 1) (rJ σ) (rU σ) (rA σ) (rT σ) (rC σ) (rV σ) (rK σ) (rE σ) := by
  obtain ⟨d1, d2, d3, d4, d5, d6, d7⟩ := ad
  have c : ∀ h, h ≠ 68 → h ≠ 69 → h ≠ 70 → kI κ' h = kI κ h := fun h h1 h2 h3 => (d6.1 h (by omega)).1
  have nu : Nu κ' σ (pC κ) (oC κ) (iC κ + 1) (rJ σ) (rU σ) (rA σ) (rT σ) (rC σ) (rV σ) (rK σ) (rE σ) := by
    refine ⟨?_, ?_, ?_, rfl, rfl, rfl, rfl, rfl, rfl, rfl, rfl⟩
    · unfold pC; rw [c _ (by decide) (by decide) (by decide)]
    · unfold oC; rw [c _ (by decide) (by decide) (by decide)]
    · unfold iC; rw [d1, cl_nI (by omega)]
  refine ⟨h.gen (d6.weak (fun h hh => by unfold hE; omega)) d7 (by rw [c _ (by decide) (by decide) (by decide)]) (by rw [c _ (by decide) (by decide) (by decide)]) AF.refl (by rw [nu.1]; exact Nat.le_refl _) ?_ ?_, nu⟩
  · obtain ⟨b1, b2, b3, b4, b5, b6, b7, b8, b9, b10, b11⟩ := h.2
    obtain ⟨n1, n2, n3, -⟩ := nu
    unfold PB
    rw [n1, n2, n3, c 72 (by decide) (by decide) (by decide), c 74 (by decide) (by decide) (by decide), c 75 (by decide) (by decide) (by decide), c 77 (by decide) (by decide) (by decide)]
    exact ⟨b1, b2, b3, b4, b5, b6, b7, b8, d1, d5, b11⟩
  · obtain ⟨n1, n2, n3, -⟩ := nu
    unfold Tw
    rw [n3]
    exact ⟨by omega, Nat.le_refl _, Nat.le_refl _, Nat.le_refl _, Nat.le_refl _, Nat.le_refl _, d4, fun _ _ => ⟨rfl, rfl, rfl, rfl⟩, fun _ _ => ⟨rfl, rfl⟩, fun _ _ => ⟨rfl, rfl, rfl⟩, fun _ _ => ⟨rfl, rfl⟩, fun _ _ => ⟨rfl, rfl, rfl, rfl, rfl⟩⟩
/-- an act of the reference -/
def em (σ : Rm) (x y z : Int32) : Rm := wS (wI (wI (wI (wI σ 13 (rJ σ) x) 14 (rJ σ) y) 15 (rJ σ) z) 16 (rJ σ) 0) 17 (nI (rJ σ + 1))
theorem em_s {σ : Rm} {x y z : Int32} {k : Nat} (h : k < 13 ∨ 17 < k) : sI (em σ x y z) k = sI σ k := by
  unfold em
  rw [sI_ne (by omega), sI_ne (by omega), sI_ne (by omega), sI_ne (by omega), sI_ne (by omega)]
theorem em_a {σ : Rm} {x y z : Int32} {k : Nat} (h : k < 13 ∨ 17 < k) : aI (em σ x y z) k = aI σ k := by
  unfold em
  rw [aI_ne (by omega), aI_ne (by omega), aI_ne (by omega), aI_ne (by omega), aI_ne (by omega)]
theorem em_17 {σ : Rm} {x y z : Int32} : sI (em σ x y z) 17 = nI (rJ σ + 1) := sI_eq
theorem em_at {σ : Rm} {x y z : Int32} : aI (em σ x y z) 13 (rJ σ) = x ∧ aI (em σ x y z) 14 (rJ σ) = y ∧ aI (em σ x y z) 15 (rJ σ) = z ∧ aI (em σ x y z) 16 (rJ σ) = 0 := by
  unfold em
  simp (disch := omega) only [kI_eq, kI_ne, kI_nk, kL_eq, kL_ne, kL_nk, aI_eq, aI_ne, aI_ni, sI_eq, sI_ne, aL_eq, aL_ne, aL_ni, aL_w, aI_w, sI_w, kI_w, kL_w, kW_i, kW_l, kB_i, kB_l, kV_i, kV_l, kC_i, kC_l, kI_c, kL_c, kW_c, kB_c, kC_c, and_self]
theorem em_ne {σ : Rm} {x y z : Int32} {q : Nat} (h : q ≠ rJ σ) : aI (em σ x y z) 13 q = aI σ 13 q ∧ aI (em σ x y z) 14 q = aI σ 14 q ∧ aI (em σ x y z) 15 q = aI σ 15 q ∧ aI (em σ x y z) 16 q = aI σ 16 q := by
  unfold em
  simp (disch := omega) only [kI_eq, kI_ne, kI_nk, kL_eq, kL_ne, kL_nk, aI_eq, aI_ne, aI_ni, sI_eq, sI_ne, aL_eq, aL_ne, aL_ni, aL_w, aI_w, sI_w, kI_w, kL_w, kW_i, kW_l, kB_i, kB_l, kV_i, kV_l, kC_i, kC_l, kI_c, kL_c, kW_c, kB_c, kC_c, and_self]
theorem em_af {σ : Rm} {x y z : Int32} : AF qE σ (em σ x y z) := ((((AF.wI (by decide)).trans (AF.wI (by decide))).trans (AF.wI (by decide))).trans (AF.wI (by decide))).trans (AF.wI (by decide))
theorem ac_emit {X : Cx} {b : Nat} {σ : Rm} {F : Int32 → Rm → Prop} {x y z : Int32} (h : sI σ 17 = nI (rJ σ)) (hj : rJ σ < 12000) (q : F (nI (rJ σ)) (em σ x y z)) : AC X b 0 MX13_emit [vR b, vI x, vI y, vI z] σ (aRI F) := by
  refine AC_of_A rfl (Nat.le_of_ble_eq_true rfl) rfl (a_emit_0 _ _ _ ?_)
  rw [h, vpn (by omega), cl_nI (by omega)]
  refine ⟨hj, ?_⟩
  rintro s2 rfl
  rw [sI_ne (by decide), h, vpn (by omega), cl_nI (by omega)]
  refine ⟨hj, ?_⟩
  rintro s4 rfl
  rw [sI_ne (by decide), sI_ne (by decide), h, vpn (by omega), cl_nI (by omega)]
  refine ⟨hj, ?_⟩
  rintro s6 rfl
  rw [sI_ne (by decide), sI_ne (by decide), sI_ne (by decide), h, vpn (by omega), cl_nI (by omega)]
  refine ⟨hj, ?_⟩
  rintro s8 rfl
  rw [sI_ne (by decide), sI_ne (by decide), sI_ne (by decide), sI_ne (by decide), h, nI_1]
  rintro s9 rfl
  rw [sI_eq, litI 1, nI_sb (by omega)]
  exact ⟨_, rfl, q⟩
theorem Ps.emit {κ : Km} {σ : Rm} {N b P : Nat} {x y z : Int32} (h : Ps κ σ N b P) (hj : rJ σ < 12000) : (Ps κ (em σ x y z) N b P ∧ Tr b κ σ κ (em σ x y z)) ∧ Nu κ (em σ x y z) (pC κ) (oC κ) (iC κ) (rJ σ + 1) (rU σ) (rA σ) (rT σ) (rC σ) (rV σ) (rK σ) (rE σ) := by
  have s : ∀ k, (k < 13 ∨ 17 < k) → sI (em σ x y z) k = sI σ k := fun k hk => em_s hk
  have a : ∀ k, (k < 13 ∨ 17 < k) → aI (em σ x y z) k = aI σ k := fun k hk => em_a hk
  have nu : Nu κ (em σ x y z) (pC κ) (oC κ) (iC κ) (rJ σ + 1) (rU σ) (rA σ) (rT σ) (rC σ) (rV σ) (rK σ) (rE σ) := by
    refine ⟨rfl, rfl, rfl, ?_, ?_, ?_, ?_, ?_, ?_, ?_, ?_⟩
    · unfold rJ; rw [em_17, cl_nI (by omega)]
    · unfold rU; rw [s _ (by decide)]
    · unfold rA; rw [s _ (by decide)]
    · unfold rT; rw [s _ (by decide)]
    · unfold rC; rw [s _ (by decide)]
    · unfold rV; rw [s _ (by decide)]
    · unfold rK; rw [s _ (by decide)]
    · unfold rE; rw [s _ (by decide)]
  refine ⟨h.gen KF.refl RG.refl rfl rfl em_af (Nat.le_refl _) ?_ ?_, nu⟩
  · obtain ⟨b1, b2, b3, b4, b5, b6, b7, b8, b9, b10, b11, b12, b13, b14, b15, b16, b17⟩ := h.2
    obtain ⟨n1, n2, n3, n4, n5, n6, n7, n8, n9, n10, n11⟩ := nu
    unfold PB
    rw [n4, n5, n6, n7, n8, n10, n11, em_17]
    simp (disch := decide) only [s]
    exact ⟨b1, b2, b3, b4, b5, b6, b7, b8, b9, b10, trivial, b12, b13, b14, b15, b16, b17⟩
  · obtain ⟨n1, n2, n3, n4, n5, n6, n7, n8, n9, n10, n11⟩ := nu
    unfold Tw
    rw [n4, n5, n6, n7, n8]
    refine ⟨Nat.le_refl _, by omega, Nat.le_refl _, Nat.le_refl _, Nat.le_refl _, Nat.le_refl _, fun _ _ => ⟨rfl, rfl⟩, fun q hq => em_ne (by omega), ?_⟩
    simp (disch := decide) only [a, and_self, implies_true]
/-- a use of a variable -/
def us (σ : Rm) (q t : Int32) : Rm := wS (wI (wI σ 42 (rU σ) q) 43 (rU σ) t) 44 (nI (rU σ + 1))
theorem us_s {σ : Rm} {q t : Int32} {k : Nat} (h : k < 42 ∨ 44 < k) : sI (us σ q t) k = sI σ k := by
  unfold us
  rw [sI_ne (by omega), sI_ne (by omega), sI_ne (by omega)]
theorem us_a {σ : Rm} {q t : Int32} {k : Nat} (h : k < 42 ∨ 44 < k) : aI (us σ q t) k = aI σ k := by
  unfold us
  rw [aI_ne (by omega), aI_ne (by omega), aI_ne (by omega)]
theorem us_at {σ : Rm} {q t : Int32} : aI (us σ q t) 42 (rU σ) = q ∧ aI (us σ q t) 43 (rU σ) = t := by
  unfold us
  simp (disch := omega) only [kI_eq, kI_ne, kI_nk, kL_eq, kL_ne, kL_nk, aI_eq, aI_ne, aI_ni, sI_eq, sI_ne, aL_eq, aL_ne, aL_ni, aL_w, aI_w, sI_w, kI_w, kL_w, kW_i, kW_l, kB_i, kB_l, kV_i, kV_l, kC_i, kC_l, kI_c, kL_c, kW_c, kB_c, kC_c, and_self]
theorem us_ne {σ : Rm} {q t : Int32} {u : Nat} (h : u ≠ rU σ) : aI (us σ q t) 42 u = aI σ 42 u ∧ aI (us σ q t) 43 u = aI σ 43 u := by
  unfold us
  simp (disch := omega) only [kI_eq, kI_ne, kI_nk, kL_eq, kL_ne, kL_nk, aI_eq, aI_ne, aI_ni, sI_eq, sI_ne, aL_eq, aL_ne, aL_ni, aL_w, aI_w, sI_w, kI_w, kL_w, kW_i, kW_l, kB_i, kB_l, kV_i, kV_l, kC_i, kC_l, kI_c, kL_c, kW_c, kB_c, kC_c, and_self]
theorem Ps.use {κ : Km} {σ : Rm} {N b P : Nat} {q t : Int32} (h : Ps κ σ N b P) (hu : rU σ < 1600) : (Ps κ (us σ q t) N b P ∧ Tr b κ σ κ (us σ q t)) ∧ Nu κ (us σ q t) (pC κ) (oC κ) (iC κ) (rJ σ) (rU σ + 1) (rA σ) (rT σ) (rC σ) (rV σ) (rK σ) (rE σ) := by
  have s : ∀ k, (k < 42 ∨ 44 < k) → sI (us σ q t) k = sI σ k := fun k hk => us_s hk
  have a : ∀ k, (k < 42 ∨ 44 < k) → aI (us σ q t) k = aI σ k := fun k hk => us_a hk
  have s44 : sI (us σ q t) 44 = nI (rU σ + 1) := sI_eq
  have nu : Nu κ (us σ q t) (pC κ) (oC κ) (iC κ) (rJ σ) (rU σ + 1) (rA σ) (rT σ) (rC σ) (rV σ) (rK σ) (rE σ) := by
    refine ⟨rfl, rfl, rfl, ?_, ?_, ?_, ?_, ?_, ?_, ?_, ?_⟩
    · unfold rJ; rw [s _ (by decide)]
    · unfold rU; rw [s44, cl_nI (by omega)]
    · unfold rA; rw [s _ (by decide)]
    · unfold rT; rw [s _ (by decide)]
    · unfold rC; rw [s _ (by decide)]
    · unfold rV; rw [s _ (by decide)]
    · unfold rK; rw [s _ (by decide)]
    · unfold rE; rw [s _ (by decide)]
  refine ⟨h.gen KF.refl RG.refl rfl rfl (((AF.wI (by decide)).trans (AF.wI (by decide))).trans (AF.wI (by decide))) (Nat.le_refl _) ?_ ?_, nu⟩
  · obtain ⟨b1, b2, b3, b4, b5, b6, b7, b8, b9, b10, b11, b12, b13, b14, b15, b16, b17⟩ := h.2
    obtain ⟨n1, n2, n3, n4, n5, n6, n7, n8, n9, n10, n11⟩ := nu
    unfold PB
    rw [n4, n5, n6, n7, n8, n10, n11, s44]
    simp (disch := decide) only [s]
    exact ⟨b1, b2, b3, b4, b5, b6, b7, b8, b9, b10, b11, b12, b13, trivial, b15, b16, b17⟩
  · obtain ⟨n1, n2, n3, n4, n5, n6, n7, n8, n9, n10, n11⟩ := nu
    unfold Tw
    rw [n4, n5, n6, n7, n8]
    refine ⟨Nat.le_refl _, Nat.le_refl _, Nat.le_refl _, Nat.le_refl _, by omega, Nat.le_refl _, fun _ _ => ⟨rfl, rfl⟩, ?_, fun u hu => us_ne (by omega), ?_⟩
    · simp (disch := decide) only [a, and_self, implies_true]
    · simp (disch := decide) only [a, and_self, implies_true]
/-- a name of a body that is asked for -/
def ak (σ : Rm) (q t m : Int32) : Rm := wS (wI (wI (wI σ 38 (rA σ) q) 39 (rA σ) t) 40 (rA σ) m) 41 (nI (rA σ + 1))
theorem ak_s {σ : Rm} {q t m : Int32} {k : Nat} (h : k < 38 ∨ 41 < k) : sI (ak σ q t m) k = sI σ k := by
  unfold ak
  rw [sI_ne (by omega), sI_ne (by omega), sI_ne (by omega), sI_ne (by omega)]
theorem ak_a {σ : Rm} {q t m : Int32} {k : Nat} (h : k < 38 ∨ 41 < k) : aI (ak σ q t m) k = aI σ k := by
  unfold ak
  rw [aI_ne (by omega), aI_ne (by omega), aI_ne (by omega), aI_ne (by omega)]
theorem ak_at {σ : Rm} {q t m : Int32} : aI (ak σ q t m) 38 (rA σ) = q ∧ aI (ak σ q t m) 39 (rA σ) = t ∧ aI (ak σ q t m) 40 (rA σ) = m := by
  unfold ak
  simp (disch := omega) only [kI_eq, kI_ne, kI_nk, kL_eq, kL_ne, kL_nk, aI_eq, aI_ne, aI_ni, sI_eq, sI_ne, aL_eq, aL_ne, aL_ni, aL_w, aI_w, sI_w, kI_w, kL_w, kW_i, kW_l, kB_i, kB_l, kV_i, kV_l, kC_i, kC_l, kI_c, kL_c, kW_c, kB_c, kC_c, and_self]
theorem ak_ne {σ : Rm} {q t m : Int32} {u : Nat} (h : u ≠ rA σ) : aI (ak σ q t m) 38 u = aI σ 38 u ∧ aI (ak σ q t m) 39 u = aI σ 39 u ∧ aI (ak σ q t m) 40 u = aI σ 40 u := by
  unfold ak
  simp (disch := omega) only [kI_eq, kI_ne, kI_nk, kL_eq, kL_ne, kL_nk, aI_eq, aI_ne, aI_ni, sI_eq, sI_ne, aL_eq, aL_ne, aL_ni, aL_w, aI_w, sI_w, kI_w, kL_w, kW_i, kW_l, kB_i, kB_l, kV_i, kV_l, kC_i, kC_l, kI_c, kL_c, kW_c, kB_c, kC_c, and_self]
theorem ac_asksFor {X : Cx} {b : Nat} {σ : Rm} {F : Rm → Prop} {q t m : Int32} (h : sI σ 41 = nI (rA σ)) (ha : rA σ < 1600) (g : F (ak σ q t m)) : AC X b 0 MX13_asksFor [vR b, vI q, vI t, vI m] σ (aRV F) := by
  refine AC_of_A rfl (Nat.le_of_ble_eq_true rfl) rfl (a_asksFor_0 _ _ _ ?_)
  rw [h, vpn (by omega), cl_nI (by omega)]
  refine ⟨ha, ?_⟩
  rintro s2 rfl
  rw [sI_ne (by decide), h, vpn (by omega), cl_nI (by omega)]
  refine ⟨ha, ?_⟩
  rintro s4 rfl
  rw [sI_ne (by decide), sI_ne (by decide), h, vpn (by omega), cl_nI (by omega)]
  refine ⟨ha, ?_⟩
  rintro s6 rfl
  rw [sI_ne (by decide), sI_ne (by decide), sI_ne (by decide), h, nI_1]
  rintro s7 rfl
  exact ⟨rfl, g⟩
theorem Ps.ask {κ : Km} {σ : Rm} {N b P : Nat} {q t m : Int32} (h : Ps κ σ N b P) (hu : rA σ < 1600) : (Ps κ (ak σ q t m) N b P ∧ Tr b κ σ κ (ak σ q t m)) ∧ Nu κ (ak σ q t m) (pC κ) (oC κ) (iC κ) (rJ σ) (rU σ) (rA σ + 1) (rT σ) (rC σ) (rV σ) (rK σ) (rE σ) := by
  have s : ∀ k, (k < 38 ∨ 41 < k) → sI (ak σ q t m) k = sI σ k := fun k hk => ak_s hk
  have a : ∀ k, (k < 38 ∨ 41 < k) → aI (ak σ q t m) k = aI σ k := fun k hk => ak_a hk
  have s41 : sI (ak σ q t m) 41 = nI (rA σ + 1) := sI_eq
  have nu : Nu κ (ak σ q t m) (pC κ) (oC κ) (iC κ) (rJ σ) (rU σ) (rA σ + 1) (rT σ) (rC σ) (rV σ) (rK σ) (rE σ) := by
    refine ⟨rfl, rfl, rfl, ?_, ?_, ?_, ?_, ?_, ?_, ?_, ?_⟩
    · unfold rJ; rw [s _ (by decide)]
    · unfold rU; rw [s _ (by decide)]
    · unfold rA; rw [s41, cl_nI (by omega)]
    · unfold rT; rw [s _ (by decide)]
    · unfold rC; rw [s _ (by decide)]
    · unfold rV; rw [s _ (by decide)]
    · unfold rK; rw [s _ (by decide)]
    · unfold rE; rw [s _ (by decide)]
  refine ⟨h.gen KF.refl RG.refl rfl rfl ((((AF.wI (by decide)).trans (AF.wI (by decide))).trans (AF.wI (by decide))).trans (AF.wI (by decide))) (Nat.le_refl _) ?_ ?_, nu⟩
  · obtain ⟨b1, b2, b3, b4, b5, b6, b7, b8, b9, b10, b11, b12, b13, b14, b15, b16, b17⟩ := h.2
    obtain ⟨n1, n2, n3, n4, n5, n6, n7, n8, n9, n10, n11⟩ := nu
    unfold PB
    rw [n4, n5, n6, n7, n8, n10, n11, s41]
    simp (disch := decide) only [s]
    exact ⟨b1, b2, b3, b4, b5, b6, b7, b8, b9, b10, b11, b12, b13, b14, trivial, b16, b17⟩
  · obtain ⟨n1, n2, n3, n4, n5, n6, n7, n8, n9, n10, n11⟩ := nu
    unfold Tw
    rw [n4, n5, n6, n7, n8]
    refine ⟨Nat.le_refl _, Nat.le_refl _, Nat.le_refl _, Nat.le_refl _, Nat.le_refl _, by omega, fun _ _ => ⟨rfl, rfl⟩, ?_, ?_, fun u hu => ak_ne (by omega), ?_⟩
    · simp (disch := decide) only [a, and_self, implies_true]
    · simp (disch := decide) only [a, and_self, implies_true]
    · simp (disch := decide) only [a, and_self, implies_true]
