/-! tries and catches: their rows -/
section CNT
variable {X : Cx} {N b P : Nat} {κ κ1 κ2 κ' : Km} {σ σ1 σ2 σ' : Rm}
theorem Ps.cnt {f v : Nat} (h : Ps κ σ N b P) (hf : f = 29 ∨ f = 34) (hv : v < 2147483648) (hge : (f = 29 → rT σ ≤ v) ∧ (f = 34 → rC σ ≤ v)) : Ps κ (wS σ f (nI v)) N b P ∧ Tr b κ σ κ (wS σ f (nI v)) ∧ Nu κ (wS σ f (nI v)) (pC κ) (oC κ) (iC κ) (rJ σ) (rU σ) (rA σ) (if f = 29 then v else rT σ) (if f = 34 then v else rC σ) (rV σ) (rK σ) (rE σ) := by
  have af : AF qE σ (wS σ f (nI v)) := AF.wI (by unfold qE; omega)
  have s : ∀ g, g ≠ f → sI (wS σ f (nI v)) g = sI σ g := fun g hg => sI_ne hg
  have a : ∀ g, g ≠ f → aI (wS σ f (nI v)) g = aI σ g := fun g hg => aI_ne hg
  have e35 : rT (wS σ f (nI v)) = if f = 29 then v else rT σ := by
    unfold rT
    by_cases c : f = 29
    · rw [if_pos c, c, sI_eq, cl_nI hv]
    · rw [if_neg c, s 29 (by omega)]
  have e36 : rC (wS σ f (nI v)) = if f = 34 then v else rC σ := by
    unfold rC
    by_cases c : f = 34
    · rw [if_pos c, c, sI_eq, cl_nI hv]
    · rw [if_neg c, s 34 (by omega)]
  have nu : Nu κ (wS σ f (nI v)) (pC κ) (oC κ) (iC κ) (rJ σ) (rU σ) (rA σ) (if f = 29 then v else rT σ) (if f = 34 then v else rC σ) (rV σ) (rK σ) (rE σ) := by
    refine ⟨rfl, rfl, rfl, ?_, ?_, ?_, e35, e36, ?_, ?_, ?_⟩
    · unfold rJ; rw [s 17 (by omega)]
    · unfold rU; rw [s 44 (by omega)]
    · unfold rA; rw [s 41 (by omega)]
    · unfold rV; rw [s 25 (by omega)]
    · unfold rK; rw [s 35 (by omega)]
    · unfold rE; rw [s 36 (by omega)]
  obtain ⟨n1, n2, n3, n4, n5, n6, n7, n8, n9, n10, n11⟩ := nu
  have gg := h.gen (κ' := κ) (σ' := wS σ f (nI v)) KF.refl RG.refl rfl rfl af (Nat.le_refl _) (by
    obtain ⟨b1, b2, b3, b4, b5, b6, b7, b8, b9, b10, b11, b12, b13, b14, b15, b16, b17⟩ := h.2
    unfold PB
    rw [n4, n5, n6, n7, n8, n10, n11, s 10 (by omega), s 12 (by omega), s 17 (by omega), s 44 (by omega), s 41 (by omega), s 35 (by omega), s 36 (by omega)]
    refine ⟨b1, b2, b3, b4, b5, b6, b7, b8, b9, b10, b11, ?_, ?_, b14, b15, b16, b17⟩
    · by_cases c : f = 29
      · rw [if_pos c, c, sI_eq]
      · rw [if_neg c, s 29 (by omega)]; exact b12
    · by_cases c : f = 34
      · rw [if_pos c, c, sI_eq]
      · rw [if_neg c, s 34 (by omega)]; exact b13) (by
    unfold Tw
    rw [n4, n5, n6, n7, n8, a 13 (by omega), a 14 (by omega), a 15 (by omega), a 16 (by omega), a 42 (by omega), a 43 (by omega), a 38 (by omega), a 39 (by omega), a 40 (by omega), a 27 (by omega), a 28 (by omega), a 30 (by omega), a 31 (by omega), a 32 (by omega), a 33 (by omega), a 45 (by omega)]
    refine ⟨Nat.le_refl _, Nat.le_refl _, ?_, ?_, Nat.le_refl _, Nat.le_refl _, fun _ _ => ⟨rfl, rfl⟩, fun _ _ => ⟨rfl, rfl, rfl, rfl⟩, fun _ _ => ⟨rfl, rfl⟩, fun _ _ => ⟨rfl, rfl, rfl⟩, fun _ _ => ⟨rfl, rfl⟩, fun _ _ => ⟨rfl, rfl, rfl, rfl, rfl⟩⟩
    · by_cases c : f = 29
      · rw [if_pos c]; exact hge.1 c
      · rw [if_neg c]; exact Nat.le_refl _
    · by_cases c : f = 34
      · rw [if_pos c]; exact hge.2 c
      · rw [if_neg c]; exact Nat.le_refl _)
  exact ⟨gg.1, gg.2, n1, n2, n3, n4, n5, n6, n7, n8, n9, n10, n11⟩
theorem Agr.pq {k f : Nat} {v : Int32} (h : Agr κ1 σ1 κ2 σ2 κ' σ') (hf : ((f = 27 ∨ f = 28) ∧ (k < rT σ1 ∨ rT σ2 ≤ k)) ∨ ((f = 30 ∨ f = 31 ∨ f = 32 ∨ f = 33 ∨ f = 45) ∧ (k < rC σ1 ∨ rC σ2 ≤ k))) : Agr κ1 σ1 κ2 σ2 κ' (wI σ' f k v) := by
  obtain ⟨h1, h2, h3, h4, h5, h6⟩ := h
  refine ⟨h1, fun q l1 l2 => ?_, fun u l1 l2 => ?_, fun u l1 l2 => ?_, fun u l1 l2 => ?_, fun u l1 l2 => ?_⟩
  · rw [aI_ne (by omega), aI_ne (by omega), aI_ne (by omega), aI_ne (by omega)]; exact h2 q l1 l2
  · rw [aI_ne (by omega), aI_ne (by omega)]; exact h3 u l1 l2
  · rw [aI_ne (by omega), aI_ne (by omega), aI_ne (by omega)]; exact h4 u l1 l2
  · rcases hf with ⟨-, hf⟩ | ⟨hf, -⟩
    · rw [aI_ni (by omega), aI_ni (by omega)]; exact h5 u l1 l2
    · rw [aI_ne (by omega), aI_ne (by omega)]; exact h5 u l1 l2
  · rcases hf with ⟨hf, -⟩ | ⟨-, hf⟩
    · rw [aI_ne (by omega), aI_ne (by omega), aI_ne (by omega), aI_ne (by omega), aI_ne (by omega)]; exact h6 u l1 l2
    · rw [aI_ni (by omega), aI_ni (by omega), aI_ni (by omega), aI_ni (by omega), aI_ni (by omega)]; exact h6 u l1 l2
/-- a catch -/
def ctW (σ : Rm) (x : Int32) (v t : Nat) : Rm := wS (wI (wI (wI (wI (wI (wS σ 34 (nI (rC σ + 1))) 30 (rC σ) x) 31 (rC σ) (nI v)) 32 (rC σ) (nI (rJ σ))) 33 (rC σ) (nI (rK σ))) 45 (rC σ) (nI t)) 35 (nI (rK σ + 1))
theorem ctW_at {x : Int32} {v t : Nat} : aI (ctW σ x v t) 30 (rC σ) = x ∧ aI (ctW σ x v t) 31 (rC σ) = nI v ∧ aI (ctW σ x v t) 32 (rC σ) = nI (rJ σ) ∧ aI (ctW σ x v t) 33 (rC σ) = nI (rK σ) ∧ aI (ctW σ x v t) 45 (rC σ) = nI t := by
  unfold ctW
  simp (disch := decide) only [kI_eq, kI_ne, kI_nk, kL_eq, kL_ne, kL_nk, aI_eq, aI_ne, aI_ni, sI_eq, sI_ne, aL_eq, aL_ne, aL_ni, aL_w, aI_w, sI_w, kI_w, kL_w, kW_i, kW_l, kB_i, kB_l, kV_i, kV_l, kC_i, kC_l, kI_c, kL_c, kW_c, kB_c, kC_c, and_self]
theorem Ps.ctw {x : Int32} {v t : Nat} (h : Ps κ σ N b P) (hc : rC σ < 1000) (hk : rK σ < 1000) : Ps κ (ctW σ x v t) N b P ∧ Tr b κ σ κ (ctW σ x v t) ∧ Nu κ (ctW σ x v t) (pC κ) (oC κ) (iC κ) (rJ σ) (rU σ) (rA σ) (rT σ) (rC σ + 1) (rV σ) (rK σ + 1) (rE σ) := by
  obtain ⟨p1, t1, a1, a2, a3, a4, a5, a6, a7, a8, a9, a10, a11⟩ := h.cnt (f := 34) (v := rC σ + 1) (Or.inr rfl) (by omega) ⟨fun z => absurd z (by decide), fun _ => by omega⟩
  rw [if_neg (by decide)] at a7
  rw [if_pos rfl] at a8
  obtain ⟨p2, t2, b1, b2, b3, b4, b5, b6, b7, b8, b9, b10, b11⟩ := p1.pr (f := 30) (k := rC σ) (v := x) (by omega)
  obtain ⟨p3, t3, c1, c2, c3, c4, c5, c6, c7, c8, c9, c10, c11⟩ := p2.pr (f := 31) (k := rC σ) (v := nI v) (by omega)
  obtain ⟨p4, t4, d1, d2, d3, d4, d5, d6, d7, d8, d9, d10, d11⟩ := p3.pr (f := 32) (k := rC σ) (v := nI (rJ σ)) (by omega)
  obtain ⟨p5, t5, e1, e2, e3, e4, e5, e6, e7, e8, e9, e10, e11⟩ := p4.pr (f := 33) (k := rC σ) (v := nI (rK σ)) (by omega)
  obtain ⟨p6, t6, f1, f2, f3, f4, f5, f6, f7, f8, f9, f10, f11⟩ := p5.pr (f := 45) (k := rC σ) (v := nI t) (by omega)
  obtain ⟨p7, t7, g1, g2, g3, g4, g5, g6, g7, g8, g9, g10, g11⟩ := p6.nest (f := 35) (v := rK σ + 1) (Or.inl rfl) (by omega)
  rw [if_pos rfl] at g10
  rw [if_neg (by decide)] at g11
  have t0 : T0 b κ σ κ (ctW σ x v t) := t1.t0.trans (t2.trans (t3.trans (t4.trans (t5.trans (t6.trans t7.t0)))))
  have z1 : Bel κ σ κ (wS σ 34 (nI (rC σ + 1))) := Agr.step t1
  have ag : Bel κ σ κ (ctW σ x v t) := (((((z1.pq (f := 30) (k := rC σ) (v := x) (Or.inr ⟨by omega, Or.inr (Nat.le_refl _)⟩)).pq (f := 31) (k := rC σ) (v := nI v) (Or.inr ⟨by omega, Or.inr (Nat.le_refl _)⟩)).pq (f := 32) (k := rC σ) (v := nI (rJ σ)) (Or.inr ⟨by omega, Or.inr (Nat.le_refl _)⟩)).pq (f := 33) (k := rC σ) (v := nI (rK σ)) (Or.inr ⟨by omega, Or.inr (Nat.le_refl _)⟩)).pq (f := 45) (k := rC σ) (v := nI t) (Or.inr ⟨by omega, Or.inr (Nat.le_refl _)⟩)).ps (f := 35) (v := nI (rK σ + 1)) (by omega)
  refine ⟨p7, Bel.tr t0 ag, g1, g2, g3, ?_, ?_, ?_, ?_, ?_, ?_, g10, ?_⟩
  · exact g4.trans (f4.trans (e4.trans (d4.trans (c4.trans (b4.trans a4)))))
  · exact g5.trans (f5.trans (e5.trans (d5.trans (c5.trans (b5.trans a5)))))
  · exact g6.trans (f6.trans (e6.trans (d6.trans (c6.trans (b6.trans a6)))))
  · exact g7.trans (f7.trans (e7.trans (d7.trans (c7.trans (b7.trans a7)))))
  · exact g8.trans (f8.trans (e8.trans (d8.trans (c8.trans (b8.trans a8)))))
  · exact g9.trans (f9.trans (e9.trans (d9.trans (c9.trans (b9.trans a9)))))
  · exact g11.trans (f11.trans (e11.trans (d11.trans (c11.trans (b11.trans a11)))))
/-- a try -/
def tyW (σ : Rm) : Rm := wI (em (wS σ 29 (nI (rT σ + 1))) 28 (nI (rT σ)) 0) 27 (rT σ) (-9)
theorem Ps.tyw {a x : Int32} (h : Ps κ σ N b P) (hi : iC κ < 9900) (hj : rJ σ < 11990) (ht : rT σ < 1000) (ad : AdC κ κ1 a x) : Ps κ1 (tyW σ) N b P ∧ Tr b κ σ κ1 (tyW σ) ∧ Nu κ1 (tyW σ) (pC κ) (oC κ) (iC κ + 1) (rJ σ + 1) (rU σ) (rA σ) (rT σ + 1) (rC σ) (rV σ) (rK σ) (rE σ) ∧ (aI (tyW σ) 13 (rJ σ) = 28 ∧ aI (tyW σ) 14 (rJ σ) = nI (rT σ) ∧ aI (tyW σ) 27 (rT σ) = -9) := by
  obtain ⟨p1, t1, a1, a2, a3, a4, a5, a6, a7, a8, a9, a10, a11⟩ := h.cnt (f := 29) (v := rT σ + 1) (Or.inl rfl) (by omega) ⟨fun _ => by omega, fun z => absurd z (by decide)⟩
  rw [if_pos rfl] at a7
  rw [if_neg (by decide)] at a8
  obtain ⟨p2, t2, b1, b2, b3, b4, b5, b6, b7, b8, b9, b10, b11⟩ := act_pair (op := 28) (y := nI (rT σ)) (z := 0) p1 hi (by omega) ad
  obtain ⟨p3, t3, c1, c2, c3, c4, c5, c6, c7, c8, c9, c10, c11⟩ := p2.pr (f := 27) (k := rT σ) (v := -9) (by omega)
  have t0 : T0 b κ σ κ1 (tyW σ) := (t1.trans t2).t0.trans t3
  have ag : Bel κ σ κ1 (tyW σ) := Agr.pq (f := 27) (k := rT σ) (v := -9) (Agr.step (t1.trans t2)) (Or.inl ⟨by omega, Or.inr (Nat.le_refl _)⟩)
  have st := em_at (σ := wS σ 29 (nI (rT σ + 1))) (x := 28) (y := nI (rT σ)) (z := 0)
  rw [a4] at st
  refine ⟨p3, Bel.tr t0 ag, ⟨c1.trans b1, c2.trans b2, c3.trans b3, c4.trans (b4.trans (by rw [a4])), c5.trans (b5.trans a5), c6.trans (b6.trans a6), c7.trans (b7.trans a7), c8.trans (b8.trans a8), c9.trans (b9.trans a9), c10.trans (b10.trans a10), c11.trans (b11.trans a11)⟩, ?_, ?_, aI_eq⟩
  · unfold tyW
    rw [aI_ne (by decide)]; exact st.1
  · unfold tyW
    rw [aI_ne (by decide)]; exact st.2.1
end CNT
