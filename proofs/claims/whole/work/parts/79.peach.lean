/-! each: nests, segments -/
section EAC
variable {X : Cx} {N b P : Nat} {κ κ1 κc κk κb κ' : Km} {σ σc σk σb σ' : Rm}
/-- the nest of each, or of catches, changes -/
theorem Ps.nest {f v : Nat} (h : Ps κ σ N b P) (hf : f = 35 ∨ f = 36) (hv : v < 2147483648) : Ps κ (wS σ f (nI v)) N b P ∧ Tr b κ σ κ (wS σ f (nI v)) ∧ Nu κ (wS σ f (nI v)) (pC κ) (oC κ) (iC κ) (rJ σ) (rU σ) (rA σ) (rT σ) (rC σ) (rV σ) (if f = 35 then v else rK σ) (if f = 36 then v else rE σ) := by
  have af : AF qE σ (wS σ f (nI v)) := AF.wI (by unfold qE; omega)
  have s : ∀ g, g ≠ f → sI (wS σ f (nI v)) g = sI σ g := fun g hg => sI_ne hg
  have a : ∀ g, g ≠ f → aI (wS σ f (nI v)) g = aI σ g := fun g hg => aI_ne hg
  have e35 : rK (wS σ f (nI v)) = if f = 35 then v else rK σ := by
    unfold rK
    by_cases c : f = 35
    · rw [if_pos c, c, sI_eq, cl_nI hv]
    · rw [if_neg c, s 35 (by omega)]
  have e36 : rE (wS σ f (nI v)) = if f = 36 then v else rE σ := by
    unfold rE
    by_cases c : f = 36
    · rw [if_pos c, c, sI_eq, cl_nI hv]
    · rw [if_neg c, s 36 (by omega)]
  have nu : Nu κ (wS σ f (nI v)) (pC κ) (oC κ) (iC κ) (rJ σ) (rU σ) (rA σ) (rT σ) (rC σ) (rV σ) (if f = 35 then v else rK σ) (if f = 36 then v else rE σ) := by
    refine ⟨rfl, rfl, rfl, ?_, ?_, ?_, ?_, ?_, ?_, e35, e36⟩
    · unfold rJ; rw [s 17 (by omega)]
    · unfold rU; rw [s 44 (by omega)]
    · unfold rA; rw [s 41 (by omega)]
    · unfold rT; rw [s 29 (by omega)]
    · unfold rC; rw [s 34 (by omega)]
    · unfold rV; rw [s 25 (by omega)]
  obtain ⟨n1, n2, n3, n4, n5, n6, n7, n8, n9, n10, n11⟩ := nu
  have gg := h.gen (κ' := κ) (σ' := wS σ f (nI v)) KF.refl RG.refl rfl rfl af (Nat.le_refl _) (by
    obtain ⟨b1, b2, b3, b4, b5, b6, b7, b8, b9, b10, b11, b12, b13, b14, b15, b16, b17⟩ := h.2
    unfold PB
    rw [n4, n5, n6, n7, n8, n10, n11, s 10 (by omega), s 12 (by omega), s 17 (by omega), s 44 (by omega), s 41 (by omega), s 29 (by omega), s 34 (by omega)]
    refine ⟨b1, b2, b3, b4, b5, b6, b7, b8, b9, b10, b11, b12, b13, b14, b15, ?_, ?_⟩
    · by_cases c : f = 35
      · rw [if_pos c, c, sI_eq]
      · rw [if_neg c, s 35 (by omega)]; exact b16
    · by_cases c : f = 36
      · rw [if_pos c, c, sI_eq]
      · rw [if_neg c, s 36 (by omega)]; exact b17) (by
    unfold Tw
    rw [n4, n5, n6, n7, n8, a 13 (by omega), a 14 (by omega), a 15 (by omega), a 16 (by omega), a 42 (by omega), a 43 (by omega), a 38 (by omega), a 39 (by omega), a 40 (by omega), a 27 (by omega), a 28 (by omega), a 30 (by omega), a 31 (by omega), a 32 (by omega), a 33 (by omega), a 45 (by omega)]
    exact ⟨Nat.le_refl _, Nat.le_refl _, Nat.le_refl _, Nat.le_refl _, Nat.le_refl _, Nat.le_refl _, fun _ _ => ⟨rfl, rfl⟩, fun _ _ => ⟨rfl, rfl, rfl, rfl⟩, fun _ _ => ⟨rfl, rfl⟩, fun _ _ => ⟨rfl, rfl, rfl⟩, fun _ _ => ⟨rfl, rfl⟩, fun _ _ => ⟨rfl, rfl, rfl, rfl, rfl⟩⟩)
  exact ⟨gg.1, gg.2, n1, n2, n3, n4, n5, n6, n7, n8, n9, n10, n11⟩
/-- a voice of an each stands around -/
theorem HL.each {κF : Km} {σF : Rm} {W : Pt → Prop} {L : List Itm} (h : HL κF σF W b L) : HL κF σF W b (L ++ [(0, 0, 0, 0)]) := by
  intro L0 t g ph r e
  rcases List.eq_nil_or_concat r with rfl | ⟨r', x, rfl⟩
  · exfalso
    have e2 := congrArg List.getLast? e
    rw [List.getLast?_concat, List.getLast?_concat] at e2
    have e3 : ((0, 0, 0, 0) : Itm) = (1, t, g, ph) := Option.some.inj e2
    have e4 : (0 : Nat) = 1 := congrArg Prod.fst e3
    exact absurd e4 (by decide)
  · have e1 : L ++ [(0, 0, 0, 0)] = (L0 ++ (1, t, g, ph) :: r') ++ [x] := by rw [e]; simp
    have e2 := List.append_inj_left' e1 rfl
    exact h L0 t g ph r' e2
theorem GC.each {κF : Km} {σF : Rm} {A : Pt → Prop} {L : List Itm} (h : GC κF σF A b L) (hl : L.length + 1 ≤ 24) : GC κF σF A b (L ++ [(0, 0, 0, 0)]) := ⟨by rw [List.length_append]; exact hl, h.2.each⟩
theorem each_ss {v t : Nat} (h : Ps κ σ N b P) (hi : iC κ < 9000) (hj : rJ σ < 9900) (hic : iC κc < 9890) (hjc : rJ σc < 11980) (hib : iC κb < 9900) (hjb : rJ σb < 11980) (ho : oC κ ≤ 24) (t1 : T0 b κ σ κ1 (sg κ σ)) (i1 : iC κ1 = iC κ + 1) (j1 : rJ (sg κ σ) = rJ σ + 1)
    (ex : ES N b P 0 0 1 κ1 (sg κ σ) κc σc) (iK : iC κk = iC κc + 2) (jK : rJ σk = rJ σc + 2) (tK : T0 b κc σc κk σk) (oK : oC κk = oC κ) (eK : rE σk = rE σ + 1) (kK : rK σk = rK σ) (blk : ST N b P 0 κk σk κb σb) (tF : T0 b κb σb κ' σ') (iF : iC κ' = iC κb + 2) (jF : rJ σ' = rJ σb + 2) (cT : rT σk = rT σ ∧ rC σk = rC σ ∧ rT σ' = rT σb ∧ rC σ' = rC σb ∧ rT σc = rT (sg κ σ)) (h1000 : rT σ' ≤ 1000)
    (o1 : kI κ' 69 (iC κ) = 20 ∧ kI κ' 70 (iC κ) = kI κ 72 8 ∧ aI σ' 13 (rJ σ) = 0 ∧ aI σ' 14 (rJ σ) = kI κ 72 8)
    (o2 : kI κ' 69 (iC κc) = 30 ∧ kI κ' 70 (iC κc) = nI (iC κ') ∧ aI σ' 13 (rJ σc) = 31 ∧ aI σ' 14 (rJ σc) = nI (12 + rE σ))
    (o2b : kI κ' 69 (iC κc + 1) = 3 ∧ kI κ' 70 (iC κc + 1) = -1 - nI t ∧ aI σ' 13 (rJ σc + 1) = 32 ∧ aI σ' 14 (rJ σc + 1) = nI v ∧ aI σ' 15 (rJ σc + 1) = nI (12 + rE σ) ∧ aI σ' 16 (rJ σc + 1) = nI (rJ σ'))
    (hv : ∀ (κF : Km) (σF : Rm) (vr br : Nat → Nat → Prop), Fnc σF vr br b → Ext κF σF vr br b κ σ κ' σ' → v < nvB σF b ∧ kI κF 70 (iC κc + 1) = nI v)
    (o3 : kI κ' 69 (iC κb) = 20 ∧ kI κ' 70 (iC κb) = kI κ 72 8 ∧ aI σ' 13 (rJ σb) = 0 ∧ aI σ' 14 (rJ σb) = kI κ 72 8) (o4 : kI κ' 69 (iC κb + 1) = 15 ∧ kI κ' 70 (iC κb + 1) = nI (iC κc) ∧ aI σ' 13 (rJ σb + 1) = 23 ∧ aI σ' 14 (rJ σb + 1) = nI (rJ σc + 1))
    (agE : Agr κ1 (sg κ σ) κc σc κ' σ') (agB : Agr κk σk κb σb κ' σ') : SS b 1 κ σ κ' σ' ∧ Tc σ σ' := by
  have lE := ex.2.1.2.2.1.1
  have lE2 := ex.2.1.2.2.1.2.1
  have lB := blk.2.1.2.2.1.1
  have lB2 := blk.2.1.2.2.1.2.1
  have lB3 := blk.2.1.2.2.1.2.2.1
  have tcB := blk.2.2.1.1.a agB
  obtain ⟨c1, c2, c3, c4, c5⟩ := cT
  refine ⟨SS.one fun κF σF vr br hf he A L l1 l2 l3 hg g => ?_, fun c d1 d2 => by have := tcB c (by omega) (by omega); rw [c1, ← c3] at this; exact this⟩
  have heB : Ext κF σF vr br b κk σk κb σb := he.mid (t1.trans (ex.2.1.t0.trans tK)) tF agB (fun c t d1 d2 _ _ _ _ => ⟨by omega, by omega⟩) (by omega) blk.1.1.2.2.2.2.cv
  have heE : Ext κF σF vr br b κ1 (sg κ σ) κc σc := he.mid t1 (tK.trans (blk.2.1.t0.trans tF)) agE (fun c t _ _ _ _ d3 d4 => by omega) (Nat.le_trans tK.2.2.2.2.2.1 (by omega)) ex.1.1.2.2.2.2.cv
  have w1 := own5 (κ := κ) (σ := σ) he (k := iC κ) (j := rJ σ) (Nat.le_refl _) (by omega) (Nat.le_refl _) (by omega) o1.1 o1.2.1 o1.2.2.1 o1.2.2.2 (by decide) (by decide)
  have w2 := own5 (κ := κ) (σ := σ) he (k := iC κc) (j := rJ σc) (by omega) (by omega) (by omega) (by omega) o2.1 o2.2.1 o2.2.2.1 o2.2.2.2 (by decide) (by decide)
  have w2b := he.2.1 (rJ σc + 1) (by omega) (by omega)
  have w2k := he.1 (iC κc + 1) (by omega) (by omega)
  rw [o2b.2.2.1, o2b.2.2.2.1, o2b.2.2.2.2.1, o2b.2.2.2.2.2] at w2b
  rw [o2b.1] at w2k
  obtain ⟨v1, v2⟩ := hv κF σF vr br hf he
  have w3 := own5 (κ := κ) (σ := σ) he (k := iC κb) (j := rJ σb) (by omega) (by omega) (by omega) (by omega) o3.1 o3.2.1 o3.2.2.1 o3.2.2.2 (by decide) (by decide)
  have w4 := own5 (κ := κ) (σ := σ) he (k := iC κb + 1) (j := rJ σb + 1) (by omega) (by omega) (by omega) (by omega) o4.1 o4.2.1 o4.2.2.1 o4.2.2.2 (by decide) (by decide)
  have hgE := hg.each (by omega)
  have ecL : ecn (L ++ [(0, 0, 0, 0)]) = rE σk := by rw [ecn_app]; show ecn L + (1 + 0) = _; omega
  have ccL : ccn (L ++ [(0, 0, 0, 0)]) = rK σk := by rw [ccn_app]; show ccn L + (0 + 0) = _; omega
  have lenL : (L ++ [((0, 0, 0, 0) : Itm)]).length = L.length + 1 := by rw [List.length_append]; rfl
  have head : Good2 κF σF A (b, iC κc, rJ σc + 1, L ++ [(0, 0, 0, 0)], 0, 1) := by
    refine Good1.loop ?_
    have wk : ∀ y, A y → (A y ∨ y = (b, iC κc, rJ σc + 1, L ++ [(0, 0, 0, 0)], 0, 1)) := fun y hy => Or.inl hy
    have hg' := hgE.weak wk
    have gs : Good2 κF σF (fun y => A y ∨ y = (b, iC κc, rJ σc + 1, L ++ [(0, 0, 0, 0)], 0, 1)) (b, iC κb, rJ σb, L ++ [(0, 0, 0, 0)], 0, 0) :=
      (mkG hf.1 hib w3.2.1 (by omega) (by omega) hg' (Or.inr (Or.inr (Or.inr (Or.inr (Or.inr (Or.inr (Or.inr (Or.inr (Or.inr (Or.inr (Or.inr (Or.inr (Or.inr (Or.inr (Or.inr (Or.inl ⟨rfl, w3.1, w3.2.2.2.1, w3.2.2.2.2.trans w3.2.2.1.symm, w4.1, w4.2.1, w4.2.2.2.1, _, _, w4.2.2.1, w4.2.2.2.2, Good2.of (Or.inr rfl)⟩))))))))))))))))).two
    have gB := (blk.2.2.2.1 κF σF vr br hf heB _ (L ++ [(0, 0, 0, 0)]) ecL ccL (by omega) hg').1 gs
    rw [iK, jK] at gB
    refine mkG hf.1 (by omega) w2.2.1 (by omega) (by omega) hg' ?_
    exact Or.inr (Or.inr (Or.inr (Or.inr (Or.inr (Or.inr (Or.inr (Or.inr (Or.inr (Or.inr (Or.inr (Or.inr (Or.inr (Or.inr (Or.inr (Or.inr (Or.inr (Or.inl ⟨rfl, rfl, w2.1, w2b.1, L, rfl, by rw [w2b.2.1, l1], ⟨v, v1, w2b.2.2.2 (by decide) (by decide) (by decide), w2k.1, v2⟩, gB, _, _, w2.2.2.1, w2b.2.2.1, by omega, g.weak wk⟩)))))))))))))))))
  have gC : Good2 κF σF A (b, iC κc, rJ σc, L, 0 + 1, 1) := (mkG hf.1 (by omega) w2.2.1 (by omega) (by omega) hg (Or.inr (Or.inr (Or.inr (Or.inr (Or.inr (Or.inr (Or.inr (Or.inr (Or.inr (Or.inr (Or.inr (Or.inr (Or.inr (Or.inr (Or.inr (Or.inr (Or.inl ⟨rfl, rfl, w2.1, w2.2.2.2.1, by rw [w2.2.2.2.2, l1], head⟩)))))))))))))))))).two
  have gE := ex.2.2.2 κF σF vr br hf heE A L 0 (Nat.le_refl _) hg gC
  rw [i1, j1] at gE
  exact step_g hf.1 (by omega) (by omega) w1 hg gE
end EAC
