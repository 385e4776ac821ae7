/-! a name is declared, both -/
theorem mnA {w P q l : Nat} (h : w ≤ l) : min (min (min w P) q) l = min (min w P) q := by omega
section DECL
variable {X : Cx} {N b P : Nat} {κ : Km} {σ : Rm}
/-- a name's token -/
theorem TkA.nm {t : Nat} (h : TkA κ σ N) (ht : t ≤ N) (h2 : kI κ 74 t = 2) : NmR (kL κ 76 t) (aL σ 9 t) := by
  have hk : TkR κ σ t := by
    by_cases c : t < N
    · exact (h.1 _ c).1
    · rw [show t = N by omega]; exact h.2.1
  obtain ⟨f, g, h1, h2', h3, h4, h5, h6, h7, h8⟩ := hk
  rcases h8.name with ⟨-, -, -, c⟩ | ⟨c, -⟩ | ⟨c, -⟩
  · exact c
  · exact absurd (h2.symm.trans c) (by decide)
  · exact absurd h2 c
/-- what a declaration does to both: v is the reference's number -/
def DcS (b : Nat) (κ : Km) (σ : Rm) (κ' : Km) (σ' : Rm) (v : Nat) : Prop := DcR b (cV κ b) κ κ' (kL κ 76 (pC κ)) (kI κ 72 8) ∧ ((FstR σ (rV σ) (aL σ 9 (pC κ)) v ∧ σ' = σ) ∨ ((∀ u, u < rV σ → aL σ 24 u ≠ aL σ 9 (pC κ)) ∧ v = rV σ ∧ σ' = vd σ (pC κ)))
theorem vd_s {t k : Nat} (h1 : k ≠ 25) (h2 : k ≠ 37) : sI (vd σ t) k = sI σ k := by
  unfold vd
  rw [sI_ne h1, sI_w]
  by_cases c : 12 ≤ rV σ
  · rw [if_pos c]; unfold bl; rw [sI_ne h2]
  · rw [if_neg c]
theorem vd_a {t k : Nat} (h1 : k ≠ 25) (h2 : k ≠ 37) : aI (vd σ t) k = aI σ k := by
  unfold vd
  rw [aI_ne h1, aI_w]
  by_cases c : 12 ≤ rV σ
  · rw [if_pos c]; unfold bl; rw [aI_ne h2]
  · rw [if_neg c]
theorem vd_l {t k : Nat} (h1 : k ≠ 24) : aL (vd σ t) k = aL σ k := by
  unfold vd
  rw [aL_w, aL_ne h1]
  by_cases c : 12 ≤ rV σ
  · rw [if_pos c]; rfl
  · rw [if_neg c]
theorem vd_24 {t v : Nat} : aL (vd σ t) 24 v = if v = rV σ then aL σ 9 t else aL σ 24 v := by
  unfold vd
  rw [aL_w]
  by_cases e : v = rV σ
  · rw [if_pos e, e, aL_eq]
  · rw [if_neg e, aL_ni e]
    by_cases c : 12 ≤ rV σ
    · rw [if_pos c]; rfl
    · rw [if_neg c]
theorem vd_25 {t : Nat} : sI (vd σ t) 25 = nI (rV σ + 1) := sI_eq
theorem vd_37 {t : Nat} : sI (vd σ t) 37 = if 12 ≤ rV σ then sI (bl σ t) 37 else sI σ 37 := by
  unfold vd
  rw [sI_ne (by decide), sI_w]
  by_cases c : 12 ≤ rV σ
  · rw [if_pos c, if_pos c]
  · rw [if_neg c, if_neg c]
theorem vd_af {t : Nat} : AF (fun k => k = 24 ∨ k = 25 ∨ k = 37) σ (vd σ t) := fun k hk => ⟨vd_a (fun z => hk (Or.inr (Or.inl z))) (fun z => hk (Or.inr (Or.inr z))), vd_l (fun z => hk (Or.inl z))⟩
/-- the class's change -/
theorem DcR.kf {n : Nat} {κ' : Km} {v : Int64} {pl : Int32} (h : DcR b n κ κ' v pl) : KF (fun h => h = 1000 + 8 * b ∨ h = 1001 + 8 * b) κ κ' ∧ RG κ κ' ∧ (∀ k, k ≠ 5 → k ≠ 8 → kI κ' (1000 + 8 * b) k = kI κ (1000 + 8 * b) k) ∧ kL κ' (1000 + 8 * b) = kL κ (1000 + 8 * b) ∧ kW κ' = kW κ := by
  rcases h with ⟨-, rfl⟩ | ⟨-, -, rfl⟩ | ⟨-, -, ⟨-, rfl⟩ | ⟨-, rfl⟩⟩
  · exact ⟨KF.refl, RG.refl, fun _ _ _ => rfl, rfl, rfl⟩
  · refine ⟨(KF.cL (H := fun h => h = 1000 + 8 * b ∨ h = 1001 + 8 * b) (Or.inr rfl)).trans (KF.cI (H := fun h => h = 1000 + 8 * b ∨ h = 1001 + 8 * b) (Or.inl rfl)), RG.cL.trans RG.cI, fun k h5 _ => ?_, ?_, rfl⟩
    · rw [kI_nk h5, kI_w]
    · rw [kL_w, kL_ne (by omega)]
  · exact ⟨KF.cI (H := fun h => h = 1000 + 8 * b ∨ h = 1001 + 8 * b) (Or.inl rfl), RG.cI, fun k _ h8 => by rw [kI_nk h8], rfl, rfl⟩
  · exact ⟨KF.refl, RG.refl, fun _ _ _ => rfl, rfl, rfl⟩
theorem Ps.decl0 {κ' : Km} {σ' : Rm} {v : Nat} (h : Ps κ σ N b P) (bi : rV σ ≤ 1500) (h2 : kI κ 72 7 = 2) (hd : DcS b κ σ κ' σ' v) : Ps κ' σ' N b P ∧ Tr b κ σ κ' σ' ∧ Nu κ' σ' (pC κ) (oC κ) (iC κ) (rJ σ) (rU σ) (rA σ) (rT σ) (rC σ) (rV σ') (rK σ) (rE σ) ∧ rV σ' ≤ rV σ + 1 ∧ (rV σ' = cV κ' b → VnR κ' b (pC κ) v) := by
  obtain ⟨dk, dr⟩ := hd
  have hA := h.1
  have hB := h.2
  have hp3 := h.p3
  have hb12 : b < 12 := hA.2.2.2.1
  obtain ⟨E, D, n1, n2, n3, n4, n5, n6, n7, n8, nE, n9, n10, n11, n12, n13⟩ := hA.2.2.2.2
  have tk := hA.1
  have ht2 : kI κ 74 (pC κ) = 2 := by rw [← hB.2.1]; exact h2
  have hpN : pC κ ≤ N := hB.2.2.2.2.1
  have nmt := tk.nm hpN ht2
  have nmD : ∀ s, s ∈ D → NmR (kL κ 76 s) (aL σ 9 s) := fun s hs => tk.nm (Nat.le_trans (n2 s hs).1 hpN) (n2 s hs).2
  have plp := tk.pl hpN
  have e72 : kI κ 72 8 = nI (plT κ (pC κ)) := by rw [hB.2.2.1]; exact plp.1
  have eV : rV σ = E.length := by unfold rV; rw [n8, cl_nI (by omega)]
  have ecV : cV κ b = min 12 D.length := by unfold cV; rw [n4, cl_nI (by omega)]
  have lDE : D.length ≤ E.length := by rw [n1]; exact List.length_filter_le _ _
  have memD : ∀ s, s ∈ D ↔ s ∈ E ∧ s < 4000 := fun s => by rw [n1, List.mem_filter]; simp
  -- where the class finds the name
  have clsD : ∀ i s, i < 12 → D[i]? = some s → (kL κ (1001 + 8 * b) i = kL κ 76 (pC κ) ↔ aL σ 9 s = aL σ 9 (pC κ)) := fun i s hi hs => by
    rw [n6 i s hi hs]
    exact (nmD s (List.mem_of_getElem? hs)).iff nmt
  obtain ⟨kf, rg, k58, kl1, kw1⟩ := dk.kf
  have kfP : KF (hP b) κ κ' := kf.weak (fun h hh => by unfold hP; rcases hh with hh | hh <;> simp [hh])
  have c72 : kI κ' 72 = kI κ 72 := (kf.1 72 (by omega)).1
  have c77 : kI κ' 77 = kI κ 77 := (kf.1 77 (by omega)).1
  have c68 : kI κ' 68 = kI κ 68 := (kf.1 68 (by omega)).1
  have c69 : kI κ' 69 = kI κ 69 := (kf.1 69 (by omega)).1
  have c70 : kI κ' 70 = kI κ 70 := (kf.1 70 (by omega)).1
  have c74 := (kf.1 74 (by omega))
  have c75 := (kf.1 75 (by omega))
  have c76 := (kf.1 76 (by omega))
  have c67 : kI κ' 67 = kI κ 67 := (kf.1 67 (by omega)).1
  have af : AF (fun k => k = 24 ∨ k = 25 ∨ k = 37) σ σ' := by
    rcases dr with ⟨-, rfl⟩ | ⟨-, -, rfl⟩
    · exact AF.refl
    · exact vd_af
  have ss : ∀ k, k ≠ 25 → k ≠ 37 → k ≠ 24 → sI σ' k = sI σ k := fun k h1 h2 h3 => congrFun (af k (by omega)).1 0
  have aa : ∀ k, k ≠ 25 → k ≠ 37 → k ≠ 24 → aI σ' k = aI σ k := fun k h1 h2 h3 => (af k (by omega)).1
  have nu : Nu κ' σ' (pC κ) (oC κ) (iC κ) (rJ σ) (rU σ) (rA σ) (rT σ) (rC σ) (rV σ') (rK σ) (rE σ) := by
    unfold Nu pC oC iC rJ rU rA rT rC rK rE
    rw [c72, c77, c68, ss 17 (by decide) (by decide) (by decide), ss 44 (by decide) (by decide) (by decide), ss 41 (by decide) (by decide) (by decide), ss 29 (by decide) (by decide) (by decide), ss 34 (by decide) (by decide) (by decide), ss 35 (by decide) (by decide) (by decide), ss 36 (by decide) (by decide) (by decide)]
    exact ⟨rfl, rfl, rfl, rfl, rfl, rfl, rfl, rfl, rfl, rfl, rfl⟩
  have tkA : TkA κ' σ' N := tk.fr c74.1 c75.1 c76.2.1 ⟨c74.2.2, c75.2.2, c76.2.2⟩ (by rw [c72]) (aa 5 (by decide) (by decide) (by decide)) (aa 6 (by decide) (by decide) (by decide)) (aa 7 (by decide) (by decide) (by decide)) (aa 8 (by decide) (by decide) (by decide)) ((af 9 (by decide)).2)
  have pB : PB κ' σ' N := by
    obtain ⟨b1, b2, b3, b4, b5, b6, b7, b8, b9, b10, b11, b12, b13, b14, b15, b16, b17⟩ := hB
    obtain ⟨m1, m2, m3, m4, m5, m6, m7, m8, m9, m10, m11⟩ := nu
    unfold PB
    rw [m1, m2, m3, m4, m5, m6, m7, m8, m10, m11, c72, c74.1, c75.1, c77, c68, kw1, ss 10 (by decide) (by decide) (by decide), ss 12 (by decide) (by decide) (by decide), ss 17 (by decide) (by decide) (by decide), ss 44 (by decide) (by decide) (by decide), ss 41 (by decide) (by decide) (by decide), ss 29 (by decide) (by decide) (by decide), ss 34 (by decide) (by decide) (by decide), ss 35 (by decide) (by decide) (by decide), ss 36 (by decide) (by decide) (by decide)]
    exact ⟨b1, b2, b3, b4, b5, b6, b7, b8, b9, b10, b11, b12, b13, b14, b15, b16, b17⟩
  have tw : Tw κ σ κ' σ' := by
    obtain ⟨m1, m2, m3, m4, m5, m6, m7, m8, m9, m10, m11⟩ := nu
    unfold Tw
    rw [m3, m4, m5, m6, m7, m8, c69, c70, aa 13 (by decide) (by decide) (by decide), aa 14 (by decide) (by decide) (by decide), aa 15 (by decide) (by decide) (by decide), aa 16 (by decide) (by decide) (by decide), aa 42 (by decide) (by decide) (by decide), aa 43 (by decide) (by decide) (by decide), aa 38 (by decide) (by decide) (by decide), aa 39 (by decide) (by decide) (by decide), aa 40 (by decide) (by decide) (by decide), aa 27 (by decide) (by decide) (by decide), aa 28 (by decide) (by decide) (by decide), aa 30 (by decide) (by decide) (by decide), aa 31 (by decide) (by decide) (by decide), aa 32 (by decide) (by decide) (by decide), aa 33 (by decide) (by decide) (by decide), aa 45 (by decide) (by decide) (by decide)]
    exact ⟨Nat.le_refl _, Nat.le_refl _, Nat.le_refl _, Nat.le_refl _, Nat.le_refl _, Nat.le_refl _, fun _ _ => ⟨rfl, rfl⟩, fun _ _ => ⟨rfl, rfl, rfl, rfl⟩, fun _ _ => ⟨rfl, rfl⟩, fun _ _ => ⟨rfl, rfl, rfl⟩, fun _ _ => ⟨rfl, rfl⟩, fun _ _ => ⟨rfl, rfl, rfl, rfl, rfl⟩⟩
  have tf : Tf b κ κ' := ⟨kfP, rg, by rw [c72], by rw [c67], k58, kl1, by rw [kw1]⟩
  have afP : AF qP σ σ' := af.weak (fun k hk => by unfold qP; rcases hk with hk | hk | hk <;> simp [hk])
  have fin : NF κ' σ' b P → Tn b κ σ κ' σ' → Ps κ' σ' N b P ∧ Tr b κ σ κ' σ' ∧ Nu κ' σ' (pC κ) (oC κ) (iC κ) (rJ σ) (rU σ) (rA σ) (rT σ) (rC σ) (rV σ') (rK σ) (rE σ) := fun hn ht => ⟨⟨⟨tkA, by rw [kf.2.1]; exact hA.2.1, by rw [kf.2.2.1]; exact hA.2.2.1, hb12, hn⟩, pB⟩, ⟨tf, afP, tw, ht⟩, nu⟩
  rcases dr with ⟨⟨v1, v2, v3⟩, rfl⟩ | ⟨no, rfl, rfl⟩
  · -- the name was there
    obtain ⟨s, hs⟩ : ∃ s, E[v]? = some s := ⟨E[v]'(by omega), List.getElem?_eq_getElem (by omega)⟩
    have e24 := n9 v s hs
    have s4 : s < 4000 := by
      by_cases c : s < 4000
      · exact c
      · rw [if_neg c] at e24
        exact absurd (v2.symm.trans e24) nmt.ne.1
    rw [if_pos s4] at e24
    have eks := e24.symm.trans v2
    have sD : s ∈ D := (memD s).mpr ⟨List.mem_of_getElem? hs, s4⟩
    obtain ⟨i, hi⟩ := List.mem_iff_getElem?.mp sD
    have hil : i < D.length := (List.getElem?_eq_some_iff.mp hi).1
    have same : κ' = κ := by
      rcases dk with ⟨-, e⟩ | ⟨c1, c2, -⟩ | ⟨c1, c2, ⟨c3, -⟩ | ⟨-, e⟩⟩
      · exact e
      · exact absurd ((clsD i s (by omega) hi).mpr eks) (c1 i (by omega))
      · exfalso
        have d12 : D[12]? = none := by
          cases hd : D[12]? with
          | none => rfl
          | some t' =>
            rw [hd] at n7
            have n7' : kI κ (1000 + 8 * b) 8 = kI κ 75 t' := n7
            have t'D := n2 t' (List.mem_of_getElem? hd)
            have pl' := tk.pl (Nat.le_trans t'D.1 hpN)
            have e9 : nI (plT κ t') = -nI 9 := by rw [← pl'.1, ← n7']; exact c3
            exact absurd e9 (by rw [neg_eq (by omega) (by omega) (by omega)]; exact id)
        have l12 := List.getElem?_eq_none_iff.mp d12
        exact c1 i (by omega) ((clsD i s (by omega) hi).mpr eks)
      · exact e
    subst same
    obtain ⟨f1, f2, f3⟩ := fin hA.2.2.2.2 Tn.refl
    refine ⟨f1, f2, f3, by omega, fun he => ?_⟩
    have lE : D.length = E.length := by omega
    have DE : D = E := by
      rw [n1] at lE ⊢
      exact List.filter_eq_self.mpr (List.length_filter_eq_length_iff.mp lE)
    rw [← DE] at hs
    refine ⟨by omega, (clsD v s (by omega) hs).mpr eks, fun u hu z => ?_⟩
    obtain ⟨su, hsu⟩ : ∃ su, D[u]? = some su := ⟨D[u]'(by omega), List.getElem?_eq_getElem (by omega)⟩
    have e1 := (clsD u su (by omega) hsu).mp z
    have su4 : su < 4000 := ((memD su).mp (List.mem_of_getElem? hsu)).2
    have e2 := n9 u su (by rw [← DE]; exact hsu)
    rw [if_pos su4] at e2
    exact v3 u hu (e2.trans e1)
  · -- a new name
    have noD : ∀ s, s ∈ D → aL σ 9 s ≠ aL σ 9 (pC κ) := fun s hs e => by
      obtain ⟨i, hi⟩ := List.mem_iff_getElem?.mp ((memD s).mp hs).1
      have e24 := n9 i s hi
      rw [if_pos ((memD s).mp hs).2] at e24
      exact no i (by rw [eV]; exact (List.getElem?_eq_some_iff.mp hi).1) (e24.trans e)
    have dD : D ++ [pC κ] = (E ++ [pC κ]).filter (fun t => t < 4000) := by
      rw [List.filter_append, ← n1]
      congr 1
      simp only [List.filter]
      rw [decide_eq_true (show pC κ < 4000 by omega)]
    have pC' : pC κ' = pC κ := nu.1
    have plT' : ∀ t, plT κ' t = plT κ t := fun t => by unfold plT; rw [c75.1]
    have rV' : rV (vd σ (pC κ)) = E.length + 1 := by unfold rV; rw [vd_25, cl_nI (by omega), eV]
    have h6 : aI σ 6 (pC κ) = nI (plT κ (pC κ)) := by
      obtain ⟨f, t, t1, t2, t3, t4, t5, t6, t7, t8⟩ := h.tok
      rw [t2, t8]
    have bf := bl_fN h6 plp.2.1 n11
    -- pieces that do not depend on the case
    have p1 : ∀ t, t ∈ D ++ [pC κ] → t ≤ pC κ' ∧ kI κ' 74 t = 2 := fun t ht => by
      rw [pC', c74.1]
      rcases List.mem_append.mp ht with hd | hd
      · exact n2 t hd
      · rw [List.mem_singleton.mp hd]; exact ⟨Nat.le_refl _, ht2⟩
    have p2 : (D ++ [pC κ]).Pairwise (fun s t => s < t ∧ aL (vd σ (pC κ)) 9 s ≠ aL (vd σ (pC κ)) 9 t) := by
      rw [vd_l (by decide)]
      refine List.pairwise_append.mpr ⟨n3, List.pairwise_singleton _ _, fun a ha c hc => ?_⟩
      rw [List.mem_singleton.mp hc]
      have ne := noD a ha
      have le := (n2 a ha).1
      have : a ≠ pC κ := fun e => ne (by rw [e])
      exact ⟨by omega, ne⟩
    have p9 : ∀ (u t : Nat), (E ++ [pC κ])[u]? = some t → aL (vd σ (pC κ)) 24 u = if t < 4000 then aL (vd σ (pC κ)) 9 t else 0 := fun u t hu => by
      rw [vd_24, vd_l (by decide)]
      rw [List.getElem?_append] at hu
      by_cases c : u < E.length
      · rw [if_pos c] at hu
        rw [if_neg (by omega)]
        exact n9 u t hu
      · rw [if_neg c] at hu
        have hu1 : u - E.length = 0 := by
          have := (List.getElem?_eq_some_iff.mp hu).1
          simp at this
          omega
        rw [hu1] at hu
        have et : pC κ = t := by simpa using hu
        rw [if_pos (by omega), ← et, if_pos (by omega)]
    have p37 : sI (vd σ (pC κ)) 37 = -9 ∨ ∃ f, f < 3001 ∧ sI (vd σ (pC κ)) 37 = nI f := by
      rw [vd_37]
      by_cases c : 12 ≤ rV σ
      · rw [if_pos c]; exact Or.inr bf.2
      · rw [if_neg c]; exact n11
    have pNe : (E ++ [pC κ]).length ≠ (D ++ [pC κ]).length → ∃ t, t ≤ pC κ' ∧ fN (kI κ' 67 3) ≤ plT κ' t := fun hne => by
      rw [List.length_append, List.length_append] at hne
      obtain ⟨t, t1, t2⟩ := n13 (fun z => hne (by rw [z]))
      exact ⟨t, by rw [pC']; exact t1, by rw [c67, plT']; exact t2⟩
    have fl : fN (sI (vd σ (pC κ)) 37) = min (min (fN (kI κ' 67 3)) P) (q13 κ' (D ++ [pC κ])) := by
      rw [c67, vd_37, eV]
      have q13' : q13 κ' (D ++ [pC κ]) = if D.length = 12 then plT κ (pC κ) else q13 κ D := by
        unfold q13
        rw [List.getElem?_append]
        by_cases c : 12 < D.length
        · rw [if_pos c, if_neg (by omega)]
          cases D[12]? with
          | none => rfl
          | some t' => exact plT' t'
        · rw [if_neg c]
          by_cases c2 : D.length = 12
          · rw [if_pos c2, c2]
            exact plT' _
          · rw [if_neg c2]
            have e1 : [pC κ][12 - D.length]? = none := List.getElem?_eq_none_iff.mpr (by simp; omega)
            have e2 : D[12]? = none := List.getElem?_eq_none_iff.mpr (by omega)
            rw [e1, e2]
      rw [q13']
      by_cases c : 12 ≤ E.length
      · rw [if_pos c, bf.1, n12]
        by_cases c2 : D.length = 12
        · rw [if_pos c2]
          have e2 : D[12]? = none := List.getElem?_eq_none_iff.mpr (by omega)
          have e3 : q13 κ D = 5000 := by unfold q13; rw [e2]
          have := plp.2.1
          rw [e3]
          omega
        · rw [if_neg c2]
          by_cases c3 : 12 < D.length
          · obtain ⟨t', ht'⟩ : ∃ t', D[12]? = some t' := ⟨D[12]'c3, List.getElem?_eq_getElem c3⟩
            have e3 : q13 κ D = plT κ t' := by unfold q13; rw [ht']
            have t'D := n2 t' (List.mem_of_getElem? ht')
            have le : plT κ t' ≤ plT κ (pC κ) := by
              by_cases ct : t' = pC κ
              · rw [ct]; exact Nat.le_refl _
              · exact Nat.le_of_lt (plp.2.2 t' (by omega))
            rw [e3]
            omega
          · obtain ⟨t0, t1, t2⟩ := n13 (by clear n10 n11 n13 p37 pNe bf; omega)
            have le : plT κ t0 ≤ plT κ (pC κ) := by
              by_cases ct : t0 = pC κ
              · rw [ct]; exact Nat.le_refl _
              · exact Nat.le_of_lt (plp.2.2 t0 (by clear n10 n11 n13 p37 pNe bf; omega))
            exact mnA (Nat.le_trans t2 le)
      · rw [if_neg c, n12, if_neg (by omega)]
    have mk : kI κ' (1000 + 8 * b) 5 = nI (min 12 (D ++ [pC κ]).length) → (∀ u t, u < 12 → (D ++ [pC κ])[u]? = some t → kL κ' (1001 + 8 * b) u = kL κ 76 t) → kI κ' (1000 + 8 * b) 8 = (match (D ++ [pC κ])[12]? with | some t => kI κ 75 t | none => -9) → NF κ' (vd σ (pC κ)) b P := fun m4 m6 m7 => ⟨E ++ [pC κ], D ++ [pC κ], dD, p1, p2, m4, by rw [kw1]; exact n5, fun u t hu hd => by rw [c76.2.1]; exact m6 u t hu hd, by rw [c75.1]; exact m7, by rw [vd_25, List.length_append, eV]; rfl, by rw [List.length_append]; show E.length + 1 < 1600; (clear n10 n11 n13 p37 pNe bf; omega), p9, by rw [c67]; exact n10, p37, fl, pNe⟩
    have lDa : (D ++ [pC κ]).length = D.length + 1 := by rw [List.length_append]; rfl
    rcases dk with ⟨⟨i, i1, i2⟩, -⟩ | ⟨c1, c2, e⟩ | ⟨c1, c2, c3⟩
    · exfalso
      obtain ⟨s, hs⟩ : ∃ s, D[i]? = some s := ⟨D[i]'(by (clear n10 n11 n13 p37 pNe bf; omega)), List.getElem?_eq_getElem (by (clear n10 n11 n13 p37 pNe bf; omega))⟩
      exact noD s (List.mem_of_getElem? hs) ((clsD i s (by (clear n10 n11 n13 p37 pNe bf; omega)) hs).mp i2)
    · have lD : D.length = cV κ b := by (clear n10 n11 n13 p37 pNe bf; omega)
      have k5 : kI κ' (1000 + 8 * b) 5 = nI (D.length + 1) := by rw [e, kI_eq, lD]
      have kn : ∀ u, kL κ' (1001 + 8 * b) u = if u = D.length then kL κ 76 (pC κ) else kL κ (1001 + 8 * b) u := fun u => by
        rw [e, kL_w, lD]
        by_cases cu : u = cV κ b
        · rw [if_pos cu, cu, kL_eq]
        · rw [if_neg cu, kL_nk cu]
      have hcv : cV κ' b = D.length + 1 := by unfold cV; rw [k5, cl_nI (by (clear n10 n11 n13 p37 pNe bf; omega))]
      obtain ⟨f1, f2, f3⟩ := fin (mk (by rw [k5, lDa]; congr 1; (clear n10 n11 n13 p37 pNe bf; omega)) (fun u t hu hd => by
        rw [kn u]
        rw [List.getElem?_append] at hd
        by_cases cu : u < D.length
        · rw [if_pos cu] at hd
          rw [if_neg (by (clear n10 n11 n13 p37 pNe bf; omega))]
          exact n6 u t hu hd
        · rw [if_neg cu] at hd
          have hu1 : u - D.length = 0 := by
            have := (List.getElem?_eq_some_iff.mp hd).1
            simp at this
            (clear n10 n11 n13 p37 pNe bf; omega)
          rw [hu1] at hd
          have et : pC κ = t := by simpa using hd
          rw [if_pos (by (clear n10 n11 n13 p37 pNe bf; omega)), et]) (by
        have e1 : (D ++ [pC κ])[12]? = none := List.getElem?_eq_none_iff.mpr (by (clear n10 n11 n13 p37 pNe bf; omega))
        have e2 : D[12]? = none := List.getElem?_eq_none_iff.mpr (by (clear n10 n11 n13 p37 pNe bf; omega))
        rw [e2] at n7
        rw [e1, e, kI_nk (by decide), kI_w]
        exact n7)) ⟨by (clear n10 n11 n13 p37 pNe bf; omega), by (clear n10 n11 n13 p37 pNe bf; omega), fun u hu => by rw [kn u, if_neg (by (clear n10 n11 n13 p37 pNe bf; omega))], by (clear n10 n11 n13 p37 pNe bf; omega), fun u hu => by rw [vd_24, if_neg (by (clear n10 n11 n13 p37 pNe bf; omega))], by rw [c77]⟩
      refine ⟨f1, f2, f3, by (clear n10 n11 n13 p37 pNe bf; omega), fun he => ⟨by (clear n10 n11 n13 p37 pNe bf; omega), ?_, fun u hu => ?_⟩⟩
      · rw [kn, if_pos (by (clear n10 n11 n13 p37 pNe bf; omega)), c76.2.1]
      · rw [kn, if_neg (by (clear n10 n11 n13 p37 pNe bf; omega)), c76.2.1]
        exact c1 u (by (clear n10 n11 n13 p37 pNe bf; omega))
    · have k5 : kI κ' (1000 + 8 * b) 5 = kI κ (1000 + 8 * b) 5 := by
        rcases c3 with ⟨-, e⟩ | ⟨-, e⟩
        · rw [e, kI_nk (by decide)]
        · rw [e]
      have kn : kL κ' (1001 + 8 * b) = kL κ (1001 + 8 * b) := by
        rcases c3 with ⟨-, e⟩ | ⟨-, e⟩
        · rw [e, kL_w]
        · rw [e]
      have hcv : cV κ' b = 12 := by unfold cV; rw [k5, n4, cl_nI (by (clear n10 n11 n13 p37 pNe bf; omega))]; (clear n10 n11 n13 p37 pNe bf; omega)
      obtain ⟨f1, f2, f3⟩ := fin (mk (by rw [k5, n4, lDa]; congr 1; (clear n10 n11 n13 p37 pNe bf; omega)) (fun u t hu hd => by
        rw [kn]
        rw [List.getElem?_append, if_pos (by (clear n10 n11 n13 p37 pNe bf; omega))] at hd
        exact n6 u t hu hd) (by
        rw [List.getElem?_append]
        rcases c3 with ⟨c8, e⟩ | ⟨c8, e⟩
        · have d12 : D[12]? = none := by
            cases hd : D[12]? with
            | none => rfl
            | some t' =>
              rw [hd] at n7
              have n7' : kI κ (1000 + 8 * b) 8 = kI κ 75 t' := n7
              have t'D := n2 t' (List.mem_of_getElem? hd)
              have pl' := tk.pl (Nat.le_trans t'D.1 hpN)
              have e9 : nI (plT κ t') = -nI 9 := by rw [← pl'.1, ← n7']; exact c8
              exact absurd e9 (by rw [neg_eq (by (clear n10 n11 n13 p37 pNe bf; omega)) (by (clear n10 n11 n13 p37 pNe bf; omega)) (by (clear n10 n11 n13 p37 pNe bf; omega))]; exact id)
          have l12 := List.getElem?_eq_none_iff.mp d12
          have lD : D.length = 12 := by (clear n10 n11 n13 p37 pNe bf; omega)
          rw [if_neg (by (clear n10 n11 n13 p37 pNe bf; omega)), lD, e, kI_eq, hB.2.2.1]
          rfl
        · have d12 : 12 < D.length := by
            by_cases cc : 12 < D.length
            · exact cc
            · have e2 : D[12]? = none := List.getElem?_eq_none_iff.mpr (by (clear n10 n11 n13 p37 pNe bf; omega))
              rw [e2] at n7
              exact absurd n7 c8
          rw [if_pos d12, e]
          exact n7)) ⟨by (clear n10 n11 n13 p37 pNe bf; omega), by (clear n10 n11 n13 p37 pNe bf; omega), fun u hu => by rw [kn], by (clear n10 n11 n13 p37 pNe bf; omega), fun u hu => by rw [vd_24, if_neg (by (clear n10 n11 n13 p37 pNe bf; omega))], by rw [c77]⟩
      exact ⟨f1, f2, f3, by (clear n10 n11 n13 p37 pNe bf; omega), fun he => by (clear n10 n11 n13 p37 pNe bf; omega)⟩
theorem Ps.decl {κ' : Km} {σ' : Rm} {v : Nat} (h : Ps κ σ N b P) (hb : Bdd κ σ) (h2 : kI κ 72 7 = 2) (hd : DcS b κ σ κ' σ' v) : Ps κ' σ' N b P ∧ Tr b κ σ κ' σ' ∧ Nu κ' σ' (pC κ) (oC κ) (iC κ) (rJ σ) (rU σ) (rA σ) (rT σ) (rC σ) (rV σ') (rK σ) (rE σ) ∧ rV σ' ≤ rV σ + 1 ∧ (rV σ' = cV κ' b → VnR κ' b (pC κ) v) := h.decl0 (by have := hb.2.2.2.2.2.2; have := h.p3; omega) h2 hd
end DECL
