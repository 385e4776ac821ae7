/-! the head of a body: the class, against the reference -/
section HD8
variable {X : Cx} {N b P : Nat} {κ κ1 κ2 κ' : Km} {σ σ1 σ2 σ' : Rm}
theorem mnC {w P f : Nat} : min (min w P) f = min (min w f) P := by omega
theorem fN_inj {x y : Int32} (hx : x = -9 ∨ ∃ g, g < 3001 ∧ x = nI g) (hy : y = -9 ∨ ∃ g, g < 3001 ∧ y = nI g) (h : fN x = fN y) : x = y := by
  rcases hx with rfl | ⟨g, hg, rfl⟩ <;> rcases hy with rfl | ⟨k, hk, rfl⟩
  · rfl
  · rw [fN_neg, fN_nI (by omega)] at h; omega
  · rw [fN_neg, fN_nI (by omega)] at h; omega
  · rw [fN_nI (by omega), fN_nI (by omega)] at h; rw [h]
theorem kc_size0 {F : Int32 → Km → Prop} (q : F (kI κ 68 2) κ) : KC' X 0 MX1_size [vR 68] κ (kRI F) := KC_of_K rfl (Nat.le_of_ble_eq_true rfl) rfl (k_1_size_0 ⟨_, rfl, q⟩)
theorem kc_index0 {F : Int32 → Km → Prop} (q : F (kI κ 72 6) κ) : KC' X 0 MX9_index [vR 72] κ (kRI F) := KC_of_K rfl (Nat.le_of_ble_eq_true rfl) rfl (k_9_index_0 ⟨_, rfl, q⟩)
theorem kw_core {d s : Nat} {x1 : Int32} {F : Int32 → Km → Prop} (bt : BT κ σ N b P) (hb : b < 12) (hs : (s = 1 ∧ x1 = 1 ∧ kI κ 72 7 = 200) ∨ (s = 0 ∧ x1 = 0 ∧ kI κ 72 7 = 201)) (hd : 6 ≤ d)
    (q1 : ∀ κ' σ' n, (n ≤ 4 ∧ (x1 ≠ 0 → n ≤ 1)) → HB N b P n s κ σ κ' σ' → (∀ (e : Nat) (Q : Res → Rm → Prop), 7 ≤ e → RBd X e x1 (nI (pC κ + 1)) b n σ' Q → A X 92 e MX13_readBody 0 [(0, vR 92)] [] σ Q) → F 1 κ') (q0 : ∀ κ' σ', FltH b κ σ κ' σ' → (∀ (e : Nat) (Q : Res → Rm → Prop), 7 ≤ e → Q (.inr 93) σ' → A X 92 e MX13_readBody 0 [(0, vR 92)] [] σ Q) → F 0 κ') : K X d MX5_readHead 37 [(0, vR 77), (1, vI x1)] [vR 77] κ (kRI F) := by
  obtain ⟨pq, ho, hb12, hbk, hB12, h67, h18, hw, ⟨w3, w37, wf⟩, bn⟩ := bt
  have hp := pq.p3
  have hlt : pC κ < N := by
    rcases hs with ⟨-, -, hk⟩ | ⟨-, -, hk⟩
    · exact pq.n0 (c := 200) hk (by omega) (by omega)
    · exact pq.n0 (c := 201) hk (by omega) (by omega)
  have nx : nI s = x1 := by rcases hs with ⟨rfl, rfl, -⟩ | ⟨rfl, rfl, -⟩ <;> rfl
  obtain ⟨pn, l1, l2, l3, l4, l5, l6, l7, l8, l9, l10, l11⟩ := pq.next hlt
  obtain ⟨f, tt, g1, g2, g3, g4, g5, g6, g7, g8⟩ := pn.tok
  have h6 : aI σ 6 (pC κ + 1) = nI f := by
    rw [l1, aI_ne (by decide)] at g2
    exact g2
  have hf : f < 3001 := by omega
  have core : ∀ κ1, ((b < kB κ ∧ κ1 = κ) ∨ (b = kB κ ∧ κ1 = newB κ)) → K X d MX5_readHead 48 [(0, vR 77), (1, vI x1)] [vR (1000 + 8 * b), vR 77] (cI (cL κ1 (1000 + 8 * b) 1 0) 67 2 (nI (b + 1))) (kRI F) := by
    intro κ1 hc
    obtain ⟨kh, bk, kc, a2, a3, a72, a77, aL0, aLi⟩ := ab_kh hb hB12 hw hc
    refine k_5_readHead_48 _ _ ⟨Or.inr (isH_body (κ := cI (cL κ1 (1000 + 8 * b) 1 0) 67 2 (nI (b + 1))) bk), ?_⟩
    rintro κ2 hκ2
    have hab : ab b κ1 = κ2 := hκ2.symm
    rw [hab] at kh bk kc a2 a3 a72 a77 aL0 aLi
    clear hκ2 hab
    have n74 : ¬ hB b 74 ∧ ¬ hB b 75 ∧ ¬ hB b 76 ∧ ¬ hB b 68 ∧ ¬ hB b 69 ∧ ¬ hB b 70 := by unfold hB; omega
    obtain ⟨pqA, m1, m2, m3, m4, m6, m7, m8, m10, m11⟩ := pq.fr (κ' := κ2) (σ' := σ) a72 (kh.1 74 n74.1).1 (kh.1 75 n74.2.1).1 (kh.1 76 n74.2.2.1).2.1 ⟨(kh.1 74 n74.1).2.2, (kh.1 75 n74.2.1).2.2, (kh.1 76 n74.2.2.1).2.2⟩ (by rw [a77]) (kh.1 68 n74.2.2.2.1).1 ⟨(kh.1 69 n74.2.2.2.2.1).2.2, (kh.1 70 n74.2.2.2.2.2).2.2⟩ rfl rfl rfl rfl rfl (fun _ _ => rfl) pq.2.2.2.2.2.2.2.2.2.2.2.2.2.2.1
    have hltA : pC κ2 < N := by omega
    obtain ⟨p3, n1, n2, n3, n4, n5, n6, n7, n8, n9, n10, n11⟩ := pqA.next hltA
    have e72 : kI (setC κ2 (pC κ2 + 1)) 72 = kI (setC κ (pC κ + 1)) 72 := by
      rw [m1]
      exact setC_72 a72 (kh.1 74 n74.1).1 (kh.1 75 n74.2.1).1
    have kh3 : KH b κ (setC κ2 (pC κ2 + 1)) := kh.bf BF.set
    have es : wS σ 10 (nI (pC κ2 + 1)) = wS σ 10 (nI (pC κ + 1)) := by rw [m1]
    have af3 : AF qB σ (wS σ 10 (nI (pC κ2 + 1))) := AF.wI (by decide)
    refine ⟨Or.inr (by rw [kc]; exact (isH_body bk).1), fun z => absurd z (by omega), fun _ => ⟨0, by omega, kc_nextQ pqA hltA ⟨1, by omega, kc_isName (fun c => ⟨fun z => absurd z (by decide), fun _ => ?_⟩) (fun c => ⟨fun _ => ⟨_, rfl, q0 _ _ (FltB.h kh3 af3 (FltB.at' (k := 8) p3 (by omega))) (fun e Q he hq => kw_ref pq hlt hs hb h18 he w37 h6 hf (fun _ => by rw [← e72, ← es]; exact hq) (fun _ z => absurd (by rw [← e72]; exact c) z) (fun z => absurd ((by rw [← e72]; exact c : kI (setC κ (pC κ + 1)) 72 7 = 5).symm.trans z) (by decide)))⟩, fun z => absurd rfl z⟩) (fun c c5 => ⟨fun _ => ⟨_, rfl, q0 _ _ (FltB.h kh3 af3 (FltB.at p3)) (fun e Q he hq => kw_ref pq hlt hs hb h18 he w37 h6 hf (fun z => absurd z (by rw [← e72]; exact c5)) (fun _ _ => by rw [← e72, ← es]; exact hq) (fun z => absurd z (by rw [← e72]; exact c)))⟩, fun z => absurd rfl z⟩)⟩⟩⟩
    have cn : kI (setC κ (pC κ + 1)) 72 7 = 2 := by rw [← e72]; exact c
    have k74 : kI κ 74 (pC κ + 1) = 2 := by
      rw [setC_cur.2.1, setC_ne (by decide)] at cn
      exact cn
    have kf3 := setC_kf (κ := κ2) (p := pC κ2 + 1)
    have c67 : kI (setC κ2 (pC κ2 + 1)) 67 = kI κ2 67 := setC_ne (by decide)
    have c77 : kI (setC κ2 (pC κ2 + 1)) 77 = kI κ2 77 := setC_ne (by decide)
    have cB : kB (setC κ2 (pC κ2 + 1)) = kB κ2 := kf3.2.2.1
    have cC3 : kC (setC κ2 (pC κ2 + 1)) = 1000 + 8 * b := kf3.2.1.trans kc
    have cL : ∀ i, kL (setC κ2 (pC κ2 + 1)) (1000 + 8 * i) = kL κ2 (1000 + 8 * i) := fun i => (kf3.1 _ (by omega)).2.1
    have c76 : kL (setC κ2 (pC κ2 + 1)) 76 = kL κ 76 := (kf3.1 76 (by decide)).2.1.trans (kh.1 76 n74.2.2.1).2.1
    have p31 : pC (setC κ2 (pC κ2 + 1)) = pC κ + 1 := by omega
    generalize hκ3 : setC κ2 (pC κ2 + 1) = κ3 at *
    have nmt := pq.1.nm (t := pC κ + 1) (by omega) k74
    have bniff := bn_iff pq.1 bn (t := pC κ + 1) (by omega) k74
    have cl3 : ∀ i, i < b → kL κ3 (1000 + 8 * i) 1 = kL κ (1000 + 8 * i) 1 := fun i hi => by rw [cL i, aLi i (by omega)]
    have clb : kL κ3 (1000 + 8 * b) 1 = 0 := by rw [cL b]; exact aL0
    obtain ⟨mm, mm1, mm2, mm3⟩ := p3.1.2.2.2.2.2
    have k128 : ∀ κ4, KF (fun h => h = 67) κ3 κ4 → RG κ3 κ4 → (∀ k, k ≠ 3 → kI κ4 67 k = kI κ3 67 k) → (kI κ4 67 3 = -9 ∨ ∃ g, g < 3001 ∧ kI κ4 67 3 = nI g) → fN (kI κ4 67 3) = (if ∃ k, k < b ∧ aL σ 26 k = aL σ 9 (pC κ + 1) then min (fN (kI κ 67 3)) f else fN (kI κ 67 3)) → K X d MX5_readHead 128 [(0, vR 77), (1, vI x1), (2, vL (kL κ3 76 (pC κ3)))] [] κ4 (kRI F) := by
      intro κ4 kf4 rg4 e67 v67 f67
      have c4 : ∀ h, h ≠ 67 → kI κ4 h = kI κ3 h ∧ kL κ4 h = kL κ3 h ∧ kW κ4 h = kW κ3 h := fun h hh => kf4.1 h hh
      have bk4 : b < kB κ4 := by rw [kf4.2.2.1, cB]; exact bk
      have hC4 : kC κ4 = 1000 + 8 * b := kf4.2.1.trans cC3
      have hx01 : x1 = 0 ∨ x1 = 1 := hs.elim (fun z => Or.inr z.2.1) (fun z => Or.inl z.2.1)
      refine k_5_readHead_128 _ _ ⟨by rw [hC4]; exact isH_body bk4, 0, by omega, kc_size0 ⟨0, by omega, ?_⟩⟩
      rw [hC4]
      refine kc_begin bk4 hx01 ?_
      obtain ⟨kf5, rg5⟩ := bg_kf (b := b) (κ := κ4) (x1 := x1) (pl := kI κ4 72 8) (sz := kI κ4 68 2) (v := kL κ3 76 (pC κ3))
      have at5 := bg_at (b := b) (κ := κ4) (x1 := x1) (pl := kI κ4 72 8) (sz := kI κ4 68 2) (v := kL κ3 76 (pC κ3))
      have ne5 : ∀ g, g ≠ 1000 + 8 * b → kI (bg b κ4 x1 (kL κ3 76 (pC κ3)) (kI κ4 72 8) (kI κ4 68 2)) g = kI κ4 g ∧ kL (bg b κ4 x1 (kL κ3 76 (pC κ3)) (kI κ4 72 8) (kI κ4 68 2)) g = kL κ4 g := fun g hg => bg_ne hg
      have w5 : kW (bg b κ4 x1 (kL κ3 76 (pC κ3)) (kI κ4 72 8) (kI κ4 68 2)) = kW κ4 := rfl
      generalize hκ5 : bg b κ4 x1 (kL κ3 76 (pC κ3)) (kI κ4 72 8) (kI κ4 68 2) = κ5 at *
      have d5 : ∀ h, h ≠ 67 → h ≠ 1000 + 8 * b → kI κ5 h = kI κ3 h ∧ kL κ5 h = kL κ3 h ∧ kW κ5 h = kW κ3 h := fun h h1 h2 => ⟨(ne5 h h2).1.trans (c4 h h1).1, (ne5 h h2).2.trans (c4 h h1).2.1, by rw [w5]; exact (c4 h h1).2.2⟩
      obtain ⟨pq5, r1, r2, r3, r4, r6, r7, r8, r10, r11⟩ := p3.fr (κ' := κ5) (σ' := wS σ 10 (nI (pC κ2 + 1))) (d5 72 (by decide) (by omega)).1 (d5 74 (by decide) (by omega)).1 (d5 75 (by decide) (by omega)).1 (d5 76 (by decide) (by omega)).2.1 ⟨(d5 74 (by decide) (by omega)).2.2, (d5 75 (by decide) (by omega)).2.2, (d5 76 (by decide) (by omega)).2.2⟩ (by rw [(d5 77 (by decide) (by omega)).1]) (d5 68 (by decide) (by omega)).1 ⟨(d5 69 (by decide) (by omega)).2.2, (d5 70 (by decide) (by omega)).2.2⟩ rfl rfl rfl rfl rfl (fun _ _ => rfl) p3.2.2.2.2.2.2.2.2.2.2.2.2.2.2.1
      have hk5 : kI κ5 72 7 = 2 := by rw [(d5 72 (by decide) (by omega)).1]; exact c
      have hlt5 := pq5.n0 (c := 2) hk5 (by omega) (by omega)
      have p51 : pC κ5 = pC κ + 1 := by omega
      refine ⟨0, by omega, kc_nextQ pq5 hlt5 ?_⟩
      obtain ⟨x0, hx0, hfx0⟩ : ∃ x : Int32, (x = -9 ∨ ∃ g, g < 3001 ∧ x = nI g) ∧ fN x = (if ∃ k, k < b ∧ aL σ 26 k = aL σ 9 (pC κ + 1) then min (fN (sI σ 37)) f else fN (sI σ 37)) := by
        by_cases z : ∃ k, k < b ∧ aL σ 26 k = aL σ 9 (pC κ + 1)
        · rw [if_pos z]
          exact ⟨nI (min (fN (sI σ 37)) f), Or.inr ⟨_, by omega, rfl⟩, fN_nI (by omega)⟩
        · rw [if_neg z]
          exact ⟨sI σ 37, w37, rfl⟩
      obtain ⟨pq6, t1, t2, t3, t4, t5, t6, t7, t8, t9, t10, t11⟩ := pq5.next hlt5
      have eσ : wS (wS σ 10 (nI (pC κ2 + 1))) 10 (nI (pC κ5 + 1)) = wS (wS σ 10 (nI (pC κ + 1))) 10 (nI (pC κ + 2)) := by rw [m1, p51]
      rw [eσ] at pq6 t4 t5 t6 t7 t8 t9 t10 t11
      generalize hσ2 : wS (wS σ 10 (nI (pC κ + 1))) 10 (nI (pC κ + 2)) = σ2 at *
      have g2a : ∀ k, k ≠ 10 → aI σ2 k = aI σ k := fun k hk => by rw [← hσ2, aI_ne hk, aI_ne hk]
      have g2l : aL σ2 = aL σ := by rw [← hσ2]; rfl
      have at6 := rw5_at (b := b) (σ := σ2) (s := s) (f := f) (x := x0) (key := aL σ 9 (pC κ + 1))
      have ss6 : ∀ k, (k ≠ 18 ∧ k ≠ 19 ∧ k ≠ 22 ∧ k ≠ 25 ∧ k ≠ 37 ∧ k ≠ 44) → sI (rw5 b σ2 s f x0 (aL σ 9 (pC κ + 1))) k = sI σ2 k ∧ aI (rw5 b σ2 s f x0 (aL σ 9 (pC κ + 1))) k = aI σ2 k := fun k hk => rw5_s hk
      have ll6 : ∀ k, k ≠ 26 → aL (rw5 b σ2 s f x0 (aL σ 9 (pC κ + 1))) k = aL σ2 k := fun k hk => rw5_l hk
      generalize hσ6 : rw5 b σ2 s f x0 (aL σ 9 (pC κ + 1)) = σ6 at *
      have u6 : rU σ6 = 0 := by unfold rU; rw [at6.2.2.1]; rfl
      have v6 : rV σ6 = 0 := by unfold rV; rw [at6.2.1]; rfl
      obtain ⟨pq7, z1, z2, z3, z4, z6, z7, z8, z10, z11⟩ := pq6.fr (κ' := setC κ5 (pC κ5 + 1)) (σ' := σ6) rfl rfl rfl rfl ⟨rfl, rfl, rfl⟩ rfl rfl ⟨rfl, rfl⟩ (ss6 5 (by decide)).2 (ss6 6 (by decide)).2 (ss6 7 (by decide)).2 (ss6 8 (by decide)).2 (ll6 9 (by decide)) (fun k hk => (ss6 k (by omega)).1) (by rw [u6, at6.2.2.1]; rfl)
      have kf6 := setC_kf (κ := κ5) (p := pC κ5 + 1)
      have kh4 : KH b κ κ4 := kh3.kf (kf4.weak (fun h e => Or.inl e)) rg4 (by rw [(c4 72 (by decide)).1]) (c4 (1001 + 8 * b) (by omega)).2.2
      have kh5 : KH b κ κ5 := kh4.kf kf5 rg5 (by rw [(ne5 72 (by omega)).1]) (by rw [w5])
      have kh6 : KH b κ (setC κ5 (pC κ5 + 1)) := kh5.bf BF.set
      have q67 : kI (setC κ5 (pC κ5 + 1)) 67 = kI κ4 67 := by rw [setC_ne (by decide)]; exact (ne5 67 (by omega)).1
      have q0b : ∀ k, kI (setC κ5 (pC κ5 + 1)) (1000 + 8 * b) k = kI κ5 (1000 + 8 * b) k := fun k => by rw [setC_ne (by omega)]
      have bk5 : b < kB (setC κ5 (pC κ5 + 1)) := by rw [kf6.2.2.1, kf5.2.2.1]; exact bk4
      have ps6 : Ps (setC κ5 (pC κ5 + 1)) σ6 N b P := by
        refine ⟨⟨pq7.1, ?_, bk5, hb, NF.nil (kh6.2.2.2.2.2.2 b bk5) (by rw [q0b]; exact at5.2.2.2.1) (by rw [q0b]; exact at5.2.2.2.2.2.2.1) at6.2.1 (by rw [q67]; exact v67) (by rw [at6.2.2.2.1]; exact hx0) ?_⟩, pq7.2⟩
        · rw [kf6.2.1, kf5.2.1]; exact hC4
        · rw [at6.2.2.2.1, q67, hfx0, f67, wf]
          by_cases z : ∃ k, k < b ∧ aL σ 26 k = aL σ 9 (pC κ + 1)
          · rw [if_pos z, if_pos z]; exact mnC
          · rw [if_neg z, if_neg z]
      have af6 : AF qB σ σ6 := fun k hk => ⟨by rw [(ss6 k ⟨fun z => hk (by unfold qB; omega), fun z => hk (by unfold qB; omega), fun z => hk (by unfold qB; omega), fun z => hk (by unfold qB; omega), fun z => hk (by unfold qB; omega), fun z => hk (by unfold qB; omega)⟩).2, g2a k (fun z => hk (by unfold qB; omega))], by rw [ll6 k (fun z => hk (by unfold qB; omega)), g2l]⟩
      refine hd_tail (y2 := nI (pC κ + 1)) (Gl := fun e Q => A X 92 e MX13_readBody 0 [(0, vR 92)] [] σ Q) ps6 (by omega) v6 (by rw [q0b]; exact at5.2.2.1) (by omega) (fun e Q he hA => kw_ref pq hlt hs hb h18 he w37 h6 hf (fun z => absurd (cn.symm.trans z) (by decide)) (fun z => absurd cn z) (fun _ x hx hfx => ?_)) (fun κ' σ' n hn ht pathB => ?_) (fun κ' σ' fl r => q0 _ _ (FltB.h kh6 af6 fl) r)
      · have ex : x = x0 := fN_inj hx hx0 (hfx.trans hfx0.symm)
        rw [ex, hσ2, hσ6]
        exact hA
      · obtain ⟨h1, ⟨j1, j2, j3, j4, j5, j6, j7, j8, j9, j10, j11⟩, h4, bf, rows, r20, r23, -, -⟩ := ht
        have kh7 := kh6.bf bf
        have q77 : kI (setC κ5 (pC κ5 + 1)) 77 = kI κ 77 := by rw [setC_ne (by decide), (d5 77 (by decide) (by omega)).1, c77, a77]
        have k68 : kI κ4 68 2 = nI (iC κ) := by
          have e := p3.2.2.2.2.2.2.2.2.2.1
          rw [(c4 68 (by decide)).1, e]
          congr 1
          omega
        have k728 : kI κ4 72 8 = nI f := by rw [(c4 72 (by decide)).1, e72]; exact g1
        have qL : kL (setC κ5 (pC κ5 + 1)) (1000 + 8 * b) = kL κ5 (1000 + 8 * b) := (kf6.1 _ (by omega)).2.1
        have l9 : aL σ' 9 = aL σ 9 := by rw [(rows 9 (by decide) (by decide) (by decide) (by decide) (by decide)).2, ll6 9 (by decide), g2l]
        have l26 : ∀ i, aL σ' 26 i = if i = b then aL σ 9 (pC κ + 1) else aL σ 26 i := fun i => by
          rw [(rows 26 (by decide) (by decide) (by decide) (by decide) (by decide)).2, at6.2.2.2.2.2.2 i, g2l]
        have n9 : kI κ' 67 3 = -9 → kI κ 67 3 = -9 := fun z => by
          have z4 := bf.2.2.2.2.2.2.2.2 z
          rw [q67] at z4
          rw [z4, fN_neg] at f67
          rcases w3 with e | ⟨g, e1, e2⟩
          · exact e
          · rw [e2, fN_nI (by omega)] at f67
            split at f67 <;> omega
        refine q1 κ' σ' n hn ⟨h1, ⟨by omega, j2, by omega, by omega, by omega, by omega, by omega, by omega, j9, j10, j11⟩, kh7, by rw [bf.2.2.2.2.1, q77], ?_, ?_, ⟨?_, h4, ?_⟩, ⟨f, hf, ?_, fun i => ?_⟩, fun i => ?_, fun i => ?_, fun i => ?_, ?_, fun i hi => ?_, fun k hk => ?_, n9⟩ pathB
        · rw [bf.2.2.2.1 2 (by decide), q67, e67 2 (by decide), c67]; exact a2
        · exact (congrFun (rows 18 (by decide) (by decide) (by decide) (by decide) (by decide)).1 0).trans at6.1
        · rw [bf.2.2.2.2.2.1 2 (by decide) (by decide) (by decide), q0b, at5.1, nx]
        · rw [bf.2.2.2.2.2.1 6 (by decide) (by decide) (by decide), q0b, at5.2.2.2.2.1, k68]
        · rw [bf.2.2.2.2.2.1 3 (by decide) (by decide) (by decide), q0b, at5.2.1, k728]
        · rw [(rows 22 (by decide) (by decide) (by decide) (by decide) (by decide)).1, at6.2.2.2.2.2.1 i, g2a 22 (by decide)]
        · rw [(rows 19 (by decide) (by decide) (by decide) (by decide) (by decide)).1, at6.2.2.2.2.1 i, g2a 19 (by decide)]
        · rw [r20 i, (ss6 20 (by decide)).2, g2a 20 (by decide)]
        · rw [r23 i, (ss6 23 (by decide)).2, g2a 23 (by decide)]
          have ej : rJ σ6 = rJ σ := by omega
          rw [ej]
        · rw [(rows 21 (by decide) (by decide) (by decide) (by decide) (by decide)).1, (ss6 21 (by decide)).2, g2a 21 (by decide)]
        · by_cases ci : i = b
          · subst ci
            refine ⟨pC κ + 1, by omega, by rw [(kh7.1 74 n74.1).1]; exact k74, ?_, by rw [l26, if_pos rfl, l9]⟩
            rw [bf.2.2.2.2.2.2.1, qL, at5.2.2.2.2.2.2.2, (kh7.1 76 n74.2.2.1).2.1, c76, p31]
          · obtain ⟨t, y1, y2, y3, y4⟩ := bn i (by omega)
            refine ⟨t, y1, by rw [(kh7.1 74 n74.1).1]; exact y2, ?_, by rw [l26, if_neg ci, l9]; exact y4⟩
            rw [(kh7.1 (1000 + 8 * i) (by unfold hB; omega)).2.1, (kh7.1 76 n74.2.2.1).2.1]
            exact y3
        · have e1 := rows k (fun z => hk (qAB k z)) (fun z => hk (by unfold qB; omega)) (fun z => hk (by unfold qB; omega)) (fun z => hk (by unfold qB; omega)) (fun z => hk (by unfold qB; omega))
          have e2 := af6 k hk
          exact ⟨e1.1.trans e2.1, e1.2.trans e2.2⟩
    refine ⟨0, by omega, kc_index0 ⟨0, by omega, ?_⟩⟩
    rw [p3.2.1]
    refine kc_valueOf mm3 mm2 (by omega) ⟨0, by omega, kc_sfind (n := b + 1) (by rw [c67]; exact a2) (by omega) (by omega) (fun y fy => ⟨fun cy => ?_, fun cy => ?_⟩)⟩
    · have no : ¬ ∃ k, k < b ∧ aL σ 26 k = aL σ 9 (pC κ + 1) := fun z => by
        obtain ⟨i, i1, i2⟩ := bniff.mpr z
        rcases fy with ⟨j, j1, j2, -⟩ | ⟨-, hu⟩
        · rw [j2] at cy
          exact absurd cy (neg9 (by omega))
        · exact hu i (by omega) (by rw [cl3 i i1, c76, p31]; exact i2)
      exact k128 κ3 KF.refl RG.refl (fun _ _ => rfl) (by rw [c67, a3]; exact w3) (by rw [c67, a3, if_neg no])
    · have yes : ∃ k, k < b ∧ aL σ 26 k = aL σ 9 (pC κ + 1) := by
        rcases fy with ⟨j, j1, j2, j3, -⟩ | ⟨z, -⟩
        · refine bniff.mp ⟨j, ?_, ?_⟩
          · by_cases ej : j = b
            · rw [ej, clb, c76, p31] at j3
              exact absurd j3.symm nmt.ne.2
            · omega
          · by_cases ej : j = b
            · rw [ej, clb, c76, p31] at j3
              exact absurd j3.symm nmt.ne.2
            · rw [cl3 j (by omega), c76, p31] at j3
              exact j3
        · exact absurd z cy
      have e8 : kI κ3 72 8 = nI f := by rw [e72]; exact g1
      rw [e8]
      obtain ⟨nk1, nk2, nk3⟩ := nt_kf (κ := κ3) (f := f)
      have nf := nt_fN (κ := κ3) (f := f) (by rw [c67, a3]; exact w3) hf
      refine ⟨0, by omega, kc_note (k128 (nt κ3 f) nk1 nk2 nk3 (Or.inr nf.2) ?_)⟩
      rw [nf.1, if_pos yes, c67, a3]
  exact k_5_readHead_37 _ ⟨2, by omega, kc_Story_add h67 hb12 hbk (fun z => absurd z (by omega)) (fun c _ => core κ (Or.inl ⟨c, rfl⟩)) (fun c _ => core (newB κ) (Or.inr ⟨c, rfl⟩))⟩
end HD8
