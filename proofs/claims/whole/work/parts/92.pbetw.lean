/-! where both stand, between bodies too -/
/-- both stand at the same token, with rows of the same length -/
def Pq (κ : Km) (σ : Rm) (N : Nat) : Prop := TkA κ σ N ∧ PB κ σ N
theorem Ps.pq {κ : Km} {σ : Rm} {N b P : Nat} (h : Ps κ σ N b P) : Pq κ σ N := ⟨h.1.1, h.2⟩
section PQ
variable {X : Cx} {κ κ' : Km} {σ σ' : Rm} {N : Nat}
theorem Pq.tok {κ : Km} {σ : Rm} {N : Nat} (h : Pq κ σ N) : ∃ f t : Nat, kI κ 72 8 = nI f ∧ aI σ 6 (pC κ) = nI f ∧ aI σ 7 (pC κ) = nI t ∧ pC κ ≤ f ∧ f ≤ t ∧ t ≤ 3000 ∧ Tkk (kI κ 72 7) (kL κ 76 (pC κ)) (aI σ 5 (pC κ)) (aI σ 8 (pC κ)) (aL σ 9 (pC κ)) (t - f) ∧ f = plT κ (pC κ) := by
  obtain ⟨hA, hB⟩ := h
  obtain ⟨b1, b2, b3, b4, b5, -⟩ := hB
  have hk : TkR κ σ (pC κ) := by
    by_cases c : pC κ < N
    · exact (hA.1 _ c).1
    · rw [show pC κ = N by omega]; exact hA.2.1
  obtain ⟨f, t, h1, h2, h3, h4, h5, h6, h7, h8⟩ := hk
  refine ⟨f, t, by rw [b3]; exact h1, h2, h3, h4, h5, h6, by rw [b2]; exact h8, ?_⟩
  unfold plT
  rw [h1, cl_nI (by omega)]
theorem Pq.lt {κ : Km} {σ : Rm} {N : Nat} (h : Pq κ σ N) (h0 : kI κ 72 7 ≠ 0) (h1 : kI κ 72 7 ≠ 1) : pC κ < N := by
  obtain ⟨hA, hB⟩ := h
  obtain ⟨b1, b2, b3, b4, b5, -⟩ := hB
  by_cases c : pC κ < N
  · exact c
  · have e : pC κ = N := by omega
    rw [b2, e] at h0 h1
    rcases hA.2.2.1 with z | z
    · exact absurd z h0
    · exact absurd z h1
theorem Pq.p3 {κ : Km} {σ : Rm} {N : Nat} (h : Pq κ σ N) : pC κ ≤ 3000 ∧ N ≤ 3000 := by
  have h1 := h.1.2.2.2.1
  have h2 := h.2.2.2.2.2.1
  omega
theorem kc_nextQ {X : Cx} {κ : Km} {σ : Rm} {N : Nat} {F : Km → Prop} (h : Pq κ σ N) (hp : pC κ < N) (q : F (setC κ (pC κ + 1))) : KC' X 0 MX9_next [vR 72] κ (kRV F) := by
  obtain ⟨m, m1, m2, m3⟩ := h.1.2.2.2.2.2
  exact kc_next m3 h.2.1 (by omega) q
theorem ac_isWordQ {F : Int32 → Rm → Prop} {w : Nat} (h : Pq κ σ N) (hw : w < 23) (q1 : kI κ 72 7 = nI (200 + w) → F 1 σ) (q0 : kI κ 72 7 ≠ nI (200 + w) → F 0 σ) : AC X 92 5 MX13_isWord [vR 92, vR (4 + w)] σ (aRI F) := by
  obtain ⟨f, t, t1, t2, t3, t4, t5, t6, t7, t8⟩ := h.tok
  have hp := h.p3
  refine AC_of_A rfl (Nat.le_of_ble_eq_true rfl) rfl (a_isWord_0 _ ?_)
  rw [h.2.2.2.2.1, vpn (by omega), cl_nI (by omega)]
  refine ⟨by omega, fun c => ⟨by omega, 4, by decide, ac_keyOf hw ?_⟩, fun c => a_isWord_35 _ (a_isWord_36 _ _ ⟨Or.inl rfl, _, rfl, q0 (fun z => c ((t7.word hw).mpr z).1)⟩)⟩
  rw [lg0]
  exact ⟨fun c2 => a_isWord_36 _ _ ⟨Or.inr rfl, _, rfl, q1 ((t7.word hw).mp ⟨c, c2⟩)⟩, fun c2 => a_isWord_35 _ (a_isWord_36 _ _ ⟨Or.inl rfl, _, rfl, q0 (fun z => c2 ((t7.word hw).mpr z).2)⟩)⟩
theorem ac_mustNameQ {Q : Res → Rm → Prop} {F : Int32 → Rm → Prop} (h : Pq κ σ N) (q1 : kI κ 72 7 = 2 → F (nI (pC κ)) (wS σ 10 (nI (pC κ + 1)))) (q5 : kI κ 72 7 = 5 → Q (.inr 93) (wI σ 0 6 (kI κ 72 8 + 8))) (q0 : kI κ 72 7 ≠ 2 → kI κ 72 7 ≠ 5 → Q (.inr 93) (wI σ 0 6 (kI κ 72 8))) : AC X 92 1 MX13_mustName [vR 92] σ (aTI Q F) := by
  obtain ⟨f, t, t1, t2, t3, t4, t5, t6, t7, t8⟩ := h.tok
  have hp := h.p3
  refine AC_of_A rfl (Nat.le_of_ble_eq_true rfl) rfl (a_mustName_0 ?_)
  rw [h.2.2.2.2.1, vpn (by omega), cl_nI (by omega)]
  have nx : kI κ 72 7 = 2 → A X 92 1 MX13_mustName 66 [(0, vR 92)] [] σ (aTI Q F) := fun c => a_mustName_66 (by
    rintro s1 rfl
    rw [sI_eq, h.2.2.2.2.1, nI_1, litI 1, nI_sb (by omega)]
    exact Or.inl ⟨_, rfl, q1 c⟩)
  rcases t7.name with ⟨c, c1, c2, -⟩ | ⟨c, c1, c2⟩ | ⟨c, c1, c2⟩
  · refine ⟨by omega, fun _ => a_mustName_26 ?_, fun z => absurd c1 z⟩
    rw [h.2.2.2.2.1, vpn (by omega), cl_nI (by omega), t3, t2, nI_sb (by omega), litI 8, le_nI (by omega) (by omega)]
    exact ⟨by omega, by omega, fun _ => nx c, fun z => absurd c2 z⟩
  · refine ⟨by omega, fun _ => a_mustName_26 ?_, fun z => absurd c1 z⟩
    rw [h.2.2.2.2.1, vpn (by omega), cl_nI (by omega), t3, t2, nI_sb (by omega), litI 8, le_nI (by omega) (by omega), ← litI 8, ← t1]
    exact ⟨by omega, by omega, fun z => absurd z (by omega), fun _ => ⟨by omega, 0, by decide, ac_failT (Or.inr ⟨_, rfl, q5 c⟩)⟩⟩
  · rw [t2, ← t1]
    exact ⟨by omega, fun z => absurd z c2, fun _ => ⟨by omega, 0, by decide, ac_failT (Or.inr ⟨_, rfl, q0 c c1⟩)⟩⟩
theorem Pq.n0 (h : Pq κ σ N) {c : Nat} (hc : kI κ 72 7 = nI c) (h1 : 1 < c) (h2 : c < 300) : pC κ < N := h.lt (by rw [hc]; exact nI_ne (b := 0) (by omega) (by omega) (by omega)) (by rw [hc]; exact nI_ne (b := 1) (by omega) (by omega) (by omega))
/-- what does not touch the tokens, the code or the counts -/
theorem Pq.fr (h : Pq κ σ N) (e72 : kI κ' 72 = kI κ 72) (e74 : kI κ' 74 = kI κ 74) (e75 : kI κ' 75 = kI κ 75) (e76 : kL κ' 76 = kL κ 76) (ew : kW κ' 74 = kW κ 74 ∧ kW κ' 75 = kW κ 75 ∧ kW κ' 76 = kW κ 76) (e77 : kI κ' 77 4 = kI κ 77 4) (e68 : kI κ' 68 = kI κ 68) (w69 : kW κ' 69 = kW κ 69 ∧ kW κ' 70 = kW κ 70) (f5 : aI σ' 5 = aI σ 5) (f6 : aI σ' 6 = aI σ 6) (f7 : aI σ' 7 = aI σ 7) (f8 : aI σ' 8 = aI σ 8) (f9 : aL σ' 9 = aL σ 9) (s : ∀ k, k = 10 ∨ k = 12 ∨ k = 17 ∨ k = 29 ∨ k = 34 ∨ k = 41 ∨ k = 35 ∨ k = 36 → sI σ' k = sI σ k) (s44 : sI σ' 44 = nI (rU σ')) : Pq κ' σ' N ∧ pC κ' = pC κ ∧ oC κ' = oC κ ∧ iC κ' = iC κ ∧ rJ σ' = rJ σ ∧ rA σ' = rA σ ∧ rT σ' = rT σ ∧ rC σ' = rC σ ∧ rK σ' = rK σ ∧ rE σ' = rE σ := by
  have n1 : pC κ' = pC κ := by unfold pC; rw [e72]
  have n2 : oC κ' = oC κ := by unfold oC; rw [e77]
  have n3 : iC κ' = iC κ := by unfold iC; rw [e68]
  have n4 : rJ σ' = rJ σ := by unfold rJ; rw [s 17 (by decide)]
  have n6 : rA σ' = rA σ := by unfold rA; rw [s 41 (by decide)]
  have n7 : rT σ' = rT σ := by unfold rT; rw [s 29 (by decide)]
  have n8 : rC σ' = rC σ := by unfold rC; rw [s 34 (by decide)]
  have n10 : rK σ' = rK σ := by unfold rK; rw [s 35 (by decide)]
  have n11 : rE σ' = rE σ := by unfold rE; rw [s 36 (by decide)]
  refine ⟨⟨h.1.fr e74 e75 e76 ew (by rw [e72]) f5 f6 f7 f8 f9, ?_⟩, n1, n2, n3, n4, n6, n7, n8, n10, n11⟩
  obtain ⟨b1, b2, b3, b4, b5, b6, b7, b8, b9, b10, b11, b12, b13, b14, b15, b16, b17⟩ := h.2
  unfold PB
  rw [n1, n2, n3, n4, n6, n7, n8, n10, n11, e72, e74, e75, e77, e68, w69.1, w69.2, s 10 (by decide), s 12 (by decide), s 17 (by decide), s 29 (by decide), s 34 (by decide), s 41 (by decide), s 35 (by decide), s 36 (by decide)]
  exact ⟨b1, b2, b3, b4, b5, b6, b7, b8, b9, b10, b11, b12, b13, s44, b15, b16, b17⟩
theorem Pq.next (h : Pq κ σ N) (hp : pC κ < N) : Pq (setC κ (pC κ + 1)) (wS σ 10 (nI (pC κ + 1))) N ∧ Nu (setC κ (pC κ + 1)) (wS σ 10 (nI (pC κ + 1))) (pC κ + 1) (oC κ) (iC κ) (rJ σ) (rU σ) (rA σ) (rT σ) (rC σ) (rV σ) (rK σ) (rE σ) := by
  obtain ⟨hA, hB⟩ := h
  have hN : N ≤ 3000 := hA.2.2.2.1
  have e5 : kI (setC κ (pC κ + 1)) 72 5 = kI κ 72 5 := setC_nk (by decide) (by decide) (by decide)
  have ep : pC (setC κ (pC κ + 1)) = pC κ + 1 := cl_set (by omega)
  have e77 : kI (setC κ (pC κ + 1)) 77 = kI κ 77 := setC_ne (by decide)
  have e68 : kI (setC κ (pC κ + 1)) 68 = kI κ 68 := setC_ne (by decide)
  have s : ∀ k, k ≠ 10 → sI (wS σ 10 (nI (pC κ + 1))) k = sI σ k := fun k hk => sI_ne hk
  have a : ∀ k, k ≠ 10 → aI (wS σ 10 (nI (pC κ + 1))) k = aI σ k := fun k hk => aI_ne hk
  have kf := setC_kf (κ := κ) (p := pC κ + 1)
  have nu : Nu (setC κ (pC κ + 1)) (wS σ 10 (nI (pC κ + 1))) (pC κ + 1) (oC κ) (iC κ) (rJ σ) (rU σ) (rA σ) (rT σ) (rC σ) (rV σ) (rK σ) (rE σ) := by
    refine ⟨ep, ?_, ?_, ?_, ?_, ?_, ?_, ?_, ?_, ?_, ?_⟩
    · unfold oC; rw [e77]
    · unfold iC; rw [e68]
    all_goals (first | (unfold rJ; rw [s _ (by decide)]) | (unfold rU; rw [s _ (by decide)]) | (unfold rA; rw [s _ (by decide)]) | (unfold rT; rw [s _ (by decide)]) | (unfold rC; rw [s _ (by decide)]) | (unfold rV; rw [s _ (by decide)]) | (unfold rK; rw [s _ (by decide)]) | (unfold rE; rw [s _ (by decide)]))
  refine ⟨⟨hA.fr (kf.1 74 (by decide)).1 (kf.1 75 (by decide)).1 (kf.1 76 (by decide)).2.1 ⟨(kf.1 74 (by decide)).2.2, (kf.1 75 (by decide)).2.2, (kf.1 76 (by decide)).2.2⟩ e5 (a 5 (by decide)) (a 6 (by decide)) (a 7 (by decide)) (a 8 (by decide)) rfl, ?_⟩, nu⟩
  obtain ⟨b1, b2, b3, b4, b5, b6, b7, b8, b9, b10, b11, b12, b13, b14, b15, b16, b17⟩ := hB
  obtain ⟨n1, n2, n3, n4, n5, n6, n7, n8, n9, n10, n11⟩ := nu
  unfold PB
  rw [n1, n2, n3, n4, n5, n6, n7, n8, n10, n11, e77, e68, setC_cur.1, setC_cur.2.1, setC_cur.2.2, setC_ne (by decide), setC_ne (by decide), s 12 (by decide), s 17 (by decide), s 29 (by decide), s 34 (by decide), s 44 (by decide), s 41 (by decide), s 35 (by decide), s 36 (by decide)]
  exact ⟨rfl, rfl, rfl, sI_eq, by omega, b6, b7, b8, b9, b10, b11, b12, b13, b14, b15, b16, b17⟩
/-- the first body with a name -/
def FstB (κ : Km) (n : Nat) (v : Int64) (y : Int32) : Prop := (∃ i, i < n ∧ y = nI i ∧ kL κ (1000 + 8 * i) 1 = v ∧ ∀ u, u < i → kL κ (1000 + 8 * u) 1 ≠ v) ∨ (y = -9 ∧ ∀ u, u < n → kL κ (1000 + 8 * u) 1 ≠ v)
theorem sf_loop {F : Int32 → Km → Prop} {n d : Nat} {v : Int64} (hn : kI κ 67 2 = nI n) (h12 : n ≤ 12) (hB : n ≤ kB κ) (q : ∀ y, FstB κ n v y → F y κ) : ∀ (m i : Nat), i + m = n → (∀ u, u < i → kL κ (1000 + 8 * u) 1 ≠ v) → K X d MX7_find 2 [(0, vR 67), (1, vL v), (3, vI (nI i))] [] κ (kRI F) := by
  intro m
  induction m with
  | zero =>
    intro i hi hu
    refine k_7_find_2 _ _ ?_
    rw [hn, le_nI (by omega) (by omega)]
    exact ⟨fun _ => k_7_find_47 _ _ ⟨_, rfl, q _ (Or.inr ⟨rfl, fun u hu' => hu u (by omega)⟩)⟩, fun z => absurd (by omega) z⟩
  | succ m ih =>
    intro i hi hu
    refine k_7_find_2 _ _ ?_
    rw [hn, le_nI (by omega) (by omega), litI 12, le_nI (by omega) (by omega), vpn (by omega), cl_nI (by omega), if_pos (by omega)]
    refine ⟨fun z => absurd z (by omega), fun _ => ⟨fun z => absurd z (by omega), fun _ => ⟨by omega, Or.inr (isH_body (by omega)).1, fun z => absurd z (by omega), fun _ => ⟨by omega, isH_body (by omega), ?_⟩⟩⟩⟩
    rw [lg0]
    refine ⟨fun z => ⟨_, rfl, q _ (Or.inl ⟨i, by omega, rfl, z, hu⟩)⟩, fun z => k_7_find_41 _ _ ?_⟩
    rw [nI_1]
    refine ih (i + 1) (by omega) (fun u hu' => ?_)
    by_cases e : u = i
    · rw [e]; exact z
    · exact hu u (by omega)
theorem kc_sfind {F : Int32 → Km → Prop} {n : Nat} {v : Int64} (hn : kI κ 67 2 = nI n) (h12 : n ≤ 12) (hB : n ≤ kB κ) (q : ∀ y, FstB κ n v y → F y κ) : KC' X 0 MX7_find [vR 67, vL v] κ (kRI F) :=
  KC_of_K rfl (Nat.le_of_ble_eq_true rfl) rfl (k_7_find_0 _ (sf_loop (d := 0) hn h12 hB q n 0 (by omega) (fun u hu => absurd hu (Nat.not_lt_zero _))))
/-- a wrong name is noted -/
def nt (κ : Km) (f : Nat) : Km := if kI κ 67 3 = -9 ∨ ¬ kI κ 67 3 ≤ nI f then cI κ 67 3 (nI f) else κ
theorem kc_note {F : Km → Prop} {f : Nat} (q : F (nt κ f)) : KC' X 0 MX7_noteWrongName [vR 67, vI (nI f)] κ (kRV F) := by
  unfold nt at q
  refine KC_of_K rfl (Nat.le_of_ble_eq_true rfl) rfl (k_7_noteWrongName_0 _ ⟨fun c => k_7_noteWrongName_17 _ ?_, fun c => ⟨fun c2 => k_7_noteWrongName_22 _ ⟨rfl, ?_⟩, fun c2 => k_7_noteWrongName_17 _ ?_⟩⟩)
  · rintro κ1 rfl
    rw [if_pos (Or.inl c)] at q
    exact k_7_noteWrongName_22 _ ⟨rfl, q⟩
  · rw [if_neg (fun z => z.elim c (fun z => z c2))] at q
    exact q
  · rintro κ1 rfl
    rw [if_pos (Or.inr c2)] at q
    exact k_7_noteWrongName_22 _ ⟨rfl, q⟩
theorem nt_fN {f : Nat} (h : kI κ 67 3 = -9 ∨ ∃ g, g < 3001 ∧ kI κ 67 3 = nI g) (hf : f < 3001) : fN (kI (nt κ f) 67 3) = min (fN (kI κ 67 3)) f ∧ (∃ g, g < 3001 ∧ kI (nt κ f) 67 3 = nI g) := by
  unfold nt
  rcases h with h | ⟨g, hg, h⟩
  · rw [if_pos (Or.inl h), kI_eq, h, fN_neg, fN_nI (by omega)]
    exact ⟨by omega, f, hf, rfl⟩
  · by_cases c : g ≤ f
    · rw [if_neg (fun z => z.elim (fun z => by
        rw [h, show (-9 : Int32) = -nI 9 by decide, neg_eq (a := g) (b := 9) (by omega) (by decide) (by decide)] at z
        exact z) (fun z => z (by rw [h, le_nI (by omega) (by omega)]; exact c))), h, fN_nI (by omega)]
      exact ⟨by omega, g, hg, rfl⟩
    · rw [if_pos (Or.inr (by rw [h, le_nI (by omega) (by omega)]; exact c)), kI_eq, h, fN_nI (by omega), fN_nI (by omega)]
      exact ⟨by omega, f, hf, rfl⟩
theorem nt_kf {f : Nat} : KF (fun h => h = 67) κ (nt κ f) ∧ RG κ (nt κ f) ∧ ∀ k, k ≠ 3 → kI (nt κ f) 67 k = kI κ 67 k := by
  unfold nt
  split
  · exact ⟨KF.cI rfl, RG.cI, fun k hk => kI_nk hk⟩
  · exact ⟨KF.refl, RG.refl, fun _ _ => rfl⟩
end PQ
