/-! patches; blocks inside statements -/
section PAT
variable {X : Cx} {N b P : Nat} {κ κ1 κ2 κ' : Km} {σ σ1 σ2 σ' : Rm}
theorem kc_csize {F : Int32 → Km → Prop} (h : Ps κ σ N b P) (q : F (nI (iC κ)) κ) : KC' X 0 MX1_size [vR 68] κ (kRI F) := KC_of_K rfl (Nat.le_of_ble_eq_true rfl) rfl (k_1_size_0 ⟨_, rfl, by rw [h.2.2.2.2.2.2.2.2.2.1]; exact q⟩)
theorem kc_patch {F : Km → Prop} {k : Nat} {v : Int32} (h : Ps κ σ N b P) (hk : k < iC κ) (hi : iC κ < 20000) (q : F (cI κ 70 k v)) : KC' X 0 MX1_patch [vR 68, vI (nI k), vI v] κ (kRV F) := by
  obtain ⟨w, w1, w2, w3, w4, w5⟩ := h.2.2.2.2.2.2.2.2.2.2.1
  refine KC_of_K rfl (Nat.le_of_ble_eq_true rfl) rfl (k_1_patch_0 _ _ ⟨fun z => absurd z (nI_pos (by omega)), fun _ => ?_⟩)
  rw [h.2.2.2.2.2.2.2.2.2.1, le_nI (by omega) (by omega), w2, vpn (by omega), cl_nI (by omega)]
  refine ⟨fun z => absurd z (by omega), fun _ => ⟨by omega, ?_⟩⟩
  rintro κ4 rfl
  exact k_1_patch_19 _ _ ⟨rfl, q⟩
theorem Ps.pk {k : Nat} {v : Int32} (h : Ps κ σ N b P) : Ps (cI κ 70 k v) σ N b P ∧ T0 b κ σ (cI κ 70 k v) σ ∧ Nu (cI κ 70 k v) σ (pC κ) (oC κ) (iC κ) (rJ σ) (rU σ) (rA σ) (rT σ) (rC σ) (rV σ) (rK σ) (rE σ) := by
  have kf : KF hE κ (cI κ 70 k v) := KF.cI (by decide)
  have c : ∀ h, h ≠ 70 → kI (cI κ 70 k v) h = kI κ h := fun h hh => kI_ne hh
  have nu : Nu (cI κ 70 k v) σ (pC κ) (oC κ) (iC κ) (rJ σ) (rU σ) (rA σ) (rT σ) (rC σ) (rV σ) (rK σ) (rE σ) := by
    refine ⟨?_, ?_, ?_, rfl, rfl, rfl, rfl, rfl, rfl, rfl, rfl⟩
    · unfold pC; rw [c _ (by decide)]
    · unfold oC; rw [c _ (by decide)]
    · unfold iC; rw [c _ (by decide)]
  refine ⟨⟨h.1.fr kf (by rw [c _ (by decide)]) AF.refl (by rw [nu.1]; exact Nat.le_refl _), ?_⟩, ⟨Tf.fr h.1.2.2.2.1 kf RG.cI (by rw [c _ (by decide)]), AF.refl, Tn.fr h.1.2.2.2.1 kf AF.refl (by rw [c _ (by decide)]), by rw [nu.2.2.1]; exact Nat.le_refl _, Nat.le_refl _, Nat.le_refl _, Nat.le_refl _, Nat.le_refl _, Nat.le_refl _⟩, nu⟩
  obtain ⟨b1, b2, b3, b4, b5, b6, b7, b8, b9, b10, b11⟩ := h.2
  unfold PB
  rw [nu.1, nu.2.1, nu.2.2.1]
  simp (disch := decide) only [c]
  exact ⟨b1, b2, b3, b4, b5, b6, b7, b8, b9, b10, b11⟩
theorem Ps.pr {k f : Nat} {v : Int32} (h : Ps κ σ N b P) (hf : f = 14 ∨ f = 16 ∨ f = 27 ∨ f = 28 ∨ f = 30 ∨ f = 31 ∨ f = 32 ∨ f = 33 ∨ f = 45) : Ps κ (wI σ f k v) N b P ∧ T0 b κ σ κ (wI σ f k v) ∧ Nu κ (wI σ f k v) (pC κ) (oC κ) (iC κ) (rJ σ) (rU σ) (rA σ) (rT σ) (rC σ) (rV σ) (rK σ) (rE σ) := by
  have af : AF qE σ (wI σ f k v) := AF.wI (by unfold qE; omega)
  have s : ∀ g, g ≠ f → sI (wI σ f k v) g = sI σ g := fun g hg => sI_ne hg
  have nu : Nu κ (wI σ f k v) (pC κ) (oC κ) (iC κ) (rJ σ) (rU σ) (rA σ) (rT σ) (rC σ) (rV σ) (rK σ) (rE σ) := by
    unfold Nu rJ rU rA rT rC rV rK rE
    rw [s 17 (by omega), s 44 (by omega), s 41 (by omega), s 29 (by omega), s 34 (by omega), s 25 (by omega), s 35 (by omega), s 36 (by omega)]
    exact ⟨rfl, rfl, rfl, rfl, rfl, rfl, rfl, rfl, rfl, rfl, rfl⟩
  refine ⟨⟨h.1.fr KF.refl rfl af (Nat.le_refl _), ?_⟩, ⟨Tf.refl, af.weak (fun k hk => Or.inl hk), Tn.fr h.1.2.2.2.1 KF.refl af rfl, Nat.le_refl _, ?_, ?_, ?_, ?_, ?_⟩, nu⟩
  · obtain ⟨b1, b2, b3, b4, b5, b6, b7, b8, b9, b10, b11, b12, b13, b14, b15, b16, b17⟩ := h.2
    obtain ⟨n1, n2, n3, n4, n5, n6, n7, n8, n9, n10, n11⟩ := nu
    unfold PB
    rw [n4, n5, n6, n7, n8, n10, n11, s 10 (by omega), s 12 (by omega), s 17 (by omega), s 44 (by omega), s 41 (by omega), s 29 (by omega), s 34 (by omega), s 35 (by omega), s 36 (by omega)]
    exact ⟨b1, b2, b3, b4, b5, b6, b7, b8, b9, b10, b11, b12, b13, b14, b15, b16, b17⟩
  · rw [nu.2.2.2.1]; exact Nat.le_refl _
  · rw [nu.2.2.2.2.2.2.1]; exact Nat.le_refl _
  · rw [nu.2.2.2.2.2.2.2.1]; exact Nat.le_refl _
  · rw [nu.2.2.2.2.1]; exact Nat.le_refl _
  · rw [nu.2.2.2.2.2.1]; exact Nat.le_refl _
/-- nothing -/
def zK : Km := (fun _ _ => 0, fun _ _ => 0, fun _ => 0, 0, 0, 0, 0, 0)
def zR : Rm := (fun _ _ => 0, fun _ _ => 0)
/-- all that was there is there -/
abbrev Bel (κ : Km) (σ : Rm) (κ' : Km) (σ' : Rm) : Prop := Agr zK zR κ σ κ' σ'
theorem Bel.tr (t0 : T0 b κ σ κ' σ') (ag : Bel κ σ κ' σ') : Tr b κ σ κ' σ' := by
  obtain ⟨t1, t2, t3, t4, t5, t6, t7, t8, t9⟩ := t0
  obtain ⟨g1, g2, g3, g4, g5, g6⟩ := ag
  refine ⟨t1, t2, ⟨t4, t5, t6, t7, t8, t9, fun k hk => g1 k (Nat.zero_le _) hk, fun k hk => g2 k (Nat.zero_le _) hk, fun k hk => g3 k (Nat.zero_le _) hk, fun k hk => g4 k (Nat.zero_le _) hk, fun k hk => g5 k (Nat.zero_le _) hk, fun k hk => g6 k (Nat.zero_le _) hk⟩, t3⟩
/-- catches of tries, in the end's rows -/
def TcA (σ' : Rm) (c0 c1 t0 t1 : Nat) : Prop := ∀ c, c0 ≤ c → c < c1 → ∃ t, aI σ' 45 c = nI t ∧ t0 ≤ t ∧ t < t1 ∧ t < 1000
theorem Tc.a (h : Tc σ1 σ2) (ag : Agr κ1 σ1 κ2 σ2 κ' σ') : TcA σ' (rC σ1) (rC σ2) (rT σ1) (rT σ2) := fun c h1 h2 => by
  obtain ⟨t, t1, t2, t3, t4⟩ := h c h1 h2
  exact ⟨t, (ag.2.2.2.2.2 c h1 h2).2.2.2.2.trans t1, t2, t3, t4⟩
theorem TcA.app {c0 c1 c2 t0 t1 t2 : Nat} (x : TcA σ' c0 c1 t0 t1) (y : TcA σ' c1 c2 t1 t2) (ht : t0 ≤ t1) (ht2 : t1 ≤ t2) : TcA σ' c0 c2 t0 t2 := fun c h1 h2 => by
  by_cases z : c < c1
  · obtain ⟨t, a1, a2, a3, a4⟩ := x c h1 z
    exact ⟨t, a1, a2, by omega, a4⟩
  · obtain ⟨t, a1, a2, a3, a4⟩ := y c (by omega) h2
    exact ⟨t, a1, by omega, a3, a4⟩
theorem TcA.isoL {c0 c1 c2 t0 t1 t2 : Nat} (y : TcA σ' c1 c2 t1 t2) : ∀ c t, c0 ≤ c → c < c2 → t < 1000 → aI σ' 45 c = nI t → t0 ≤ t → t < t1 → c0 ≤ c ∧ c < c1 := fun c t h1 h2 ht e a1 a2 => by
  by_cases z : c < c1
  · exact ⟨h1, z⟩
  · obtain ⟨t', e1, e2, e3, e4⟩ := y c (by omega) h2
    have := (nI_eq (a := t) (b := t') (by omega) (by omega)).mp (e.symm.trans e1)
    omega
theorem TcA.isoR {c0 c1 c2 t0 t1 t2 : Nat} (x : TcA σ' c0 c1 t0 t1) : ∀ c t, c0 ≤ c → c < c2 → t < 1000 → aI σ' 45 c = nI t → t1 ≤ t → t < t2 → c1 ≤ c ∧ c < c2 := fun c t h1 h2 ht e a1 a2 => by
  by_cases z : c < c1
  · obtain ⟨t', e1, e2, e3, e4⟩ := x c h1 z
    have := (nI_eq (a := t) (b := t') (by omega) (by omega)).mp (e.symm.trans e1)
    omega
  · exact ⟨by omega, h2⟩
/-- an act of each of one's own -/
theorem own {κF : Km} {σF : Rm} {vr br : Nat → Nat → Prop} {k j : Nat} {a op x y z w : Int32} (he : Ext κF σF vr br b κ σ κ' σ') (k1 : iC κ ≤ k) (k2 : k < iC κ') (j1 : rJ σ ≤ j) (j2 : j < rJ σ') (ea : kI κ' 69 k = a) (ex : kI κ' 70 k = x) (eo : aI σ' 13 j = op) (ey : aI σ' 14 j = y) (ez : aI σ' 15 j = z) (ew : aI σ' 16 j = w) (na : a ≠ 2 ∧ a ≠ 3 ∧ a ≠ 23 ∧ a ≠ 24) (no : op ≠ 2 ∧ op ≠ 16 ∧ op ≠ 20) : kI κF 69 k = a ∧ nI k < kI κF 68 2 ∧ kI κF 70 k = x ∧ aI σF 13 j = op ∧ aI σF 14 j = y ∧ aI σF 15 j = z ∧ aI σF 16 j = w := by
  have x1 := he.1 k k1 k2
  have x2 := he.2.1 j j1 j2
  rw [ea, ex] at x1
  rw [eo, ey, ez, ew] at x2
  exact ⟨x1.1, x1.2.1, x1.2.2.1 na.1 na.2.1 na.2.2.1 na.2.2.2, x2.1, x2.2.2.2 no.1 no.2.1 no.2.2, x2.2.1, x2.2.2.1⟩
section UP
variable {i0 i1 j0 j1 u0 u1 a0 a1 v0 v1 : Nat}
/-- an argument that names nothing is patched -/
theorem UsA.pk {k : Nat} {v a : Int32} (h : UsA N κ σ i0 i1 j0 j1 u0 u1 a0 a1 v0 v1) (hk : kI κ 69 k = a) (ha : a ≠ 2 ∧ a ≠ 3 ∧ a ≠ 23 ∧ a ≠ 24) : UsA N (cI κ 70 k v) σ i0 i1 j0 j1 u0 u1 a0 a1 v0 v1 :=
  h.rows (fun q _ _ => ⟨by rw [kI_ne (by decide)], fun z => kI_nk (fun e => by
    rw [e, hk] at z
    rcases z with z | z | z | z
    · exact ha.1 z
    · exact ha.2.1 z
    · exact ha.2.2.1 z
    · exact ha.2.2.2 z)⟩) (fun _ _ _ => rfl) (fun _ _ _ => ⟨rfl, rfl⟩) (fun _ _ _ => ⟨rfl, rfl, rfl⟩) (fun _ _ => rfl) (kI_ne (by decide)) rfl
theorem UsA.pw {k f : Nat} {v : Int32} (h : UsA N κ σ i0 i1 j0 j1 u0 u1 a0 a1 v0 v1) (hf : f ≠ 13 ∧ f ≠ 42 ∧ f ≠ 43 ∧ f ≠ 38 ∧ f ≠ 39 ∧ f ≠ 40) : UsA N κ (wI σ f k v) i0 i1 j0 j1 u0 u1 a0 a1 v0 v1 :=
  h.rows (fun _ _ _ => ⟨rfl, fun _ => rfl⟩) (fun _ _ _ => by rw [aI_ne (by omega)]) (fun _ _ _ => by rw [aI_ne (by omega), aI_ne (by omega)]; exact ⟨rfl, rfl⟩) (fun _ _ _ => by rw [aI_ne (by omega), aI_ne (by omega), aI_ne (by omega)]; exact ⟨rfl, rfl, rfl⟩) (fun _ _ => rfl) rfl rfl
/-- names: a statement up to the end of its first block -/
theorem pre_us {a : Int32} {κc κk κb : Km} {σc σk σb : Rm} (w3 : iC κ1 = iC κ + 1) (w4 : rJ σ ≤ rJ σ1) (w5 : rU σ1 = rU σ) (w6 : rA σ1 = rA σ) (us1 : UsA N κc σc (iC κ1) (iC κc) (rJ σ1) (rJ σc) (rU σ1) (rU σc) (rA σ1) (rA σc) 0 0) (tE : Tr b κ1 σ1 κc σc) (tKB : Tr b κc σc κb σb) (n3 : iC κk = iC κc + 1) (n4 : rJ σc ≤ rJ σk) (n5 : rU σk = rU σc) (n6 : rA σk = rA σc) (n9 : rV σk = rV σ) (blk : ST N b P 0 κk σk κb σb) (e1 : kI κb 69 (iC κ) = 20) (e2 : kI κb 69 (iC κc) = a) (ha : a ≠ 2 ∧ a ≠ 3 ∧ a ≠ 23 ∧ a ≠ 24) : UsA N κb σb (iC κ) (iC κb) (rJ σ) (rJ σb) (rU σ) (rU σb) (rA σ) (rA σb) (rV σ) (rV σb) := by
  obtain ⟨b1, b2, b3, b4, b5, b6, -⟩ := tE.2.2.1
  have c9 := blk.2.1.2.2.2.2.2.2.1
  obtain ⟨c1, c2, c3, c4, c5, c6, -⟩ := blk.2.1.2.2.1
  have x1 := (UsA.nil (N := N) (κ := κb) (σ := σb) (i0 := iC κ) (j0 := rJ σ) (j1 := rJ σ1) (u0 := rU σ) (a0 := rA σ) (v := rV σ)).act (j2 := rJ σ1) e1 (by decide) ⟨rfl, Nat.le_refl _, Nat.le_refl _, Nat.le_refl _, Nat.le_refl _, Nat.le_refl _, w4⟩
  have x2 := x1.app ((us1.step tKB ⟨Nat.le_refl _, Nat.le_refl _, Nat.le_refl _, Nat.le_refl _, Nat.zero_le _⟩).v (v := rV σ)) ⟨w3, w5, w6, rfl, w4, Nat.le_refl _, b2, by omega, by omega, by omega, by omega, by omega, by omega, Nat.le_refl _, Nat.le_refl _⟩
  have x3 := x2.act (j2 := rJ σk) e2 ha ⟨rfl, n4, by omega, by omega, by omega, Nat.le_refl _, by omega⟩
  exact x3.app blk.2.2.1.2 ⟨n3, n5, n6, n9, by omega, Nat.le_refl _, c2, by omega, by omega, by omega, by omega, by omega, by omega, Nat.le_refl _, by omega⟩
/-- the same of each, whose variable is stored -/
theorem pre_us2 {t v : Nat} {κc κk κb : Km} {σc σk σb : Rm} (w3 : iC κ1 = iC κ + 1) (w4 : rJ σ ≤ rJ σ1) (w5 : rU σ1 = rU σ) (w6 : rA σ1 = rA σ) (us1 : UsA N κc σc (iC κ1) (iC κc) (rJ σ1) (rJ σc) (rU σ1) (rU σc) (rA σ1) (rA σc) 0 0) (tE : Tr b κ1 σ1 κc σc) (tKB : Tr b κc σc κb σb) (n3 : iC κk = iC κc + 2) (n4 : rJ σc ≤ rJ σk) (n5 : rU σk = rU σc) (n6 : rA σk = rA σc) (blk : ST N b P 0 κk σk κb σb) (e1 : kI κb 69 (iC κ) = 20) (e2 : kI κb 69 (iC κc) = 30) (e3 : kI κb 69 (iC κc + 1) = 3 ∧ kI κb 70 (iC κc + 1) = -1 - nI t) (dn : t ≤ N ∧ kI κb 74 t = 2 ∧ v < rV σk ∧ aL σb 24 v = aL σb 9 t) (hn : rV σ ≤ rV σk ∧ rV σk ≤ rV σ + 1 ∧ (rV σk = rV σ + 1 → v = rV σ)) : UsA N κb σb (iC κ) (iC κb) (rJ σ) (rJ σb) (rU σ) (rU σb) (rA σ) (rA σb) (rV σ) (rV σb) := by
  obtain ⟨b1, b2, b3, b4, b5, b6, -⟩ := tE.2.2.1
  have c9 := blk.2.1.2.2.2.2.2.2.1
  obtain ⟨c1, c2, c3, c4, c5, c6, -⟩ := blk.2.1.2.2.1
  obtain ⟨d1, d2, d3, d4⟩ := dn
  have x1 := (UsA.nil (N := N) (κ := κb) (σ := σb) (i0 := iC κ) (j0 := rJ σ) (j1 := rJ σ1) (u0 := rU σ) (a0 := rA σ) (v := rV σ)).act (j2 := rJ σ1) e1 (by decide) ⟨rfl, Nat.le_refl _, Nat.le_refl _, Nat.le_refl _, Nat.le_refl _, Nat.le_refl _, w4⟩
  have x2 := x1.app ((us1.step tKB ⟨Nat.le_refl _, Nat.le_refl _, Nat.le_refl _, Nat.le_refl _, Nat.zero_le _⟩).v (v := rV σ)) ⟨w3, w5, w6, rfl, w4, Nat.le_refl _, b2, by omega, by omega, by omega, by omega, by omega, by omega, Nat.le_refl _, Nat.le_refl _⟩
  have x3 := x2.act (j2 := rJ σk) e2 (by decide) ⟨rfl, n4, by omega, by omega, by omega, Nat.le_refl _, by omega⟩
  have x4 := x3.sto (j2 := rJ σk) (v2 := rV σk) e3.1 e3.2 d1 d2 d3 d4 ⟨hn.2.1, hn.2.2⟩ ⟨rfl, Nat.le_refl _, by omega, by omega, by omega, Nat.le_refl _, by omega, hn.1⟩
  exact x4.app blk.2.2.1.2 ⟨n3, n5, n6, rfl, by omega, Nat.le_refl _, c2, by omega, by omega, by omega, by omega, by omega, by omega, by omega, by omega⟩
end UP
/-- the condition of both -/
theorem test_core {m d0 : Nat} {F : Int32 → Km → Prop} (hs : SpE X N b P m) (h : Ps κ σ N b P) (hb : Bdd κ σ) (hm : N + 1 - pC κ ≤ m + 1) (hd0 : dU (oC κ) ≤ d0 + 2)
    (q1 : ∀ κ' σ', ES1 N b P (6 * oC κ + 3) 0 1 κ σ κ' σ' → De κ σ κ' σ' → (∀ d : Nat, dU (oC κ) ≤ d → ACR X 92 d MX13_readTest [vR 92] σ (.inl none) σ') → F 1 κ')
    (q0 : ∀ κ' σ', Flt b κ σ (9010 + 4 * (24 - oC κ)) κ' σ' → (∀ d : Nat, dU (oC κ) ≤ d → ACR X 92 d MX13_readTest [vR 92] σ (.inr 93) σ') → F 0 κ') : KC' X d0 MX5_readCondition [vR 77] κ (kRI F) := by
  have ho2 : oC κ ≤ 24 := h.2.2.2.2.2.2.2.2.1
  have bi := hb.i h
  have get : ∀ (d : Nat) (r : Res) (s : Rm), AC X 92 d MX13_readTest [vR 92] σ (fun r' s' => r' = r ∧ s' = s) → ACR X 92 d MX13_readTest [vR 92] σ r s := fun d r s ⟨r', s', h1, h2, h3⟩ => by rw [← h2, ← h3]; exact h1
  refine cond_core hs h hb hm hd0 (fun κ' σ' c es de ref => q1 κ' σ' es de (fun d hd => get d _ _ (AC_of_A rfl (Nat.le_of_ble_eq_true rfl) rfl (a_readTest_0 ⟨0, by simp only [dU] at hd; omega, ac_isSign h (by decide) (fun _ => ⟨fun z => absurd z (by decide), fun _ => a_readTest_22 (ref d _ _ (by simp only [dU] at hd ⊢; omega) ⟨rfl, rfl⟩)⟩) (fun z => absurd c z)⟩)))) (fun κ' σ' c fl ref => q0 κ' σ' fl (fun d hd => get d _ _ (AC_of_A rfl (Nat.le_of_ble_eq_true rfl) rfl (a_readTest_0 ⟨0, by simp only [dU] at hd; omega, ac_isSign h (by decide) (fun _ => ⟨fun z => absurd z (by decide), fun _ => a_readTest_22 (ref d _ _ (by simp only [dU] at hd ⊢; omega) ⟨rfl, rfl⟩)⟩) (fun z => absurd c z)⟩)))) (fun c => q0 _ _ (Flt.at h (by omega)) (fun d hd => get d _ _ (AC_of_A rfl (Nat.le_of_ble_eq_true rfl) rfl (a_readTest_0 ⟨0, by simp only [dU] at hd; omega, ac_isSign h (by decide) (fun z => absurd z c) (fun _ => ⟨fun _ => ?_, fun z => absurd rfl z⟩)⟩))))
  obtain ⟨f, t, g1, g2, -⟩ := h.tok
  have hp := h.p3
  rw [h.2.2.2.2.1, vpn (by omega), cl_nI (by omega), g2, ← g1]
  exact ⟨by omega, 0, by simp only [dU] at hd; omega, ac_failT ⟨rfl, rfl⟩⟩
end PAT
