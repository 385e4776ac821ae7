/-! the cursor -/
/-- the class stands at token p -/
def setC (κ : Km) (p : Nat) : Km := cI (cI (cI κ 72 6 (nI p)) 72 7 (kI κ 74 p)) 72 8 (kI κ 75 p)
def Cur (κ : Km) (p : Nat) : Prop := kI κ 72 6 = nI p ∧ kI κ 72 7 = kI κ 74 p ∧ kI κ 72 8 = kI κ 75 p
theorem setC_cur {κ : Km} {p : Nat} : Cur (setC κ p) p := by
  unfold Cur setC
  simp (disch := omega) only [kI_eq, kI_ne, kI_nk, kL_eq, kL_ne, kL_nk, aI_eq, aI_ne, aI_ni, sI_eq, sI_ne, aL_eq, aL_ne, aL_ni, aL_w, aI_w, sI_w, kI_w, kL_w, kW_i, kW_l, kB_i, kB_l, kV_i, kV_l, kC_i, kC_l, kI_c, kL_c, kW_c, kB_c, kC_c, and_self]
theorem setC_ne {κ : Km} {p h : Nat} (hh : h ≠ 72) : kI (setC κ p) h = kI κ h := by
  unfold setC
  rw [kI_ne hh, kI_ne hh, kI_ne hh]
theorem setC_nk {κ : Km} {p k : Nat} (h6 : k ≠ 6) (h7 : k ≠ 7) (h8 : k ≠ 8) : kI (setC κ p) 72 k = kI κ 72 k := by
  unfold setC
  rw [kI_nk h8, kI_nk h7, kI_nk h6]
theorem setC_kf {κ : Km} {p : Nat} : KF (fun h => h = 72) κ (setC κ p) := ((KF.cI (H := fun h => h = 72) rfl).trans (KF.cI (H := fun h => h = 72) rfl)).trans (KF.cI (H := fun h => h = 72) rfl)
theorem setC_rg {κ : Km} {p : Nat} : RG κ (setC κ p) := (RG.cI.trans RG.cI).trans RG.cI
theorem setC_TW {κ : Km} {p m : Nat} (h : TW κ m) : TW (setC κ p) m := by
  obtain ⟨w, h1, h2⟩ := h
  exact ⟨w, by rw [setC_nk (by decide) (by decide) (by decide)]; exact h1, h2⟩
theorem kn_27 {X : Cx} {d : Nat} {κ : Km} {F : Km → Prop} {p m : Nat} (h : TW κ m) (hp : p < m) (q : F (setC κ p)) : K X d MX9_next 27 [(0, vR 72)] [vI (nI p), vR 72] κ (kRV F) := by
  obtain ⟨w, h1, h2, h3, h4, h5, h6, h7⟩ := h
  refine k_9_next_27 _ ?_
  rintro κ1 rfl
  simp (disch := omega) only [kI_eq, kI_ne, kI_nk, kL_eq, kL_ne, kL_nk, aI_eq, aI_ne, aI_ni, sI_eq, sI_ne, aL_eq, aL_ne, aL_ni, aL_w, aI_w, sI_w, kI_w, kL_w, kW_i, kW_l, kB_i, kB_l, kV_i, kV_l, kC_i, kC_l, kI_c, kL_c, kW_c, kB_c, kC_c, h5, h6, lt_nI, le_nI, eq_nI, cl_nI, vpn, nI_add, nI_1, nI_sb, n0_lt, n0_le, neg_eq, imp_false, not_true, false_implies, true_implies, not_false_iff, true_and]
  refine ⟨fun z => absurd z (by omega), fun _ => ⟨by omega, ?_⟩⟩
  rintro κ5 rfl
  simp (disch := omega) only [kI_eq, kI_ne, kI_nk, kL_eq, kL_ne, kL_nk, aI_eq, aI_ne, aI_ni, sI_eq, sI_ne, aL_eq, aL_ne, aL_ni, aL_w, aI_w, sI_w, kI_w, kL_w, kW_i, kW_l, kB_i, kB_l, kV_i, kV_l, kC_i, kC_l, kI_c, kL_c, kW_c, kB_c, kC_c, h5, h6, lt_nI, le_nI, eq_nI, cl_nI, vpn, nI_add, nI_1, nI_sb, n0_lt, n0_le, neg_eq]
  refine ⟨by omega, ?_⟩
  rintro κ7 rfl
  exact k_9_next_75 ⟨rfl, q⟩
theorem kc_next {X : Cx} {κ : Km} {F : Km → Prop} {p m : Nat} (h : TW κ m) (hc : kI κ 72 6 = nI p) (hp : p + 1 < m) (q : F (setC κ (p + 1))) : KC' X 0 MX9_next [vR 72] κ (kRV F) := by
  have hT := h
  obtain ⟨w, h1, h2, h3, h4, h5, h6, h7⟩ := h
  refine KC_of_K rfl (Nat.le_of_ble_eq_true rfl) rfl (k_9_next_0 ?_)
  rw [h1, hc, litI 1, nI_sb (by omega), le_nI (by omega) (by omega), nI_add]
  exact ⟨fun z => absurd z (by omega), fun _ => kn_27 hT hp q⟩
theorem kc_next0 {X : Cx} {κ : Km} {F : Km → Prop} {m : Nat} (h : TW κ m) (hc : kI κ 72 6 = -1) (hp : 0 < m) (q : F (setC κ 0)) : KC' X 0 MX9_next [vR 72] κ (kRV F) := by
  have hT := h
  obtain ⟨w, h1, h2, h3, h4, h5, h6, h7⟩ := h
  refine KC_of_K rfl (Nat.le_of_ble_eq_true rfl) rfl (k_9_next_0 ?_)
  rw [h1, hc, litI 1, nI_sb (by omega)]
  refine ⟨fun z => absurd (Int32.le_trans (nI_pos' (n := m - 1) (by omega)) z) (by decide), fun _ => ?_⟩
  rw [show -nI 1 + nI 1 = nI 0 from Int32.add_left_neg _]
  exact kn_27 hT hp q
/-- the whole tape, both -/
theorem read_both {X : Cx} {G : Km → Rm → Prop} {κ : Km} {σ : Rm} {n : Nat} (ht : Tp κ n) (hw : ∃ w, 64 ≤ w ∧ w ≤ 6100 ∧ kW κ 74 = w ∧ kW κ 75 = w ∧ kW κ 76 = w) (hy : Ky κ) (hx : Tx κ σ n)
    (q : ∀ κ' σ' N, TkA κ' σ' N → Cur κ' 0 → KF hT κ κ' → RG κ κ' → AF hR σ σ' → G κ' σ') : KC' X 6 MX9_readTape [vR 72] κ (kRV fun κ' => AC X 92 6 MX13_cut [vR 92] σ (aRV fun σ' => G κ' σ')) := by
  obtain ⟨w, w1, w2, w3, w4, w5⟩ := hw
  have h3 := ht.2.2.1
  have kf0 : KF hT κ (cI κ 72 5 0) := KF.cI (by decide)
  refine KC_of_K rfl (Nat.le_of_ble_eq_true rfl) rfl (k_9_readTape_0 ?_)
  rintro κ1 rfl
  refine (rt_both (X := X) (d := 6) (e := 6) (G := G) (n := n) (by decide) (by decide) h3 n (cI κ 72 5 0) σ 0 0 0 (by omega) (by omega) (by omega) (by omega) (ht.kf kf0) ⟨w, kI_eq, by omega, w1, w2, w3, w4, w5⟩ (hy.kf kf0) (hx.fr kf0 AF.refl) (fun k hk => absurd hk (Nat.not_lt_zero _)) (fun k hk => absurd hk (Nat.not_lt_zero _)) ?_).mono ?_
  · intro κ' σ' i' m' N hi' tk af tw hm' hN tm hc
    refine k_9_readTape_99 _ _ ⟨0, by decide, kc_size ⟨2, by decide, kc_addT tw (by omega) (fun κ2 ta => ?_)⟩⟩
    rintro κ3 rfl
    have e65 : kI κ' 65 1 = nI n := ((ht.kf kf0).kf tk.2.1).1
    have tw3 : TW (cI κ2 72 6 (-1)) (m' + 1) := by
      obtain ⟨w', a1, a2⟩ := ta.1
      exact ⟨w', by rw [kI_nk (by decide)]; exact a1, a2⟩
    refine ⟨0, by decide, kc_next0 tw3 kI_eq (by omega) ⟨rfl, q _ σ' N ?_ setC_cur ?_ ?_ af⟩⟩
    · have e : ∀ k, kI (setC (cI κ2 72 6 (-1)) 0) 74 k = kI κ2 74 k ∧ kI (setC (cI κ2 72 6 (-1)) 0) 75 k = kI κ2 75 k ∧ kL (setC (cI κ2 72 6 (-1)) 0) 76 k = kL κ2 76 k := fun k => by
        refine ⟨?_, ?_, rfl⟩
        · rw [setC_ne (by decide), kI_ne (by decide)]
        · rw [setC_ne (by decide), kI_ne (by decide)]
      have e2 : ∀ k, k < m' → kI (setC (cI κ2 72 6 (-1)) 0) 74 k = kI κ' 74 k ∧ kI (setC (cI κ2 72 6 (-1)) 0) 75 k = kI κ' 75 k ∧ kL (setC (cI κ2 72 6 (-1)) 0) 76 k = kL κ' 76 k := fun k hk => ⟨(e k).1.trans (ta.2.1 k hk).1, (e k).2.1.trans (ta.2.1 k hk).2.1, (e k).2.2.trans (ta.2.1 k hk).2.2⟩
      have tm2 : TkM (setC (cI κ2 72 6 (-1)) 0) σ' N := fun k hk => by
        obtain ⟨a1, a2, a3⟩ := tm k hk
        exact ⟨a1.cong (e2 k (by omega)) ⟨rfl, rfl, rfl, rfl, rfl⟩, by rw [(e2 k (by omega)).1]; exact a2, by rw [(e2 k (by omega)).1]; exact a3⟩
      have ex : ∃ m, N < m ∧ m ≤ 3001 ∧ TW (setC (cI κ2 72 6 (-1)) 0) m := ⟨m' + 1, by omega, by omega, setC_TW tw3⟩
      rcases hc with ⟨c1, c2, c3, c4, c5⟩ | ⟨c1, c2, c3, c4⟩
      · subst c1
        have k74 : kI (setC (cI κ2 72 6 (-1)) 0) 74 N = 0 := (e N).1.trans ta.2.2.1
        have k75 : kI (setC (cI κ2 72 6 (-1)) 0) 75 N = nI n := (e N).2.1.trans (ta.2.2.2.1.trans e65)
        refine ⟨tm2, ⟨n, n, k75, c3, c4, by omega, by omega, by omega, Or.inl k74, ?_⟩, Or.inl k74, by omega, (c5.more (κ' := setC (cI κ2 72 6 (-1)) 0) (fun k hk => (e2 k hk).2.1) k75 (Nat.lt_succ_self _)).le (by omega), ex⟩
        rw [k74, c2]
        exact Or.inr (Or.inr (Or.inr (Or.inr (Or.inr (Or.inr (Or.inr (Or.inr ⟨rfl, rfl⟩)))))))
      · exact ⟨tm2, c2.cong (e2 N c1) ⟨rfl, rfl, rfl, rfl, rfl⟩, Or.inr ((e2 N c1).1.trans c3), by omega, c4.cong (fun k hk => (e2 k (by omega)).2.1), ex⟩
    · exact ((kf0.trans tk.2.1).trans ta.2.2.2.2.2.1).trans ((KF.cI (by decide)).trans (setC_kf.weak (fun h e => Or.inl e)))
    · exact ((RG.cI.trans tk.2.2).trans ta.2.2.2.2.2.2).trans (RG.cI.trans setC_rg)
  · rintro r s ⟨rfl, hA⟩
    exact ⟨rfl, AC_of_A rfl (Nat.le_of_ble_eq_true rfl) rfl (a_cut_0 (a_cut_6 _ _ _ ⟨fun z => absurd z (by decide), fun _ => hA⟩))⟩
