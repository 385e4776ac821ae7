/-! both read the tape -/
/-- the reference's text is the class's tape -/
def Tx (κ : Km) (σ : Rm) (n : Nat) : Prop := sI σ 4 = nI n ∧ ∀ i, i < n → aI σ 3 i = kI κ 66 i
theorem Tx.fr {κ κ' : Km} {σ σ' : Rm} {n : Nat} (h : Tx κ σ n) (f : KF hT κ κ') (g : AF hR σ σ') : Tx κ' σ' n := by
  have e1 := (f.1 66 (by decide)).1
  have e3 := (g 3 (by decide)).1
  have e4 := (g 4 (by decide)).1
  unfold Tx sI
  rw [e1]
  refine ⟨?_, fun i hi => ?_⟩
  · have := congrFun e4 0
    exact this.trans h.1
  · rw [e3]; exact h.2 i hi
theorem ar_blank {X : Cx} {d : Nat} {κ : Km} {σ : Rm} {Q : Res → Rm → Prop} {n p m : Nat} (hx : Tx κ σ n) (hn : n ≤ 3000) (hp : p < n) (hb : kI κ 66 p = 32 ∨ kI κ 66 p = 10) (q : A X 92 d MX13_cut 10 (CL m (p + 1)) [] σ Q) : A X 92 d MX13_cut 10 (CL m p) [] σ Q := by
  have g : A X 92 d MX13_cut 40 (CL m p) [] σ Q := a_cut_40 _ _ _ (by rw [nI_1]; exact q)
  refine a_cut_10 _ _ _ ?_
  rw [hx.1, le_nI (by omega) (by omega), vpn (by omega), cl_nI (by omega), hx.2 p hp]
  refine ⟨fun z => absurd z (by omega), fun _ => ⟨by omega, fun _ => g, fun c => ⟨by omega, fun _ => g, fun c2 => ?_⟩⟩⟩
  rcases hb with h | h
  · exact absurd h c
  · exact absurd h c2
theorem ar_71 {X : Cx} {d : Nat} {κ : Km} {σ : Rm} {Q : Res → Rm → Prop} {n p m : Nat} (hx : Tx κ σ n) (hn : n ≤ 3000) (hm : m < 3002) (hp : p < n) (hb : ¬ kI κ 66 p = 32) (hb2 : ¬ kI κ 66 p = 10) (q : A X 92 d MX13_cut 71 (CL m p) [vI (kI κ 66 p)] (wI σ 6 m (nI p)) Q) : A X 92 d MX13_cut 10 (CL m p) [] σ Q := by
  have g : A X 92 d MX13_cut 46 (CL m p) [] σ Q := by
    refine a_cut_46 _ _ _ ?_
    rw [vpn (by omega), cl_nI (by omega)]
    refine ⟨hm, ?_⟩
    rintro s2 rfl
    rw [sI_ne (by decide), hx.1, le_nI (by omega) (by omega), vpn (by omega), cl_nI (by omega), aI_ne (by decide), hx.2 p hp]
    exact ⟨fun z => absurd z (by omega), fun _ => ⟨by omega, q⟩⟩
  refine a_cut_10 _ _ _ ?_
  rw [hx.1, le_nI (by omega) (by omega), vpn (by omega), cl_nI (by omega), hx.2 p hp]
  exact ⟨fun z => absurd z (by omega), fun _ => ⟨by omega, fun z => absurd z hb, fun _ => ⟨by omega, fun z => absurd z hb2, fun _ => g⟩⟩⟩
theorem ar_483 {X : Cx} {d : Nat} {σ : Rm} {Q : Res → Rm → Prop} {m e : Nat} (hm : m < 3002) (x4 : Int32) (q : A X 92 d MX13_cut 10 (CL (m + 1) e) [] (wI σ 7 m (nI e)) Q) : A X 92 d MX13_cut 483 [(0, vR 92), (1, vI (nI m)), (2, vI (nI e)), (3, vI 1), (4, vI x4)] [] σ Q := by
  refine a_cut_483 _ _ _ _ ?_
  rw [vpn (by omega), cl_nI (by omega)]
  refine ⟨hm, ?_⟩
  rintro s2 rfl
  rw [nI_1]
  exact a_cut_6 _ _ _ ⟨fun z => absurd z (by decide), fun _ => q⟩
theorem ar_483s {X : Cx} {d : Nat} {σ : Rm} {Q : Res → Rm → Prop} {m e : Nat} (hm : m < 3002) (x4 : Int32) (q : Q (.inl none) (wI σ 7 m (nI e))) : A X 92 d MX13_cut 483 [(0, vR 92), (1, vI (nI m)), (2, vI (nI e)), (3, vI 0), (4, vI x4)] [] σ Q := by
  refine a_cut_483 _ _ _ _ ?_
  rw [vpn (by omega), cl_nI (by omega)]
  refine ⟨hm, ?_⟩
  rintro s2 rfl
  rw [nI_1]
  exact a_cut_6 _ _ _ ⟨fun _ => q, fun z => absurd rfl z⟩
theorem RA.mk {σ σ1 : Rm} {m f t : Nat} {s : Int32} (h1 : AF hR σ σ1) (h2 : ∀ k, k ≠ m → aI σ1 5 k = aI σ 5 k ∧ aI σ1 6 k = aI σ 6 k ∧ aI σ1 7 k = aI σ 7 k ∧ aI σ1 8 k = aI σ 8 k ∧ aL σ1 9 k = aL σ 9 k) (h3 : aI σ1 5 m = s) (h4 : aI σ1 6 m = nI f) : RA σ (wI σ1 7 m (nI t)) m s f t := by
  refine ⟨h1.trans (AF.wI (by decide)), fun k hk => ?_, ?_, ?_, aI_eq⟩
  · obtain ⟨a1, a2, a3, a4, a5⟩ := h2 k hk
    refine ⟨?_, ?_, ?_, ?_, a5⟩
    · rw [aI_ne (by decide)]; exact a1
    · rw [aI_ne (by decide)]; exact a2
    · rw [aI_ni hk]; exact a3
    · rw [aI_ne (by decide)]; exact a4
  · rw [aI_ne (by decide)]; exact h3
  · rw [aI_ne (by decide)]; exact h4
theorem ar_end {X : Cx} {d : Nat} {κ : Km} {σ : Rm} {Q : Res → Rm → Prop} {n m : Nat} (hx : Tx κ σ n) (hn : n ≤ 3000) (hm : m < 3002) (q : ∀ σ', RA σ σ' m 6 n n → Q (.inl none) σ') : A X 92 d MX13_cut 10 (CL m n) [] σ Q := by
  refine a_cut_10 _ _ _ ?_
  rw [hx.1, le_nI (by omega) (by omega)]
  refine ⟨fun _ => a_cut_46 _ _ _ ?_, fun z => absurd (Nat.le_refl _) z⟩
  rw [vpn (by omega), cl_nI (by omega)]
  refine ⟨hm, ?_⟩
  rintro s2 rfl
  rw [sI_ne (by decide), hx.1, le_nI (by omega) (by omega)]
  refine ⟨fun _ => a_cut_71 _ _ _ _ ?_, fun z => absurd (Nat.le_refl _) z⟩
  rw [sI_ne (by decide), hx.1, vpn (by omega), cl_nI (by omega)]
  refine ⟨fun _ => ⟨hm, ?_⟩, fun z => absurd rfl z⟩
  rintro s3 rfl
  refine ar_483s hm _ (q _ (RA.mk ?_ (fun k hk => ?_) aI_eq ?_))
  · exact (AF.wI (by decide)).trans (AF.wI (by decide))
  · simp (disch := omega) only [kI_eq, kI_ne, kI_nk, kL_eq, kL_ne, kL_nk, aI_eq, aI_ne, aI_ni, sI_eq, sI_ne, aL_eq, aL_ne, aL_ni, aL_w, aI_w, sI_w, kI_w, kL_w, kW_i, kW_l, kB_i, kB_l, kV_i, kV_l, kC_i, kC_l, kI_c, kL_c, kW_c, kB_c, kC_c, and_self]
  · simp (disch := omega) only [kI_eq, kI_ne, kI_nk, kL_eq, kL_ne, kL_nk, aI_eq, aI_ne, aI_ni, sI_eq, sI_ne, aL_eq, aL_ne, aL_ni, aL_w, aI_w, sI_w, kI_w, kL_w, kW_i, kW_l, kB_i, kB_l, kV_i, kV_l, kC_i, kC_l, kI_c, kL_c, kW_c, kB_c, kC_c]
theorem bL_nb {x : Int32} (h : bL x) : ¬ x = 32 ∧ ¬ x = 10 := ⟨fun e => h.1 (by rw [e]; decide), fun e => h.1 (by rw [e]; decide)⟩
theorem bF_nb {x : Int32} (h : bF x) : ¬ x = 32 ∧ ¬ x = 10 ∧ ¬ bL x := ⟨fun e => h.1 (by rw [e]; decide), fun e => h.1 (by rw [e]; decide), fun e => by
  have h1 := h.2
  have h2 := e.1
  exact h1 (Int32.lt_of_lt_of_le (by decide) (Int32.not_lt.mp h2))⟩
theorem ar_name {X : Cx} {d : Nat} {κ : Km} {σ : Rm} {Q : Res → Rm → Prop} {n p m e : Nat} (hd : 6 ≤ d) (hx : Tx κ σ n) (ht : Tp κ n) (hm : m < 3002) (hr : Run bL κ n p e)
    (q : ∀ (σ' : Rm) (s : Int32), RA σ σ' m s p e → aL σ' 9 m = Int64.ofNat (pkN 27 (ls κ p) (e - p)) → ((s = 1 ∧ (8 < e - p ∨ ∀ w, w < 23 → ¬ kr w = Int64.ofNat (pkN 27 (ls κ p) (e - p)))) ∨ (s = 4 ∧ e - p ≤ 8 ∧ ∃ w, w < 23 ∧ kr w = Int64.ofNat (pkN 27 (ls κ p) (e - p)))) → A X 92 d MX13_cut 10 (CL (m + 1) e) [] σ' Q) : A X 92 d MX13_cut 10 (CL m p) [] σ Q := by
  obtain ⟨t1, t2, t3, t4⟩ := ht
  have hb : bL (kI κ 66 p) := hr.2.2.1 p (Nat.le_refl _) hr.1
  have nb := bL_nb hb
  have h1 := hr.1
  have h2 := hr.2.1
  have hx2 : Tx κ (wI σ 6 m (nI p)) n := ⟨by rw [sI_ne (by decide)]; exact hx.1, fun i hi => by rw [aI_ne (by decide)]; exact hx.2 i hi⟩
  refine ar_71 hx t3 hm (by omega) nb.1 nb.2 (a_cut_71 _ _ _ _ ?_)
  rw [hx2.1, eq_nI (by omega) (by omega)]
  refine ⟨fun z => absurd z (by omega), fun _ => ⟨1, by omega, ac_isLetter (fun _ => ⟨fun z => absurd z (by decide), fun _ => ?_⟩) (fun z => absurd hb z)⟩⟩
  have e0 : (0 : Int64) = Int64.ofNat (pkN 27 (ls κ p) (p - p)) := by rw [Nat.sub_self]; rfl
  rw [e0]
  refine rl_loop (by omega) t3 hm hx2.1 aI_eq hx2.2 t4 hr _ _ ?_ (e - p) p (by omega) (Nat.le_refl _)
  refine a_cut_170 _ _ _ _ _ ?_
  rw [vpn (by omega), cl_nI (by omega)]
  refine ⟨hm, ?_⟩
  rintro s2 rfl
  have e6 : aI (wL (wI σ 6 m (nI p)) 9 m (Int64.ofNat (pkN 27 (ls κ p) (e - p)))) 6 m = nI p := aI_eq
  rw [e6, litI 8, nI_sb (by omega), lt_nI (by omega) (by omega)]
  have fin : ∀ s : Int32, ((s = 1 ∧ (8 < e - p ∨ ∀ w, w < 23 → ¬ kr w = Int64.ofNat (pkN 27 (ls κ p) (e - p)))) ∨ (s = 4 ∧ e - p ≤ 8 ∧ ∃ w, w < 23 ∧ kr w = Int64.ofNat (pkN 27 (ls κ p) (e - p)))) → A X 92 d MX13_cut 210 [(0, vR 92), (1, vI (nI m)), (2, vI (nI e)), (3, vI 1), (4, vI (kI κ 66 p)), (5, vL (Int64.ofNat (pkN 27 (ls κ p) (e - p))))] [vI s, vI (nI m), vR (92 + 4)] (wL (wI σ 6 m (nI p)) 9 m (Int64.ofNat (pkN 27 (ls κ p) (e - p)))) Q := by
    intro s hs
    refine a_cut_210 _ _ _ _ _ _ _ ?_
    rw [vpn (by omega), cl_nI (by omega)]
    refine ⟨hm, ?_⟩
    rintro s3 rfl
    refine ar_483 hm _ (q _ s (RA.mk ?_ (fun k hk => ?_) aI_eq ?_) aL_eq hs)
    · exact ((AF.wI (by decide)).trans (AF.wL (by decide))).trans (AF.wI (by decide))
    · refine ⟨?_, ?_, ?_, ?_, ?_⟩
      · rw [aI_ni hk]; show aI (wI σ 6 m (nI p)) 5 k = _; rw [aI_ni hk]
      · rw [aI_ni hk]; show aI (wI σ 6 m (nI p)) 6 k = _; rw [aI_ni hk]
      · rw [aI_ni hk]; show aI (wI σ 6 m (nI p)) 7 k = _; rw [aI_ni hk]
      · rw [aI_ni hk]; show aI (wI σ 6 m (nI p)) 8 k = _; rw [aI_ni hk]
      · show aL (wL _ 9 m _) 9 k = _; rw [aL_ni hk]; rfl
    · rw [aI_ne (by decide)]; exact e6
  refine ⟨hm, fun c => a_cut_209 _ _ _ _ _ _ (fin 1 (Or.inl ⟨rfl, Or.inl c⟩)), fun c => ⟨5, by omega, ac_isWordKey (fun hw => ⟨fun z => absurd z (by decide), fun _ => fin 4 (Or.inr ⟨rfl, by omega, hw⟩)⟩) (fun hw => ⟨fun _ => a_cut_209 _ _ _ _ _ _ (fin 1 (Or.inl ⟨rfl, Or.inr hw⟩)), fun z => absurd rfl z⟩)⟩⟩
theorem ar_number {X : Cx} {d : Nat} {κ : Km} {σ : Rm} {Q : Res → Rm → Prop} {n p m e : Nat} (hd : 6 ≤ d) (hx : Tx κ σ n) (ht : Tp κ n) (hm : m < 3002) (hr : Run bF κ n p e)
    (q : ∀ (σ' : Rm), RA σ σ' m 2 p e → aI σ' 8 m = nI (dgN (fs κ p) (e - p)) → A X 92 d MX13_cut 10 (CL (m + 1) e) [] σ' Q) : A X 92 d MX13_cut 10 (CL m p) [] σ Q := by
  obtain ⟨t1, t2, t3, t4⟩ := ht
  have hb : bF (kI κ 66 p) := hr.2.2.1 p (Nat.le_refl _) hr.1
  have nb := bF_nb hb
  have h1 := hr.1
  have h2 := hr.2.1
  have hx2 : Tx κ (wI σ 6 m (nI p)) n := ⟨by rw [sI_ne (by decide)]; exact hx.1, fun i hi => by rw [aI_ne (by decide)]; exact hx.2 i hi⟩
  refine ar_71 hx t3 hm (by omega) nb.1 nb.2.1 (a_cut_71 _ _ _ _ ?_)
  rw [hx2.1, eq_nI (by omega) (by omega)]
  refine ⟨fun z => absurd z (by omega), fun _ => ⟨1, by omega, ac_isLetter (fun z => absurd z nb.2.2) (fun _ => ⟨fun _ => ⟨1, by omega, ac_isFigure (fun _ => ⟨fun z => absurd z (by decide), fun _ => ?_⟩) (fun z => absurd hb z)⟩, fun z => absurd rfl z⟩)⟩⟩
  have e0 : (0 : Int32) = nI (dgN (fs κ p) (p - p)) := by rw [Nat.sub_self]; rfl
  rw [e0]
  refine rf_loop (by omega) t3 hm hx2.1 aI_eq hx2.2 t4 hr _ _ ?_ (e - p) p (by omega) (Nat.le_refl _)
  refine a_cut_286 _ _ _ _ _ ?_
  rw [vpn (by omega), cl_nI (by omega)]
  refine ⟨hm, ?_⟩
  rintro s2 rfl
  refine ⟨hm, ?_⟩
  rintro s3 rfl
  refine ar_483 hm _ (q _ (RA.mk ?_ (fun k hk => ?_) aI_eq ?_) ?_)
  · exact ((AF.wI (by decide)).trans (AF.wI (by decide))).trans (AF.wI (by decide))
  · simp (disch := omega) only [kI_eq, kI_ne, kI_nk, kL_eq, kL_ne, kL_nk, aI_eq, aI_ne, aI_ni, sI_eq, sI_ne, aL_eq, aL_ne, aL_ni, aL_w, aI_w, sI_w, kI_w, kL_w, kW_i, kW_l, kB_i, kB_l, kV_i, kV_l, kC_i, kC_l, kI_c, kL_c, kW_c, kB_c, kC_c, and_self]
  · simp (disch := omega) only [kI_eq, kI_ne, kI_nk, kL_eq, kL_ne, kL_nk, aI_eq, aI_ne, aI_ni, sI_eq, sI_ne, aL_eq, aL_ne, aL_ni, aL_w, aI_w, sI_w, kI_w, kL_w, kW_i, kW_l, kB_i, kB_l, kV_i, kV_l, kC_i, kC_l, kI_c, kL_c, kW_c, kB_c, kC_c]
  · simp (disch := omega) only [kI_eq, kI_ne, kI_nk, kL_eq, kL_ne, kL_nk, aI_eq, aI_ne, aI_ni, sI_eq, sI_ne, aL_eq, aL_ne, aL_ni, aL_w, aI_w, sI_w, kI_w, kL_w, kW_i, kW_l, kB_i, kB_l, kV_i, kV_l, kC_i, kC_l, kI_c, kL_c, kW_c, kB_c, kC_c]
theorem ar_347 {X : Cx} {d : Nat} {σ : Rm} {Q : Res → Rm → Prop} (x1 x2 x3 x4 : Int32) (g0 : bS x4 → A X 92 d MX13_cut 450 [(0, vR 92), (1, vI x1), (2, vI x2), (3, vI x3), (4, vI x4)] [vI 1] σ Q) (h0 : ¬ bS x4 → A X 92 d MX13_cut 450 [(0, vR 92), (1, vI x1), (2, vI x2), (3, vI x3), (4, vI x4)] [vI 0] σ Q) : A X 92 d MX13_cut 347 [(0, vR 92), (1, vI x1), (2, vI x2), (3, vI x3), (4, vI x4)] [] σ Q := by
  by_cases c : bS x4
  · have g : A X 92 d MX13_cut 445 [(0, vR 92), (1, vI x1), (2, vI x2), (3, vI x3), (4, vI x4)] [] σ Q := a_cut_445 _ _ _ _ (g0 c)
    refine a_cut_347 _ _ _ _ ?_
    have c' := c
    exact ⟨fun _ => g, fun c1 => ⟨fun _ => g, fun c2 => ⟨fun _ => g, fun c3 => ⟨fun _ => g, fun c4 => ⟨fun _ => g, fun c5 => ⟨fun _ => g, fun c6 => ⟨fun _ => g, fun c7 => ⟨fun _ => g, fun c8 => ⟨fun _ => g, fun c9 => ⟨fun _ => g, fun c10 => ⟨fun _ => g, fun c11 => ⟨fun _ => g, fun c12 => ⟨fun _ => g, fun c13 => ⟨fun _ => g, fun c14 => False.elim ((fun z => Or.elim z c1 (fun z => Or.elim z c2 (fun z => Or.elim z c3 (fun z => Or.elim z c4 (fun z => Or.elim z c5 (fun z => Or.elim z c6 (fun z => Or.elim z c7 (fun z => Or.elim z c8 (fun z => Or.elim z c9 (fun z => Or.elim z c10 (fun z => Or.elim z c11 (fun z => Or.elim z c12 (fun z => Or.elim z c13 c14))))))))))))) c)⟩⟩⟩⟩⟩⟩⟩⟩⟩⟩⟩⟩⟩⟩
  · refine a_cut_347 _ _ _ _ ?_
    have n : ∀ P : Prop, (P → bS x4) → P → A X 92 d MX13_cut 445 [(0, vR 92), (1, vI x1), (2, vI x2), (3, vI x3), (4, vI x4)] [] σ Q := fun P h p => absurd (h p) c
    exact ⟨n _ (fun z => Or.inl z), fun _ => ⟨n _ (fun z => Or.inr (Or.inl z)), fun _ => ⟨n _ (fun z => Or.inr (Or.inr (Or.inl z))), fun _ => ⟨n _ (fun z => Or.inr (Or.inr (Or.inr (Or.inl z)))), fun _ => ⟨n _ (fun z => Or.inr (Or.inr (Or.inr (Or.inr (Or.inl z))))), fun _ => ⟨n _ (fun z => Or.inr (Or.inr (Or.inr (Or.inr (Or.inr (Or.inl z)))))), fun _ => ⟨n _ (fun z => Or.inr (Or.inr (Or.inr (Or.inr (Or.inr (Or.inr (Or.inl z))))))), fun _ => ⟨n _ (fun z => Or.inr (Or.inr (Or.inr (Or.inr (Or.inr (Or.inr (Or.inr (Or.inl z)))))))), fun _ => ⟨n _ (fun z => Or.inr (Or.inr (Or.inr (Or.inr (Or.inr (Or.inr (Or.inr (Or.inr (Or.inl z))))))))), fun _ => ⟨n _ (fun z => Or.inr (Or.inr (Or.inr (Or.inr (Or.inr (Or.inr (Or.inr (Or.inr (Or.inr (Or.inl z)))))))))), fun _ => ⟨n _ (fun z => Or.inr (Or.inr (Or.inr (Or.inr (Or.inr (Or.inr (Or.inr (Or.inr (Or.inr (Or.inr (Or.inl z))))))))))), fun _ => ⟨n _ (fun z => Or.inr (Or.inr (Or.inr (Or.inr (Or.inr (Or.inr (Or.inr (Or.inr (Or.inr (Or.inr (Or.inr (Or.inl z)))))))))))), fun _ => ⟨n _ (fun z => Or.inr (Or.inr (Or.inr (Or.inr (Or.inr (Or.inr (Or.inr (Or.inr (Or.inr (Or.inr (Or.inr (Or.inr (Or.inl z))))))))))))), fun _ => ⟨n _ (fun z => Or.inr (Or.inr (Or.inr (Or.inr (Or.inr (Or.inr (Or.inr (Or.inr (Or.inr (Or.inr (Or.inr (Or.inr (Or.inr (z)))))))))))))), fun _ => h0 c⟩⟩⟩⟩⟩⟩⟩⟩⟩⟩⟩⟩⟩⟩
/-- a sign that stands -/
theorem ar_sign {X : Cx} {d : Nat} {κ : Km} {σ : Rm} {Q : Res → Rm → Prop} {n p m k : Nat} {c : Int32} (hd : 6 ≤ d) (hx : Tx κ σ n) (ht : Tp κ n) (hm : m < 3002) (hp : p < n) (h1 : ¬ kI κ 66 p = 32) (h2 : ¬ kI κ 66 p = 10) (h3 : ¬ bL (kI κ 66 p)) (h4 : ¬ bF (kI κ 66 p)) (hs : sgT κ n p c k)
    (q : ∀ (σ' : Rm) (s : Int32), RA σ σ' m s p (p + k) → (c = 4 ∧ s = 5) ∨ (bS c ∧ s = 3 ∧ aI σ' 8 m = c) → A X 92 d MX13_cut 10 (CL (m + 1) (p + k)) [] σ' Q) (qw : ∀ (σ' : Rm), RA σ σ' m 7 p (p + k) → c = 1 → Q (.inl none) σ') : A X 92 d MX13_cut 10 (CL m p) [] σ Q := by
  obtain ⟨t1, t2, t3, t4⟩ := ht
  have hx2 : Tx κ (wI σ 6 m (nI p)) n := ⟨by rw [sI_ne (by decide)]; exact hx.1, fun i hi => by rw [aI_ne (by decide)]; exact hx.2 i hi⟩
  refine ar_71 hx t3 hm hp h1 h2 (a_cut_71 _ _ _ _ ?_)
  rw [hx2.1, eq_nI (by omega) (by omega)]
  refine ⟨fun z => absurd z (by omega), fun _ => ⟨1, by omega, ac_isLetter (fun z => absurd z h3) (fun _ => ⟨fun _ => ⟨1, by omega, ac_isFigure (fun z => absurd z h4) (fun _ => ⟨fun _ => ?_, fun z => absurd rfl z⟩)⟩, fun z => absurd rfl z⟩)⟩⟩
  have sn : ¬ (kI κ 66 p = 61 ∧ p + 1 < n ∧ kI κ 66 (p + 1) = 61) → A X 92 d MX13_cut 347 [(0, vR 92), (1, vI (nI m)), (2, vI (nI p)), (3, vI 1), (4, vI (kI κ 66 p))] [] (wI σ 6 m (nI p)) Q := by
    intro hc
    rcases hs with ⟨a1, a2, a3, a4, a5⟩ | ⟨a1, a2, a3⟩
    · exact absurd ⟨a1, a2, a3⟩ hc
    subst a2
    refine ar_347 _ _ _ _ (fun c1 => a_cut_450 _ _ _ _ _ ⟨fun z => absurd z (by decide), fun _ => a_cut_468 _ _ _ _ _ _ _ ?_⟩) (fun c1 => a_cut_450 _ _ _ _ _ ⟨fun _ => a_cut_468 _ _ _ _ _ _ _ ?_, fun z => absurd rfl z⟩)
    · rw [vpn (by omega), cl_nI (by omega)]
      refine ⟨hm, ?_⟩
      rintro s2 rfl
      refine ⟨hm, ?_⟩
      rintro s3 rfl
      rw [nI_1]
      rcases a3 with ⟨b1, b2⟩ | ⟨b1, b2⟩
      · refine ar_483 hm _ (q _ 3 (RA.mk ?_ (fun k hk => ?_) ?_ ?_) (Or.inr ⟨by rw [b2]; exact b1, rfl, ?_⟩))
        · exact ((AF.wI (by decide)).trans (AF.wI (by decide))).trans (AF.wI (by decide))
        · simp (disch := omega) only [kI_eq, kI_ne, kI_nk, kL_eq, kL_ne, kL_nk, aI_eq, aI_ne, aI_ni, sI_eq, sI_ne, aL_eq, aL_ne, aL_ni, aL_w, aI_w, sI_w, kI_w, kL_w, kW_i, kW_l, kB_i, kB_l, kV_i, kV_l, kC_i, kC_l, kI_c, kL_c, kW_c, kB_c, kC_c, and_self]
        · simp (disch := omega) only [kI_eq, kI_ne, kI_nk, kL_eq, kL_ne, kL_nk, aI_eq, aI_ne, aI_ni, sI_eq, sI_ne, aL_eq, aL_ne, aL_ni, aL_w, aI_w, sI_w, kI_w, kL_w, kW_i, kW_l, kB_i, kB_l, kV_i, kV_l, kC_i, kC_l, kI_c, kL_c, kW_c, kB_c, kC_c]
        · simp (disch := omega) only [kI_eq, kI_ne, kI_nk, kL_eq, kL_ne, kL_nk, aI_eq, aI_ne, aI_ni, sI_eq, sI_ne, aL_eq, aL_ne, aL_ni, aL_w, aI_w, sI_w, kI_w, kL_w, kW_i, kW_l, kB_i, kB_l, kV_i, kV_l, kC_i, kC_l, kI_c, kL_c, kW_c, kB_c, kC_c]
        · simp (disch := omega) only [kI_eq, kI_ne, kI_nk, kL_eq, kL_ne, kL_nk, aI_eq, aI_ne, aI_ni, sI_eq, sI_ne, aL_eq, aL_ne, aL_ni, aL_w, aI_w, sI_w, kI_w, kL_w, kW_i, kW_l, kB_i, kB_l, kV_i, kV_l, kC_i, kC_l, kI_c, kL_c, kW_c, kB_c, kC_c]; exact b2.symm
      · exact absurd c1 b1
    · rw [vpn (by omega), cl_nI (by omega)]
      refine ⟨hm, ?_⟩
      rintro s2 rfl
      refine ⟨hm, ?_⟩
      rintro s3 rfl
      rw [nI_1]
      rcases a3 with ⟨b1, b2⟩ | ⟨b1, b2⟩
      · exact absurd b1 c1
      · refine ar_483s hm _ (qw _ (RA.mk ?_ (fun k hk => ?_) ?_ ?_) b2)
        · exact ((AF.wI (by decide)).trans (AF.wI (by decide))).trans (AF.wI (by decide))
        · simp (disch := omega) only [kI_eq, kI_ne, kI_nk, kL_eq, kL_ne, kL_nk, aI_eq, aI_ne, aI_ni, sI_eq, sI_ne, aL_eq, aL_ne, aL_ni, aL_w, aI_w, sI_w, kI_w, kL_w, kW_i, kW_l, kB_i, kB_l, kV_i, kV_l, kC_i, kC_l, kI_c, kL_c, kW_c, kB_c, kC_c, and_self]
        · simp (disch := omega) only [kI_eq, kI_ne, kI_nk, kL_eq, kL_ne, kL_nk, aI_eq, aI_ne, aI_ni, sI_eq, sI_ne, aL_eq, aL_ne, aL_ni, aL_w, aI_w, sI_w, kI_w, kL_w, kW_i, kW_l, kB_i, kB_l, kV_i, kV_l, kC_i, kC_l, kI_c, kL_c, kW_c, kB_c, kC_c]
        · simp (disch := omega) only [kI_eq, kI_ne, kI_nk, kL_eq, kL_ne, kL_nk, aI_eq, aI_ne, aI_ni, sI_eq, sI_ne, aL_eq, aL_ne, aL_ni, aL_w, aI_w, sI_w, kI_w, kL_w, kW_i, kW_l, kB_i, kB_l, kV_i, kV_l, kC_i, kC_l, kI_c, kL_c, kW_c, kB_c, kC_c]
  refine ⟨fun c1 => ?_, fun c1 => sn (fun z => c1 z.1)⟩
  rw [hx2.1, nI_1, le_nI (by omega) (by omega)]
  refine ⟨fun c2 => sn (fun z => absurd z.2.1 (by omega)), fun c2 => ?_⟩
  rw [vpn (by omega), cl_nI (by omega), hx2.2 (p + 1) (by omega)]
  refine ⟨by omega, fun c3 => ?_, fun c3 => sn (fun z => c3 z.2.2)⟩
  rcases hs with ⟨a1, a2, a3, a4, a5⟩ | ⟨a1, a2, a3⟩
  · rw [vpn (by omega), cl_nI (by omega)]
    refine ⟨hm, ?_⟩
    rintro s2 rfl
    rw [litI 2, nI_add]
    subst a5
    refine ar_483 hm _ (q _ 5 (RA.mk ?_ (fun k hk => ?_) ?_ ?_) (Or.inl ⟨a4, rfl⟩))
    · exact (AF.wI (by decide)).trans (AF.wI (by decide))
    · simp (disch := omega) only [kI_eq, kI_ne, kI_nk, kL_eq, kL_ne, kL_nk, aI_eq, aI_ne, aI_ni, sI_eq, sI_ne, aL_eq, aL_ne, aL_ni, aL_w, aI_w, sI_w, kI_w, kL_w, kW_i, kW_l, kB_i, kB_l, kV_i, kV_l, kC_i, kC_l, kI_c, kL_c, kW_c, kB_c, kC_c, and_self]
    · simp (disch := omega) only [kI_eq, kI_ne, kI_nk, kL_eq, kL_ne, kL_nk, aI_eq, aI_ne, aI_ni, sI_eq, sI_ne, aL_eq, aL_ne, aL_ni, aL_w, aI_w, sI_w, kI_w, kL_w, kW_i, kW_l, kB_i, kB_l, kV_i, kV_l, kC_i, kC_l, kI_c, kL_c, kW_c, kB_c, kC_c]
    · simp (disch := omega) only [kI_eq, kI_ne, kI_nk, kL_eq, kL_ne, kL_nk, aI_eq, aI_ne, aI_ni, sI_eq, sI_ne, aL_eq, aL_ne, aL_ni, aL_w, aI_w, sI_w, kI_w, kL_w, kW_i, kW_l, kB_i, kB_l, kV_i, kV_l, kC_i, kC_l, kI_c, kL_c, kW_c, kB_c, kC_c]
  · exact absurd ⟨c1, by omega, c3⟩ a1
/-! the tokens of both -/
/-- one token of both: kind, value; sort, number, key; how long -/
def Tkk (c : Int32) (v : Int64) (s num : Int32) (key : Int64) (len : Nat) : Prop :=
  (c = 2 ∧ s = 1 ∧ len ≤ 8 ∧ NmR v key) ∨ (c = 5 ∧ s = 1 ∧ 8 < len) ∨ (∃ w, w < 23 ∧ c = nI (200 + w) ∧ s = 4 ∧ key = kr w) ∨ (∃ x, x < 1000000000 ∧ c = 3 ∧ s = 2 ∧ len ≤ 9 ∧ v = Int64.ofNat x ∧ num = nI x) ∨ (c = 6 ∧ s = 2 ∧ 9 < len) ∨ (c = 4 ∧ s = 5) ∨ (bS c ∧ s = 3 ∧ num = c) ∨ (c = 1 ∧ s = 7) ∨ (c = 0 ∧ s = 6)
def TkR (κ : Km) (σ : Rm) (k : Nat) : Prop := ∃ f t : Nat, kI κ 75 k = nI f ∧ aI σ 6 k = nI f ∧ aI σ 7 k = nI t ∧ k ≤ f ∧ f ≤ t ∧ t ≤ 3000 ∧ (kI κ 74 k = 0 ∨ f < 3000) ∧ Tkk (kI κ 74 k) (kL κ 76 k) (aI σ 5 k) (aI σ 8 k) (aL σ 9 k) (t - f)
/-- the first m tokens of both; all of them go on -/
def TkM (κ : Km) (σ : Rm) (m : Nat) : Prop := ∀ k, k < m → TkR κ σ k ∧ kI κ 74 k ≠ 0 ∧ kI κ 74 k ≠ 1
/-- the places of the first m tokens go upwards, and lie ahead of p -/
def PlM (κ : Km) (m p : Nat) : Prop := ∀ k, k < m → ∃ f, kI κ 75 k = nI f ∧ f < p ∧ ∀ l, l < k → ∃ g, kI κ 75 l = nI g ∧ g < f
/-- all tokens: n of them in the reference, the last one ends or can't stand -/
def TkA (κ : Km) (σ : Rm) (n : Nat) : Prop := TkM κ σ n ∧ TkR κ σ n ∧ (kI κ 74 n = 0 ∨ kI κ 74 n = 1) ∧ n ≤ 3000 ∧ PlM κ (n + 1) 3001 ∧ ∃ m, n < m ∧ m ≤ 3001 ∧ TW κ m
theorem PlM.le {κ : Km} {m p q : Nat} (h : PlM κ m p) (hq : p ≤ q) : PlM κ m q := fun k hk => by
  obtain ⟨f, h1, h2, h3⟩ := h k hk
  exact ⟨f, h1, by omega, h3⟩
theorem PlM.cong {κ κ' : Km} {m p : Nat} (h : PlM κ m p) (e : ∀ k, k < m → kI κ' 75 k = kI κ 75 k) : PlM κ' m p := fun k hk => by
  obtain ⟨f, h1, h2, h3⟩ := h k hk
  refine ⟨f, by rw [e k hk]; exact h1, h2, fun l hl => ?_⟩
  rw [e l (by omega)]; exact h3 l hl
theorem PlM.more {κ κ' : Km} {m p q : Nat} (h : PlM κ m p) (e : ∀ k, k < m → kI κ' 75 k = kI κ 75 k) (hm : kI κ' 75 m = nI p) (hq : p < q) : PlM κ' (m + 1) q := fun k hk => by
  by_cases c : k = m
  · subst c
    refine ⟨p, hm, hq, fun l hl => ?_⟩
    obtain ⟨f, h1, h2, h3⟩ := h l hl
    exact ⟨f, by rw [e l hl]; exact h1, h2⟩
  · obtain ⟨f, h1, h2, h3⟩ := h.cong e k (by omega)
    exact ⟨f, h1, by omega, h3⟩
theorem TkR.cong {κ κ' : Km} {σ σ' : Rm} {k : Nat} (h : TkR κ σ k) (h1 : kI κ' 74 k = kI κ 74 k ∧ kI κ' 75 k = kI κ 75 k ∧ kL κ' 76 k = kL κ 76 k) (h2 : aI σ' 5 k = aI σ 5 k ∧ aI σ' 6 k = aI σ 6 k ∧ aI σ' 7 k = aI σ 7 k ∧ aI σ' 8 k = aI σ 8 k ∧ aL σ' 9 k = aL σ 9 k) : TkR κ' σ' k := by
  unfold TkR
  rw [h1.1, h1.2.1, h1.2.2, h2.1, h2.2.1, h2.2.2.1, h2.2.2.2.1, h2.2.2.2.2]
  exact h
theorem TkM.more {κ κ' : Km} {σ σ' : Rm} {m : Nat} {c p : Int32} {v : Int64} {s : Int32} {f t : Nat} (h : TkM κ σ m) (ta : TA κ κ' m c p v) (ra : RA σ σ' m s f t) (hk : TkR κ' σ' m) (h0 : c ≠ 0) (h1 : c ≠ 1) : TkM κ' σ' (m + 1) := by
  intro k hk'
  by_cases e : k = m
  · subst e
    exact ⟨hk, by rw [ta.2.2.1]; exact h0, by rw [ta.2.2.1]; exact h1⟩
  · obtain ⟨a1, a2, a3⟩ := h k (by omega)
    have b := ta.2.1 k (by omega)
    exact ⟨a1.cong b (ra.2.1 k e), by rw [b.1]; exact a2, by rw [b.1]; exact a3⟩
/-- what is kept of a row of tokens -/
def TK (κ κ' : Km) (m : Nat) : Prop := (∀ i, i < m → kI κ' 74 i = kI κ 74 i ∧ kI κ' 75 i = kI κ 75 i ∧ kL κ' 76 i = kL κ 76 i) ∧ KF hT κ κ' ∧ RG κ κ'
theorem TK.refl {κ : Km} {m : Nat} : TK κ κ m := ⟨fun _ _ => ⟨rfl, rfl, rfl⟩, KF.refl, RG.refl⟩
theorem TA.tk {κ κ' : Km} {m m0 : Nat} {c p : Int32} {v : Int64} (h : TA κ κ' m c p v) (h0 : m0 ≤ m) : TK κ κ' m0 := ⟨fun i hi => h.2.1 i (by omega), h.2.2.2.2.2⟩
theorem TK.trans {κ κ1 κ2 : Km} {m : Nat} (a : TK κ κ1 m) (b : TK κ1 κ2 m) : TK κ κ2 m := ⟨fun i hi => ⟨(b.1 i hi).1.trans (a.1 i hi).1, (b.1 i hi).2.1.trans (a.1 i hi).2.1, (b.1 i hi).2.2.trans (a.1 i hi).2.2⟩, a.2.1.trans b.2.1, a.2.2.trans b.2.2⟩
