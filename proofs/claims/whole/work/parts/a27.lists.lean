/-! lines, handings and failures, in both -/
section PAIRS
variable {X : Cx} {κ κ' : Km} {σ σ' : Rm} {h T : Nat} {a b : Int32} {g : Nat → Int32}
/-- pairs of the class: how many, what they are -/
def PrC (κ : Km) (h T : Nat) (g : Nat → Int32) : Prop := kI κ h 2 = nI T ∧ kI κ h 1 = nI (min T 300) ∧ (∀ k, k < 2 * min T 300 → kI κ (h + 1) k = g k) ∧ 2 * min T 300 ≤ kW κ (h + 1) ∧ 32 ≤ kW κ (h + 1) ∧ kW κ (h + 1) ≤ 1200
def PRr (σ : Rm) (tk ka kb T : Nat) (g : Nat → Int32) : Prop := sI σ tk = nI T ∧ ∀ i, i < min T 300 → aI σ ka i = g (2 * i) ∧ aI σ kb i = g (2 * i + 1)
def padd (T : Nat) (g : Nat → Int32) (a b : Int32) : Nat → Int32 := if T < 300 then ud (ud g (2 * T) a) (2 * T + 1) b else g
theorem PrC.fr (p : PrC κ h T g) (e : kI κ' h = kI κ h) (e2 : kI κ' (h + 1) = kI κ (h + 1)) (e3 : kW κ' (h + 1) = kW κ (h + 1)) : PrC κ' h T g := by
  unfold PrC
  rw [e, e2, e3]
  exact p
theorem PRr.fr {tk ka kb : Nat} (p : PRr σ tk ka kb T g) (e1 : aI σ' tk = aI σ tk) (e2 : aI σ' ka = aI σ ka) (e3 : aI σ' kb = aI σ kb) : PRr σ' tk ka kb T g := by
  unfold PRr
  rw [e2, e3, show sI σ' tk = sI σ tk from congrFun e1 0]
  exact p
theorem isH_pr (hh : h = 80 ∨ h = 82) : isH κ h 4 ∧ isH κ (h + 1) 21 := by
  rcases hh with e | e <;> subst e
  · exact ⟨fixH 80 4 (by decide) rfl, fixH 81 21 (by decide) rfl⟩
  · exact ⟨fixH 82 4 (by decide) rfl, fixH 83 21 (by decide) rfl⟩
/-- only a list of pairs is another -/
def Po (h : Nat) (κ κ' : Km) : Prop := KF (fun k => k = h ∨ k = h + 1) κ κ' ∧ RG κ κ'
theorem kc_padd {F : Km → Prop} (hh : h = 80 ∨ h = 82) (p : PrC κ h T g) (hT : T < 2000000000) (q : ∀ κ', Po h κ κ' → PrC κ' h (T + 1) (padd T g a b) → F κ') : KC' X 3 MX4_add [vR h, vI a, vI b] κ (kRV F) := by
  obtain ⟨p1, p2, p3, p4, p5, p6⟩ := p
  refine KC_of_K rfl (Nat.le_of_ble_eq_true rfl) rfl (k_4_add_0 _ _ _ ⟨(isH_pr hh).1, ?_⟩)
  rw [p1, nI_1]
  rintro κ2 rfl
  have e1 : kI (cI κ h 2 (nI (T + 1))) h 1 = nI (min T 300) := by rw [kI_nk (by decide)]; exact p2
  have e0 : kI (cI κ h 2 (nI (T + 1))) (h + 1) = kI κ (h + 1) := kI_ne (by omega)
  have w0 : kW (cI κ h 2 (nI (T + 1))) (h + 1) = kW κ (h + 1) := rfl
  rw [e1, w0, litI 300, lt_nI (by omega) (by omega), litI 2, pk_mul, nI_1, lt_nI (by omega) (by omega)]
  have ko : Po h κ (cI κ h 2 (nI (T + 1))) := ⟨KF.cI (Or.inl rfl), RG.cI⟩
  have go : ∀ κ3 : Km, Po h κ κ3 → kI κ3 h 1 = nI (min T 300) → kI κ3 h 2 = nI (T + 1) → (∀ k, k < 2 * min T 300 → kI κ3 (h + 1) k = g k) → T < 300 → 2 * T + 1 < kW κ3 (h + 1) → kW κ3 (h + 1) ≤ 1200 → 32 ≤ kW κ3 (h + 1) → K X 3 MX4_add 55 [(0, vR h), (1, vI a), (2, vI b)] [] κ3 (kRV F) := fun κ3 po f1 f2 f3 hlt fw fw2 fw3 => by
    refine k_4_add_55 _ _ _ ⟨hh, (isH_pr hh).1, (isH_pr hh).2, ?_⟩
    have hm : min T 300 = T := by omega
    rw [hm] at f1 f3
    rw [f1, litI 2, pk_mul, vpn (by omega), cl_nI (by omega)]
    refine ⟨by omega, ?_⟩
    rintro κ5 rfl
    have f5 : kI (cI κ3 (h + 1) (2 * T) a) h 1 = nI T := by rw [kI_ne (by omega)]; exact f1
    rw [f5, pk_mul, nI_1, vpn (by omega), cl_nI (by omega)]
    refine ⟨by show 2 * T + 1 < kW κ3 (h + 1); omega, ?_⟩
    rintro κ7 rfl κ8 rfl
    have f7 : kI (cI (cI κ3 (h + 1) (2 * T) a) (h + 1) (2 * T + 1) b) h 1 = nI T := by rw [kI_ne (by omega)]; exact f5
    rw [f7, nI_1]
    refine ⟨rfl, q _ ⟨((po.1.trans (KF.cI (Or.inr rfl))).trans (KF.cI (Or.inr rfl))).trans (KF.cI (Or.inl rfl)), ((po.2.trans RG.cI).trans RG.cI).trans RG.cI⟩ ⟨?_, ?_, fun k hk => ?_, ?_, fw3, fw2⟩⟩
    · rw [kI_nk (by decide), kI_ne (by omega), kI_ne (by omega)]; exact f2
    · rw [kI_eq]; congr 1; omega
    · have hm1 : min (T + 1) 300 = T + 1 := by omega
      rw [hm1] at hk
      rw [kI_ne (by omega)]
      unfold padd
      rw [if_pos hlt]
      by_cases c1 : k = 2 * T + 1
      · rw [c1, kI_eq, ud_eq]
      · rw [kI_nk c1, ud_ne c1]
        by_cases c0 : k = 2 * T
        · rw [c0, kI_eq, ud_eq]
        · rw [kI_nk c0, ud_ne c0]
          exact f3 k (by omega)
    · show 2 * min (T + 1) 300 ≤ kW κ3 (h + 1)
      omega
  refine ⟨fun c => ⟨hh, (isH_pr hh).2, fun c2 => go _ ko e1 kI_eq (fun k hk => by rw [e0]; exact p3 k hk) (by omega) (by show 2 * T + 1 < kW κ (h + 1); omega) p6 p5, fun c2 => ⟨by omega, 2 * kW κ (h + 1), by rw [pk_mul], by omega, by omega, ?_⟩⟩, fun c => ⟨rfl, q _ ko ⟨kI_eq, ?_, fun k hk => ?_, ?_, p5, p6⟩⟩⟩
  · rintro κ13 rfl
    refine go _ ⟨ko.1.trans (KF.row (Or.inr rfl)), ko.2.trans (RG.row (by omega) (Nat.le_refl _) (by show 4 ≤ 2 * kW κ (h + 1); omega))⟩ ?_ ?_ (fun k hk => ?_) (by omega) ?_ ?_ ?_
    · rw [kI_row, if_neg (by omega)]; exact e1
    · rw [kI_row, if_neg (by omega)]; exact kI_eq
    · rw [kI_row, if_pos rfl]
      show (if k < kW κ (h + 1) then kI (cI κ h 2 (nI (T + 1))) (h + 1) k else 0) = g k
      rw [if_pos (by omega), e0]
      exact p3 k hk
    · rw [kW_row, if_pos rfl]; omega
    · rw [kW_row, if_pos rfl]; omega
    · rw [kW_row, if_pos rfl]; omega
  · rw [e1]
    congr 1
    omega
  · rw [e0]
    unfold padd
    rw [if_neg (by omega)]
    exact p3 k (by omega)
  · show 2 * min (T + 1) 300 ≤ kW κ (h + 1)
    omega
theorem ac_hands {F : Rm → Prop} (p : PRr σ 83 84 85 T g) (hT : T < 2000000000) (q : ∀ σ', AF (fun k => k = 83 ∨ k = 84 ∨ k = 85) σ σ' → PRr σ' 83 84 85 (T + 1) (padd T g a b) → F σ') : AC X 92 0 MX13_hands [vR 92, vI a, vI b] σ (aRV F) := by
  obtain ⟨p1, p2⟩ := p
  refine AC_of_A rfl (Nat.le_of_ble_eq_true rfl) rfl (a_hands_0 _ _ ?_)
  rw [p1, litI 300, le_nI (by omega) (by omega), vpn (by omega), cl_nI (by omega)]
  refine ⟨fun c => a_hands_30 _ _ ?_, fun c => ⟨by omega, ?_⟩⟩
  · rintro s1 rfl
    rw [p1, nI_1]
    refine ⟨rfl, q _ (AF.wI (Or.inl rfl)) ⟨sI_eq, fun i hi => ?_⟩⟩
    rw [aI_ne (by decide), aI_ne (by decide)]
    unfold padd
    rw [if_neg (by omega)]
    exact p2 i (by omega)
  · rintro s3 rfl
    rw [sI_ne (by decide), p1, vpn (by omega), cl_nI (by omega)]
    refine ⟨by omega, ?_⟩
    rintro s5 rfl
    refine a_hands_30 _ _ ?_
    rintro s1 rfl
    rw [sI_ne (by decide), sI_ne (by decide), p1, nI_1]
    refine ⟨rfl, q _ (((AF.wI (Or.inr (Or.inl rfl))).trans (AF.wI (Or.inr (Or.inr rfl)))).trans (AF.wI (Or.inl rfl))) ⟨sI_eq, fun i hi => ?_⟩⟩
    unfold padd
    rw [if_pos (by omega), aI_ne (by decide), aI_ne (k' := 84) (by decide), aI_ne (k' := 85) (k := 83) (by decide)]
    by_cases c2 : i = T
    · rw [c2, aI_eq, aI_eq, ud_ne (by omega), ud_eq, ud_eq]
      exact ⟨rfl, rfl⟩
    · rw [aI_ni c2, aI_ni c2, aI_ne (by decide), ud_ne (by omega), ud_ne (by omega), ud_ne (by omega), ud_ne (by omega)]
      exact p2 i (by omega)
theorem ac_tells {F : Rm → Prop} (p : PRr σ 80 81 82 T g) (hT : T < 2000000000) (q : ∀ σ', AF (fun k => k = 80 ∨ k = 81 ∨ k = 82) σ σ' → PRr σ' 80 81 82 (T + 1) (padd T g a b) → F σ') : AC X 92 0 MX13_tells [vR 92, vI a, vI b] σ (aRV F) := by
  obtain ⟨p1, p2⟩ := p
  refine AC_of_A rfl (Nat.le_of_ble_eq_true rfl) rfl (a_tells_0 _ _ ?_)
  rw [p1, litI 300, le_nI (by omega) (by omega), vpn (by omega), cl_nI (by omega)]
  refine ⟨fun c => a_tells_30 _ _ ?_, fun c => ⟨by omega, ?_⟩⟩
  · rintro s1 rfl
    rw [p1, nI_1]
    refine ⟨rfl, q _ (AF.wI (Or.inl rfl)) ⟨sI_eq, fun i hi => ?_⟩⟩
    rw [aI_ne (by decide), aI_ne (by decide)]
    unfold padd
    rw [if_neg (by omega)]
    exact p2 i (by omega)
  · rintro s3 rfl
    rw [sI_ne (by decide), p1, vpn (by omega), cl_nI (by omega)]
    refine ⟨by omega, ?_⟩
    rintro s5 rfl
    refine a_tells_30 _ _ ?_
    rintro s1 rfl
    rw [sI_ne (by decide), sI_ne (by decide), p1, nI_1]
    refine ⟨rfl, q _ (((AF.wI (Or.inr (Or.inl rfl))).trans (AF.wI (Or.inr (Or.inr rfl)))).trans (AF.wI (Or.inl rfl))) ⟨sI_eq, fun i hi => ?_⟩⟩
    unfold padd
    rw [if_pos (by omega), aI_ne (by decide), aI_ne (k' := 81) (by decide), aI_ne (k' := 82) (k := 80) (by decide)]
    by_cases c2 : i = T
    · rw [c2, aI_eq, aI_eq, ud_ne (by omega), ud_eq, ud_eq]
      exact ⟨rfl, rfl⟩
    · rw [aI_ni c2, aI_ni c2, aI_ne (by decide), ud_ne (by omega), ud_ne (by omega), ud_ne (by omega), ud_ne (by omega)]
      exact p2 i (by omega)
end PAIRS
section FAILS
variable {X : Cx} {κ κ' : Km} {σ σ' : Rm} {F0 f w : Nat} {num val vo pl ca : Int32}
/-- a failure's number: the class counts from 1 on, 0 is none -/
def fm (x : Int32) : Int32 := if x = -9 then 0 else x + 1
def fok (F0 : Nat) (x : Int32) : Prop := x = -9 ∨ ∃ k, k < F0 ∧ x = nI k
theorem fmN9 : fm (-9) = 0 := rfl
theorem fm_nI {k : Nat} (h : k < 2147483648) : fm (nI k) = nI (k + 1) := by
  unfold fm
  rw [if_neg (neg9 h), nI_1]
theorem fok.up {x : Int32} (h : fok F0 x) : fok (F0 + 1) x := h.elim Or.inl (fun ⟨k, h1, h2⟩ => Or.inr ⟨k, by omega, h2⟩)
/-- a row of the failures -/
def Fr1 (κ : Km) (σ : Rm) (F0 k : Nat) : Prop := (kI κ 85 (8 * (k + 1)) = aI σ 89 k ∧ kI κ 85 (8 * (k + 1) + 1) = aI σ 90 k ∧ kI κ 85 (8 * (k + 1) + 2) = aI σ 91 k ∧ kI κ 85 (8 * (k + 1) + 3) = aI σ 92 k) ∧ (kI κ 85 (8 * (k + 1) + 4) = fm (aI σ 93 k) ∧ kI κ 85 (8 * (k + 1) + 5) = fm (aI σ 94 k) ∧ kI κ 85 (8 * (k + 1) + 6) = fm (aI σ 95 k) ∧ kI κ 85 (8 * (k + 1) + 7) = fm (aI σ 96 k)) ∧ (fok F0 (aI σ 93 k) ∧ fok F0 (aI σ 94 k) ∧ fok F0 (aI σ 95 k) ∧ fok F0 (aI σ 96 k)) ∧ (aI σ 94 k = -9 ↔ aI σ 95 k = -9) ∧ ∃ x, x ≤ 14 ∧ aI σ 89 k = nI x
/-- the failures of both -/
def FRl (κ : Km) (σ : Rm) (F0 : Nat) : Prop := (kI κ 84 1 = nI (F0 + 1) ∧ sI σ 88 = nI F0 ∧ F0 ≤ 7900) ∧ (8 * (F0 + 1) ≤ kW κ 85 ∧ 64 ≤ kW κ 85 ∧ kW κ 85 ≤ 140000) ∧ ∀ k, k < F0 → Fr1 κ σ F0 k
theorem FRl.fr (h : FRl κ σ F0) (e84 : kI κ' 84 1 = kI κ 84 1) (e85 : kI κ' 85 = kI κ 85) (ew : kW κ' 85 = kW κ 85) (es : ∀ k, 88 ≤ k → k ≤ 96 → aI σ' k = aI σ k) : FRl κ' σ' F0 := by
  unfold FRl Fr1
  rw [e84, e85, ew, show sI σ' 88 = sI σ 88 from congrFun (es 88 (by omega) (by omega)) 0, es 89 (by omega) (by omega), es 90 (by omega) (by omega), es 91 (by omega) (by omega), es 92 (by omega) (by omega), es 93 (by omega) (by omega), es 94 (by omega) (by omega), es 95 (by omega) (by omega), es 96 (by omega) (by omega)]
  exact h
/-- only the failures of the class are others -/
def Fo (κ κ' : Km) : Prop := KF (fun k => k = 84 ∨ k = 85) κ κ' ∧ RG κ κ' ∧ ∀ k, k ≠ 1 → kI κ' 84 k = kI κ 84 k
/-- a failure is made by the class -/
def FmC (κ κ' : Km) (F0 : Nat) (num val vo pl cc : Int32) : Prop := Fo κ κ' ∧ kI κ' 84 1 = nI (F0 + 2) ∧ (8 * (F0 + 2) ≤ kW κ' 85 ∧ 64 ≤ kW κ' 85 ∧ kW κ' 85 ≤ 140000) ∧ (∀ k, k < 8 * (F0 + 1) → kI κ' 85 k = kI κ 85 k) ∧ (kI κ' 85 (8 * (F0 + 1)) = num ∧ kI κ' 85 (8 * (F0 + 1) + 1) = val ∧ kI κ' 85 (8 * (F0 + 1) + 2) = vo ∧ kI κ' 85 (8 * (F0 + 1) + 3) = pl ∧ kI κ' 85 (8 * (F0 + 1) + 4) = cc ∧ kI κ' 85 (8 * (F0 + 1) + 5) = 0 ∧ kI κ' 85 (8 * (F0 + 1) + 6) = 0 ∧ kI κ' 85 (8 * (F0 + 1) + 7) = 0)
theorem kc_fmake {F : Int32 → Km → Prop} {cc : Int32} (h1 : kI κ 84 1 = nI (F0 + 1)) (hF : F0 < 7900) (hw : 8 * (F0 + 1) ≤ kW κ 85 ∧ 64 ≤ kW κ 85 ∧ kW κ 85 ≤ 140000) (q : ∀ κ', FmC κ κ' F0 num val vo pl cc → F (nI (F0 + 1)) κ') : KC' X 3 MX2_make [vR 84, vI num, vI val, vI vo, vI pl, vI cc] κ (kRI F) := by
  have go : ∀ κ3 : Km, Fo κ κ3 → kI κ3 84 1 = nI (F0 + 1) → (8 * (F0 + 2) ≤ kW κ3 85 ∧ 64 ≤ kW κ3 85 ∧ kW κ3 85 ≤ 140000) → (∀ k, k < 8 * (F0 + 1) → kI κ3 85 k = kI κ 85 k) → K X 3 MX2_make 40 [(0, vR 84), (1, vI num), (2, vI val), (3, vI vo), (4, vI pl), (5, vI cc), (6, vI (nI (8 * (F0 + 1))))] [] κ3 (kRI F) := fun κ3 fo e1 ew ek => by
    refine k_2_make_40 _ _ _ _ _ _ ?_
    rw [litI 0, nI_add, litI 2, nI_add, litI 3, nI_add, litI 4, nI_add, litI 5, nI_add, litI 6, nI_add, litI 7, nI_add, litI 1, nI_add, vpn (by omega), cl_nI (by omega)]
    refine ⟨by omega, ?_⟩
    rintro κa rfl
    rw [vpn (by omega), cl_nI (by omega)]
    refine ⟨by show _ < kW κ3 85; omega, ?_⟩
    rintro κb rfl
    rw [vpn (by omega), cl_nI (by omega)]
    refine ⟨by show _ < kW κ3 85; omega, ?_⟩
    rintro κc rfl
    rw [vpn (by omega), cl_nI (by omega)]
    refine ⟨by show _ < kW κ3 85; omega, ?_⟩
    rintro κd rfl
    rw [vpn (by omega), cl_nI (by omega)]
    refine ⟨by show _ < kW κ3 85; omega, ?_⟩
    rintro κe rfl
    rw [vpn (by omega), cl_nI (by omega)]
    refine ⟨by show _ < kW κ3 85; omega, ?_⟩
    rintro κf rfl
    rw [vpn (by omega), cl_nI (by omega)]
    refine ⟨by show _ < kW κ3 85; omega, ?_⟩
    rintro κg rfl
    rw [vpn (by omega), cl_nI (by omega)]
    refine ⟨by show _ < kW κ3 85; omega, ?_⟩
    rintro κh rfl κi rfl
    generalize hκ : cI (cI (cI (cI (cI (cI (cI (cI κ3 85 (8 * (F0 + 1) + 0) num) 85 (8 * (F0 + 1) + 1) val) 85 (8 * (F0 + 1) + 2) vo) 85 (8 * (F0 + 1) + 3) pl) 85 (8 * (F0 + 1) + 4) cc) 85 (8 * (F0 + 1) + 5) (nI 0)) 85 (8 * (F0 + 1) + 6) (nI 0)) 85 (8 * (F0 + 1) + 7) (nI 0) = κ8
    have e84 : kI κ8 84 = kI κ3 84 := by
      rw [← hκ, kI_ne (by decide), kI_ne (by decide), kI_ne (by decide), kI_ne (by decide), kI_ne (by decide), kI_ne (by decide), kI_ne (by decide), kI_ne (by decide)]
    have kw : kW κ8 = kW κ3 := by rw [← hκ]; rfl
    have kf : KF (fun k => k = 84 ∨ k = 85) κ3 κ8 := by
      rw [← hκ]
      exact (((((((KF.cI (Or.inr rfl)).trans (KF.cI (Or.inr rfl))).trans (KF.cI (Or.inr rfl))).trans (KF.cI (Or.inr rfl))).trans (KF.cI (Or.inr rfl))).trans (KF.cI (Or.inr rfl))).trans (KF.cI (Or.inr rfl))).trans (KF.cI (Or.inr rfl))
    have rg : RG κ3 κ8 := by
      rw [← hκ]
      exact ((((((RG.cI.trans RG.cI).trans RG.cI).trans RG.cI).trans RG.cI).trans RG.cI).trans RG.cI).trans RG.cI
    have cell : ∀ k, kI κ8 85 k = if k = 8 * (F0 + 1) + 7 then 0 else if k = 8 * (F0 + 1) + 6 then 0 else if k = 8 * (F0 + 1) + 5 then 0 else if k = 8 * (F0 + 1) + 4 then cc else if k = 8 * (F0 + 1) + 3 then pl else if k = 8 * (F0 + 1) + 2 then vo else if k = 8 * (F0 + 1) + 1 then val else if k = 8 * (F0 + 1) then num else kI κ3 85 k := fun k => by
      rw [← hκ]
      simp only [kI_cI, true_and, Nat.add_zero]
      rfl
    rw [e84, e1, nI_add, kI_eq, nI_sb (by omega)]
    refine ⟨_, rfl, ?_⟩
    rw [show F0 + 1 + 1 - 1 = F0 + 1 by omega]
    refine q _ ⟨⟨fo.1.trans (kf.trans (KF.cI (Or.inl rfl))), fo.2.1.trans (rg.trans RG.cI), fun k hk => by rw [kI_nk hk, e84]; exact fo.2.2 k hk⟩, kI_eq, by show _ ≤ kW κ8 85 ∧ 64 ≤ kW κ8 85 ∧ kW κ8 85 ≤ _; rw [kw]; exact ew, fun k hk => ?_, ?_, ?_, ?_, ?_, ?_, ?_, ?_, ?_⟩
    · rw [kI_ne (by decide), cell, if_neg (by omega), if_neg (by omega), if_neg (by omega), if_neg (by omega), if_neg (by omega), if_neg (by omega), if_neg (by omega), if_neg (by omega)]
      exact ek k hk
    · rw [kI_ne (by decide), cell, if_neg (by omega), if_neg (by omega), if_neg (by omega), if_neg (by omega), if_neg (by omega), if_neg (by omega), if_neg (by omega), if_pos rfl]
    · rw [kI_ne (by decide), cell, if_neg (by omega), if_neg (by omega), if_neg (by omega), if_neg (by omega), if_neg (by omega), if_neg (by omega), if_pos rfl]
    · rw [kI_ne (by decide), cell, if_neg (by omega), if_neg (by omega), if_neg (by omega), if_neg (by omega), if_neg (by omega), if_pos rfl]
    · rw [kI_ne (by decide), cell, if_neg (by omega), if_neg (by omega), if_neg (by omega), if_neg (by omega), if_pos rfl]
    · rw [kI_ne (by decide), cell, if_neg (by omega), if_neg (by omega), if_neg (by omega), if_pos rfl]
    · rw [kI_ne (by decide), cell, if_neg (by omega), if_neg (by omega), if_pos rfl]
    · rw [kI_ne (by decide), cell, if_neg (by omega), if_pos rfl]
    · rw [kI_ne (by decide), cell, if_pos rfl]
  refine KC_of_K rfl (Nat.le_of_ble_eq_true rfl) rfl (k_2_make_0 _ _ _ _ _ ?_)
  rw [h1, litI 8, pk_mul, nI_add, le_nI (by omega) (by omega), show (F0 + 1) * 8 = 8 * (F0 + 1) by omega]
  refine ⟨fun c => go κ ⟨KF.refl, RG.refl, fun _ _ => rfl⟩ h1 ⟨by omega, hw.2⟩ (fun _ _ => rfl), fun c => ⟨by omega, 2 * kW κ 85, by rw [litI 2, pk_mul], by omega, by omega, ?_⟩⟩
  rintro κ8 rfl
  refine go _ ⟨KF.row (Or.inr rfl), RG.row (by omega) (Nat.le_refl _) (by omega), fun k _ => by rw [kI_row, if_neg (by decide)]⟩ (by rw [kI_row, if_neg (by decide)]; exact h1) (by rw [kW_row, if_pos rfl]; omega) (fun k hk => ?_)
  rw [kI_row, if_pos rfl]
  show (if k < kW κ 85 then kI κ 85 k else 0) = _
  rw [if_pos (by omega)]
/-- a failure is made by the reference -/
def flS (σ : Rm) (F0 : Nat) (num val vo pl ca : Int32) : Rm := wI (wI (wI (wI (wI (wI (wI (wI (wS σ 88 (nI (F0 + 1))) 89 F0 num) 90 F0 val) 91 F0 vo) 92 F0 pl) 93 F0 ca) 94 F0 (-9)) 95 F0 (-9)) 96 F0 (-9)
theorem flS_ne {k : Nat} (hk : k < 88 ∨ 96 < k) : aI (flS σ F0 num val vo pl ca) k = aI σ k := by
  unfold flS
  rw [aI_ne (by omega), aI_ne (by omega), aI_ne (by omega), aI_ne (by omega), aI_ne (by omega), aI_ne (by omega), aI_ne (by omega), aI_ne (by omega), aI_ne (by omega)]
theorem flS_ni {k i : Nat} (hk : 89 ≤ k) (hi : i ≠ F0) : aI (flS σ F0 num val vo pl ca) k i = aI σ k i := by
  unfold flS
  rw [aI_ni hi, aI_ni hi, aI_ni hi, aI_ni hi, aI_ni hi, aI_ni hi, aI_ni hi, aI_ni hi, aI_ne (by omega)]
theorem ac_failure {F : Int32 → Rm → Prop} (h88 : sI σ 88 = nI F0) (hF : F0 < 8000) (q : F (nI F0) (flS σ F0 num val vo pl ca)) : AC X 92 0 MX13_failure [vR 92, vI num, vI val, vI vo, vI pl, vI ca] σ (aRI F) := by
  refine AC_of_A rfl (Nat.le_of_ble_eq_true rfl) rfl (a_failure_0 _ _ _ _ _ ?_)
  rw [h88, nI_1, vpn (by omega), cl_nI (by omega)]
  rintro s1 rfl
  refine ⟨hF, ?_⟩
  rintro s3 rfl
  refine ⟨hF, ?_⟩
  rintro s5 rfl
  refine ⟨hF, ?_⟩
  rintro s7 rfl
  refine ⟨hF, ?_⟩
  rintro s9 rfl
  refine ⟨hF, ?_⟩
  rintro s11 rfl
  refine ⟨hF, ?_⟩
  rintro s13 rfl
  refine ⟨hF, ?_⟩
  rintro s15 rfl
  refine ⟨hF, ?_⟩
  rintro s17 rfl
  exact ⟨_, rfl, q⟩
/-- both make the same failure -/
theorem FRl.make {x : Nat} (h : FRl κ σ F0) (hF : F0 < 7900) (hx : x ≤ 14) (hn : num = nI x) (hc : fok F0 ca) (c : FmC κ κ' F0 num val vo pl (fm ca)) : FRl κ' (flS σ F0 num val vo pl ca) (F0 + 1) := by
  obtain ⟨⟨h1, h2, h3⟩, h4, h5⟩ := h
  obtain ⟨c1, c2, c3, c4, c5, c6, c7, c8, c9, c10, c11, c12⟩ := c
  refine ⟨⟨c2, rfl, by omega⟩, c3, fun k hk => ?_⟩
  by_cases e : k = F0
  · subst e
    have e89 : aI (flS σ k num val vo pl ca) 89 k = num := by
      unfold flS
      rw [aI_ne (by decide), aI_ne (by decide), aI_ne (by decide), aI_ne (by decide), aI_ne (by decide), aI_ne (by decide), aI_ne (by decide), aI_eq]
    have e90 : aI (flS σ k num val vo pl ca) 90 k = val := by
      unfold flS
      rw [aI_ne (by decide), aI_ne (by decide), aI_ne (by decide), aI_ne (by decide), aI_ne (by decide), aI_ne (by decide), aI_eq]
    have e91 : aI (flS σ k num val vo pl ca) 91 k = vo := by
      unfold flS
      rw [aI_ne (by decide), aI_ne (by decide), aI_ne (by decide), aI_ne (by decide), aI_ne (by decide), aI_eq]
    have e92 : aI (flS σ k num val vo pl ca) 92 k = pl := by
      unfold flS
      rw [aI_ne (by decide), aI_ne (by decide), aI_ne (by decide), aI_ne (by decide), aI_eq]
    have e93 : aI (flS σ k num val vo pl ca) 93 k = ca := by
      unfold flS
      rw [aI_ne (by decide), aI_ne (by decide), aI_ne (by decide), aI_eq]
    have e94 : aI (flS σ k num val vo pl ca) 94 k = -9 := by
      unfold flS
      rw [aI_ne (by decide), aI_ne (by decide), aI_eq]
    have e95 : aI (flS σ k num val vo pl ca) 95 k = -9 := by
      unfold flS
      rw [aI_ne (by decide), aI_eq]
    have e96 : aI (flS σ k num val vo pl ca) 96 k = -9 := by
      unfold flS
      rw [aI_eq]
    unfold Fr1
    rw [e89, e90, e91, e92, e93, e94, e95, e96]
    exact ⟨⟨c5, c6, c7, c8⟩, ⟨c9, c10, c11, c12⟩, ⟨hc.up, Or.inl rfl, Or.inl rfl, Or.inl rfl⟩, Iff.rfl, x, hx, hn⟩
  · obtain ⟨g1, g2, ⟨g3, g4, g5, g6⟩, g7, g8⟩ := h5 k (by omega)
    unfold Fr1
    rw [c4 _ (by omega), c4 _ (by omega), c4 _ (by omega), c4 _ (by omega), c4 _ (by omega), c4 _ (by omega), c4 _ (by omega), c4 _ (by omega), flS_ni (by omega) e, flS_ni (by omega) e, flS_ni (by omega) e, flS_ni (by omega) e, flS_ni (by omega) e, flS_ni (by omega) e, flS_ni (by omega) e, flS_ni (by omega) e]
    exact ⟨g1, g2, ⟨g3.up, g4.up, g5.up, g6.up⟩, g7, g8⟩
/-- a place of a row of the class -/
theorem kc_fget {F : Int32 → Km → Prop} {k : Nat} (hw : 8 * (f + 1) + k < kW κ 85) (hw2 : kW κ 85 ≤ 140000) (q : F (kI κ 85 (8 * (f + 1) + k)) κ) : KC' X 0 MX2_get [vR 84, vI (nI (f + 1)), vI (nI k)] κ (kRI F) := by
  refine KC_of_K rfl (Nat.le_of_ble_eq_true rfl) rfl (k_2_get_0 _ _ ?_)
  rw [litI 8, pk_mul, nI_add, n0_lt (by omega), lt_nI (by omega) (by omega), vpn (by omega), cl_nI (by omega), show (f + 1) * 8 + k = 8 * (f + 1) + k by omega]
  exact ⟨fun z => z.elim, fun _ => ⟨fun _ => ⟨hw, k_2_get_30 _ _ _ _ ⟨_, rfl, q⟩⟩, fun z => absurd hw z⟩⟩
theorem kc_fput {F : Km → Prop} {k : Nat} {x : Int32} (hw : 8 * (f + 1) + k < kW κ 85) (hw2 : kW κ 85 ≤ 140000) (q : F (cI κ 85 (8 * (f + 1) + k) x)) : KC' X 0 MX2_put [vR 84, vI (nI (f + 1)), vI (nI k), vI x] κ (kRV F) := by
  refine KC_of_K rfl (Nat.le_of_ble_eq_true rfl) rfl (k_2_put_0 _ _ _ ?_)
  rw [litI 8, pk_mul, nI_add, n0_lt (by omega), le_nI (by omega) (by omega), vpn (by omega), cl_nI (by omega), show (f + 1) * 8 + k = 8 * (f + 1) + k by omega]
  refine ⟨fun z => z.elim, fun _ => ⟨fun z => absurd z (by omega), fun _ => ⟨hw, ?_⟩⟩⟩
  rintro κ4 rfl
  exact k_2_put_31 _ _ _ _ ⟨rfl, q⟩
theorem kc_fnumber {F : Int32 → Km → Prop} (h : FRl κ σ F0) (hf : f < F0) (q : F (aI σ 89 f) κ) : KC' X 1 MX2_number [vR 84, vI (nI (f + 1))] κ (kRI F) := by
  refine KC_of_K rfl (Nat.le_of_ble_eq_true rfl) rfl (k_2_number_0 _ ⟨0, by omega, ?_⟩)
  rw [litI 0]
  refine kc_fget (by have := h.2.1; omega) h.2.1.2.2 ⟨_, rfl, ?_⟩
  have e := (h.2.2 f hf).1.1
  rw [Nat.add_zero, e]
  exact q
theorem kc_fvalue {F : Int32 → Km → Prop} (h : FRl κ σ F0) (hf : f < F0) (q : F (aI σ 90 f) κ) : KC' X 1 MX2_value [vR 84, vI (nI (f + 1))] κ (kRI F) := by
  refine KC_of_K rfl (Nat.le_of_ble_eq_true rfl) rfl (k_2_value_0 _ ⟨0, by omega, ?_⟩)
  rw [litI 1]
  refine kc_fget (by have := h.2.1; omega) h.2.1.2.2 ⟨_, rfl, ?_⟩
  rw [(h.2.2 f hf).1.2.1]
  exact q
/-- one failure comes beneath another: the class's row -/
def bnK (κ : Km) (σ : Rm) (f w : Nat) : Km := if aI σ 95 f = -9 then cI (cI κ 85 (8 * (f + 1) + 5) (nI (w + 1))) 85 (8 * (f + 1) + 6) (nI (w + 1)) else cI (cI κ 85 (8 * ((aI σ 95 f).toNatClampNeg + 1) + 7) (nI (w + 1))) 85 (8 * (f + 1) + 6) (nI (w + 1))
def bnR (σ : Rm) (f w : Nat) : Rm := if aI σ 95 f = -9 then wI (wI σ 94 f (nI w)) 95 f (nI w) else wI (wI σ 96 (aI σ 95 f).toNatClampNeg (nI w)) 95 f (nI w)
theorem bnK_fo : Fo κ (bnK κ σ f w) := by
  unfold bnK
  split <;> exact ⟨(KF.cI (Or.inr rfl)).trans (KF.cI (Or.inr rfl)), RG.cI.trans RG.cI, fun k _ => by rw [kI_ne (by decide), kI_ne (by decide)]⟩
theorem bnR_ne {k : Nat} (hk : k < 94 ∨ 96 < k) : aI (bnR σ f w) k = aI σ k := by
  unfold bnR
  split
  · rw [aI_ne (by omega), aI_ne (by omega)]
  · rw [aI_ne (by omega), aI_ne (by omega)]
theorem kc_beneath {F : Km → Prop} (h : FRl κ σ F0) (hf : f < F0) (hw : w < F0) (q : F (bnK κ σ f w)) : KC' X 1 MX2_putBeneath [vR 84, vI (nI (f + 1)), vI (nI (w + 1))] κ (kRV F) := by
  have hwd := h.2.1
  have r := h.2.2 f hf
  unfold bnK at q
  refine KC_of_K rfl (Nat.le_of_ble_eq_true rfl) rfl (k_2_putBeneath_0 _ _ ⟨0, by omega, ?_⟩)
  rw [litI 6]
  refine kc_fget (by omega) hwd.2.2 ?_
  rw [r.2.1.2.2.1]
  rcases r.2.2.1.2.2.1 with e | ⟨l, l1, l2⟩
  · rw [if_pos e] at q
    rw [e, fmN9]
    refine ⟨fun _ => ⟨0, by omega, ?_⟩, fun z => absurd rfl z⟩
    rw [litI 5]
    refine kc_fput (by omega) hwd.2.2 (k_2_putBeneath_30 _ _ _ ⟨0, by omega, ?_⟩)
    rw [litI 6]
    exact kc_fput (by show _ < kW κ 85; omega) hwd.2.2 ⟨rfl, q⟩
  · rw [if_neg (by rw [l2]; exact neg9 (by omega)), l2, cl_nI (by have := h.1.2.2; omega)] at q
    have hF := h.1.2.2
    rw [l2, fm_nI (by omega)]
    refine ⟨fun z => absurd z (nI_ne0 (by omega) (by omega)), fun _ => ⟨0, by omega, ?_⟩⟩
    rw [litI 7]
    refine kc_fput (by omega) hwd.2.2 (k_2_putBeneath_30 _ _ _ ⟨0, by omega, ?_⟩)
    rw [litI 6]
    exact kc_fput (by show _ < kW κ 85; omega) hwd.2.2 ⟨rfl, q⟩
theorem ac_beneath {F : Rm → Prop} (h : FRl κ σ F0) (hf : f < F0) (hw : w < F0) (q : F (bnR σ f w)) : AC X 92 0 MX13_beneath [vR 92, vI (nI w), vI (nI f)] σ (aRV F) := by
  have r := h.2.2 f hf
  have hF := h.1.2.2
  unfold bnR at q
  refine AC_of_A rfl (Nat.le_of_ble_eq_true rfl) rfl (a_beneath_0 _ _ ?_)
  rw [vpn (by omega), cl_nI (by omega)]
  refine ⟨by omega, fun c => ⟨by omega, ?_⟩, fun c => ⟨by omega, ?_⟩⟩
  · rintro s4 rfl
    have e := r.2.2.2.1.mp c
    rw [if_pos e] at q
    refine a_beneath_33 _ _ ?_
    rw [vpn (by omega), cl_nI (by omega)]
    refine ⟨by omega, ?_⟩
    rintro s2 rfl
    exact ⟨rfl, q⟩
  · have e : ¬ aI σ 95 f = -9 := fun z => c (r.2.2.2.1.mpr z)
    rcases r.2.2.1.2.2.1 with e' | ⟨l, l1, l2⟩
    · exact absurd e' e
    · rw [if_neg e, l2, cl_nI (by omega)] at q
      rw [l2, vpn (by omega), cl_nI (by omega)]
      refine ⟨by omega, ?_⟩
      rintro s7 rfl
      refine a_beneath_33 _ _ ?_
      rw [vpn (by omega), cl_nI (by omega)]
      refine ⟨by omega, ?_⟩
      rintro s2 rfl
      exact ⟨rfl, q⟩
theorem FRl.beneath (h : FRl κ σ F0) (hf : f < F0) (hw : w < F0) : FRl (bnK κ σ f w) (bnR σ f w) F0 := by
  have r := h.2.2 f hf
  have hF := h.1.2.2
  obtain ⟨⟨h1, h2, h3⟩, h4, h5⟩ := h
  have ew : kW (bnK κ σ f w) = kW κ := by unfold bnK; split <;> rfl
  have hok : fok F0 (nI w) := Or.inr ⟨w, hw, rfl⟩
  refine ⟨⟨by rw [show kI (bnK κ σ f w) 84 1 = kI κ 84 1 by unfold bnK; split <;> rw [kI_ne (by decide), kI_ne (by decide)]]; exact h1, (congrFun (bnR_ne (by omega)) 0).trans h2, h3⟩, by rw [ew]; exact h4, fun k hk => ?_⟩
  obtain ⟨g1, ⟨g2a, g2b, g2c, g2d⟩, ⟨g3, g4, g5, g6⟩, g7, g8⟩ := h5 k hk
  rcases r.2.2.1.2.2.1 with e | ⟨l, l1, l2⟩
  · have eK : bnK κ σ f w = cI (cI κ 85 (8 * (f + 1) + 5) (nI (w + 1))) 85 (8 * (f + 1) + 6) (nI (w + 1)) := if_pos e
    have eR : bnR σ f w = wI (wI σ 94 f (nI w)) 95 f (nI w) := if_pos e
    unfold Fr1
    rw [eK, eR]
    by_cases c : k = f
    · subst c
      have z : ∀ q, q ≠ 5 → q ≠ 6 → q < 8 → kI (cI (cI κ 85 (8 * (k + 1) + 5) (nI (w + 1))) 85 (8 * (k + 1) + 6) (nI (w + 1))) 85 (8 * (k + 1) + q) = kI κ 85 (8 * (k + 1) + q) := fun q q1 q2 q3 => by rw [kI_nk (by omega), kI_nk (by omega)]
      have a : ∀ q, q ≠ 94 → q ≠ 95 → aI (wI (wI σ 94 k (nI w)) 95 k (nI w)) q = aI σ q := fun q q1 q2 => by rw [aI_ne q2, aI_ne q1]
      have z0 : kI (cI (cI κ 85 (8 * (k + 1) + 5) (nI (w + 1))) 85 (8 * (k + 1) + 6) (nI (w + 1))) 85 (8 * (k + 1)) = kI κ 85 (8 * (k + 1)) := by rw [kI_nk (by omega), kI_nk (by omega)]
      have z5 : kI (cI (cI κ 85 (8 * (k + 1) + 5) (nI (w + 1))) 85 (8 * (k + 1) + 6) (nI (w + 1))) 85 (8 * (k + 1) + 5) = nI (w + 1) := by rw [kI_nk (by omega), kI_eq]
      have a4 : aI (wI (wI σ 94 k (nI w)) 95 k (nI w)) 94 k = nI w := by rw [aI_ne (by decide), aI_eq]
      rw [z0, z 1 (by decide) (by decide) (by decide), z 2 (by decide) (by decide) (by decide), z 3 (by decide) (by decide) (by decide), z 4 (by decide) (by decide) (by decide), z 7 (by decide) (by decide) (by decide), z5, kI_eq, a4, aI_eq, a 89 (by decide) (by decide), a 90 (by decide) (by decide), a 91 (by decide) (by decide), a 92 (by decide) (by decide), a 93 (by decide) (by decide), a 96 (by decide) (by decide), fm_nI (by omega)]
      exact ⟨g1, ⟨g2a, rfl, rfl, g2d⟩, ⟨g3, hok, hok, g6⟩, ⟨fun y => absurd y (neg9 (by omega)), fun y => absurd y (neg9 (by omega))⟩, g8⟩
    · rw [kI_nk (by omega), kI_nk (by omega), kI_nk (by omega), kI_nk (by omega), kI_nk (by omega), kI_nk (by omega), kI_nk (by omega), kI_nk (by omega), kI_nk (by omega), kI_nk (by omega), kI_nk (by omega), kI_nk (by omega), kI_nk (by omega), kI_nk (by omega), kI_nk (by omega), kI_nk (by omega), aI_ni c, aI_ni c, aI_ni c, aI_ni c, aI_ni c, aI_ni c, aI_ni c, aI_ni c, aI_ni c, aI_ni c, aI_ni c, aI_ni c, aI_ni c, aI_ni c, aI_ni c, aI_ni c]
      exact ⟨g1, ⟨g2a, g2b, g2c, g2d⟩, ⟨g3, g4, g5, g6⟩, g7, g8⟩
  · have ne : ¬ aI σ 95 f = -9 := by rw [l2]; exact neg9 (by omega)
    have eK : bnK κ σ f w = cI (cI κ 85 (8 * (l + 1) + 7) (nI (w + 1))) 85 (8 * (f + 1) + 6) (nI (w + 1)) := by unfold bnK; rw [if_neg ne, l2, cl_nI (by omega)]
    have eR : bnR σ f w = wI (wI σ 96 l (nI w)) 95 f (nI w) := by unfold bnR; rw [if_neg ne, l2, cl_nI (by omega)]
    have nf : ¬ aI σ 94 f = -9 := fun z => ne (r.2.2.2.1.mp z)
    have k0 : ∀ j, j ≤ 5 → kI (bnK κ σ f w) 85 (8 * (k + 1) + j) = kI κ 85 (8 * (k + 1) + j) := fun j hj => by rw [eK, kI_nk (by omega), kI_nk (by omega)]
    have a0 : ∀ j, j < 95 → aI (bnR σ f w) j = aI σ j := fun j hj => by rw [eR, aI_ne (by omega), aI_ne (by omega)]
    have k6 : kI (bnK κ σ f w) 85 (8 * (k + 1) + 6) = fm (aI (bnR σ f w) 95 k) ∧ fok F0 (aI (bnR σ f w) 95 k) ∧ (aI σ 94 k = -9 ↔ aI (bnR σ f w) 95 k = -9) := by
      rw [eK, eR]
      by_cases c : k = f
      · subst c
        rw [kI_eq, aI_eq, fm_nI (by omega)]
        exact ⟨rfl, hok, fun z => absurd z nf, fun z => absurd z (neg9 (by omega))⟩
      · rw [kI_nk (by omega), kI_nk (by omega), aI_ni c, aI_ne (by decide)]
        exact ⟨g2c, g5, g7⟩
    have k7 : kI (bnK κ σ f w) 85 (8 * (k + 1) + 7) = fm (aI (bnR σ f w) 96 k) ∧ fok F0 (aI (bnR σ f w) 96 k) := by
      rw [eK, eR, kI_nk (by omega), aI_ne (by decide)]
      by_cases c : k = l
      · rw [c, kI_eq, aI_eq, fm_nI (by omega)]
        exact ⟨rfl, hok⟩
      · rw [kI_nk (by omega), aI_ni c]
        exact ⟨g2d, g6⟩
    have z0 := k0 0 (by omega)
    rw [Nat.add_zero] at z0
    unfold Fr1
    rw [z0, k0 1 (by omega), k0 2 (by omega), k0 3 (by omega), k0 4 (by omega), k0 5 (by omega), a0 89 (by omega), a0 90 (by omega), a0 91 (by omega), a0 92 (by omega), a0 93 (by omega), a0 94 (by omega)]
    exact ⟨g1, ⟨g2a, g2b, k6.1, k7.1⟩, ⟨g3, g4, k6.2.1, k7.2⟩, k6.2.2, g8⟩
end FAILS
