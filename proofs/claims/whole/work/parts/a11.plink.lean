/-! THE LINKER: its pieces -/
theorem k_3_linkBody_73z {X : Cx} {d : Nat} {κ : Km} {Q : Res → Km → Prop} (x1 : Int32) (x2 : Int32) (x3 : Int32) (x4 : Int32) (h : ∃ e1 : Nat, e1 + 1 ≤ d ∧ KC' X e1 MX9_placeOf [vR 72, vI x3] κ (kRI fun y4 κ6 => ∃ e8 : Nat, e8 + 1 ≤ d ∧ KC' X e8 MX7_noteWrongName [vR 67, vI y4] κ6 (kRV fun  κ11 => K X d MX3_linkBody 101 [(0, vR 78), (1, vI x1), (2, vI x2), (3, vI x3), (4, vI x4), (5, vR 0)] [] κ11 Q))) : K X d MX3_linkBody 73 [(0, vR 78), (1, vI x1), (2, vI x2), (3, vI x3), (4, vI x4), (5, vR 0)] [] κ Q := by
  refine K_p (pc2 := 74) (lv2 := [(0, vR 78), (1, vI _), (2, vI _), (3, vI _), (4, vI _), (5, vR 0)]) (st2 := [vR 78]) (fun ad S Q _ k => V_aload_n (pc2 := 74) (dk D_X3_linkBody 35 rfl) rfl (V_lg 0 rfl) rfl k) ?_
  refine K_getF kc3 (h' := 67) (pc2 := 77) 1 (by decide) (dk D_X3_linkBody 36 rfl) fl_3_15 (by decide) (fun _ _ => rfl) rfl (fixH 78 3 (by decide) rfl) (by decide) ?_
  refine K_p (pc2 := 78) (lv2 := [(0, vR 78), (1, vI _), (2, vI _), (3, vI _), (4, vI _), (5, vR 0)]) (st2 := [vR 78, vR 67]) (fun ad S Q _ k => V_aload_n (pc2 := 78) (dk D_X3_linkBody 37 rfl) rfl (V_lg 0 rfl) rfl k) ?_
  refine K_getF kc3 (h' := 72) (pc2 := 81) 0 (by decide) (dk D_X3_linkBody 38 rfl) fl_3_9 (by decide) (fun _ _ => rfl) rfl (fixH 78 3 (by decide) rfl) (by decide) ?_
  refine K_p (pc2 := 82) (lv2 := [(0, vR 78), (1, vI _), (2, vI _), (3, vI _), (4, vI _), (5, vR 0)]) (st2 := [vI _, vR 72, vR 67]) (fun ad S Q _ k => V_iload_n (pc2 := 82) (dk D_X3_linkBody 39 rfl) rfl (V_lg 3 rfl) rfl k) ?_
  obtain ⟨e1, he2, hc3⟩ := h
  refine K_call (as := [vR 72, vI _]) (st := [vR 67]) (pc2 := 85) (okL.all _ ⟨(Or.inr ⟨Or.inl ⟨by decide, by decide⟩, by decide⟩), trivial, trivial, trivial, trivial, Or.inl (by decide), trivial⟩) (okS.all _ ⟨(Or.inr ⟨Or.inl ⟨by decide, by decide⟩, by decide⟩), trivial⟩) (fun ad S Q Qc hC hc k => V_callV (as := [_]) (st := [_]) (M' := MX9_placeOf) (ci := 9) (pc2 := 85) (dk D_X3_linkBody 40 rfl) ml_3_92 mv_X9_placeOf rfl rfl (by decide) rfl (Nat.le_of_ble_eq_true rfl) rfl he2 (hC.k' (fixH 72 9 (by decide) rfl)) hc k) hc3 (kRI.k fun y4 κ6 h mo7 => ?_)
  obtain ⟨e8, he9, hc10⟩ := h
  refine K_call (as := [vR 67, vI _]) (st := []) (pc2 := 88) (okL.all _ ⟨(Or.inr ⟨Or.inl ⟨by decide, by decide⟩, by decide⟩), trivial, trivial, trivial, trivial, Or.inl (by decide), trivial⟩) (okS.all _ trivial) (fun ad S Q Qc hC hc k => V_callV (as := [_]) (st := []) (M' := MX7_noteWrongName) (ci := 7) (pc2 := 88) (dk D_X3_linkBody 41 rfl) ml_3_47 mv_X7_noteWrongName rfl rfl (by decide) rfl (Nat.le_of_ble_eq_true rfl) rfl he9 (hC.k' (fixH 67 7 (by decide) rfl)) hc k) hc10 (kRV.k fun  κ11 h mo12 => ?_)
  refine K_p (pc2 := 101) (lv2 := [(0, vR 78), (1, vI _), (2, vI _), (3, vI _), (4, vI _), (5, vR 0)]) (st2 := []) (fun ad S Q _ k => V_goto (tgt := 101) (dk D_X3_linkBody 42 rfl) (by decide) k) ?_
  exact h
theorem m1m1 {x : Int32} : (-1 : Int32) - (-1 - x) = x := by
  simp [Int32.sub_eq_add_neg, Int32.neg_add, ← Int32.add_assoc]
theorem m1_neg {t : Nat} (h : t < 2147483648) : ¬ (0 : Int32) ≤ -1 - nI t := by
  intro z
  rw [Int32.le_iff_toInt_le, Int32.toInt_sub, nI_toInt (by omega)] at z
  have e1 : (-1 : Int32).toInt = -1 := by decide
  have e0 : (0 : Int32).toInt = 0 := by decide
  rw [e1, e0, Int.bmod_eq_of_le (by omega) (by omega)] at z
  omega
theorem dv8 {a : Nat} (h : a < 1000000000) : nI a / 8 = nI (a / 8) := by
  rw [litI 8, pk_div (by omega) (by omega) (by omega)]
theorem md8 {a : Nat} (h : a < 1000000000) : nI a - nI a / 8 * 8 = nI (a % 8) := by
  rw [dv8 h, litI 8, pk_mul, nI_sb (by omega)]
  congr 1
  omega
section CODES
variable {X : Cx} {κ : Km}
/-- the rows of acts have m places and more -/
def CdW (κ : Km) (m : Nat) : Prop := kI κ 68 2 = nI m ∧ m ≤ 20000 ∧ m ≤ kW κ 69 ∧ m ≤ kW κ 70
theorem kc_actC {F : Int32 → Km → Prop} {k m : Nat} (h : CdW κ m) (hk : k < m) (q : F (kI κ 69 k) κ) : KC' X 0 MX1_act [vR 68, vI (nI k)] κ (kRI F) := by
  obtain ⟨h1, h2, h3, h4⟩ := h
  refine KC_of_K rfl (Nat.le_of_ble_eq_true rfl) rfl (k_1_act_0 _ ?_)
  rw [n0_lt (by omega), h1, lt_nI (by omega) (by omega), vpn (by omega), cl_nI (by omega)]
  exact ⟨fun z => z.elim, fun _ => ⟨fun _ => ⟨by omega, k_1_act_22 _ _ ⟨_, rfl, q⟩⟩, fun z => absurd hk z⟩⟩
theorem kc_argC {F : Int32 → Km → Prop} {k m : Nat} (h : CdW κ m) (hk : k < m) (q : F (kI κ 70 k) κ) : KC' X 0 MX1_argument [vR 68, vI (nI k)] κ (kRI F) := by
  obtain ⟨h1, h2, h3, h4⟩ := h
  refine KC_of_K rfl (Nat.le_of_ble_eq_true rfl) rfl (k_1_argument_0 _ ?_)
  rw [n0_lt (by omega), h1, lt_nI (by omega) (by omega), vpn (by omega), cl_nI (by omega)]
  exact ⟨fun z => z.elim, fun _ => ⟨fun _ => ⟨by omega, k_1_argument_22 _ _ ⟨_, rfl, q⟩⟩, fun z => absurd hk z⟩⟩
theorem kc_patchC {F : Km → Prop} {k m : Nat} {v : Int32} (h : CdW κ m) (hk : k < m) (q : F (cI κ 70 k v)) : KC' X 0 MX1_patch [vR 68, vI (nI k), vI v] κ (kRV F) := by
  obtain ⟨h1, h2, h3, h4⟩ := h
  refine KC_of_K rfl (Nat.le_of_ble_eq_true rfl) rfl (k_1_patch_0 _ _ ?_)
  rw [n0_lt (by omega), h1, le_nI (by omega) (by omega), vpn (by omega), cl_nI (by omega)]
  refine ⟨fun z => z.elim, fun _ => ⟨fun z => absurd z (by omega), fun _ => ⟨by omega, ?_⟩⟩⟩
  rintro κ1 rfl
  exact k_1_patch_19 _ _ ⟨rfl, q⟩
/-- the body of a number; null for -9 -/
theorem kc_sat {F : Nat → Km → Prop} {i n : Nat} (hn : kI κ 67 2 = nI n) (h12 : n ≤ 12) (hi : i < n) (hB : n ≤ kB κ) (q : F (1000 + 8 * i) κ) : KC' X 0 MX7_at [vR 67, vI (nI i)] κ (kRR F) := by
  refine KC_of_K rfl (Nat.le_of_ble_eq_true rfl) rfl (k_7_at_0 _ ?_)
  rw [n0_lt (by omega), hn, le_nI (by omega) (by omega), litI 12, lt_nI (by omega) (by omega), vpn (by omega), cl_nI (by omega), if_pos (by omega)]
  exact ⟨fun z => z.elim, fun _ => ⟨fun z => absurd z (by omega), fun _ => ⟨fun _ => ⟨by omega, k_7_at_28 _ _ ⟨_, rfl, q⟩⟩, fun z => absurd (by omega) z⟩⟩⟩
theorem kc_sat0 {F : Nat → Km → Prop} (q : F 0 κ) : KC' X 0 MX7_at [vR 67, vI (-9)] κ (kRR F) :=
  KC_of_K rfl (Nat.le_of_ble_eq_true rfl) rfl (k_7_at_0 _ ⟨fun _ => k_7_at_18 _ (k_7_at_28 _ _ ⟨_, rfl, q⟩), fun z => absurd (by decide) z⟩)
theorem kc_ssize {F : Int32 → Km → Prop} (q : F (kI κ 67 2) κ) : KC' X 0 MX7_size [vR 67] κ (kRI F) := KC_of_K rfl (Nat.le_of_ble_eq_true rfl) rfl (k_7_size_0 ⟨_, rfl, q⟩)
theorem kc_wrongName {F : Int32 → Km → Prop} (q : F (kI κ 67 3) κ) : KC' X 0 MX7_wrongName [vR 67] κ (kRI F) := KC_of_K rfl (Nat.le_of_ble_eq_true rfl) rfl (k_7_wrongName_0 ⟨_, rfl, q⟩)
end CODES
section LINK
variable {X : Cx} {N m i p : Nat} {κa κ κ' : Km}
/-- the linker's work: arguments of acts, the wrong name; nothing else -/
def LkF (κa κ : Km) : Prop := (∀ h, h ≠ 67 → h ≠ 70 → kI κ h = kI κa h) ∧ (∀ k, k ≠ 3 → kI κ 67 k = kI κa 67 k) ∧ κ.2 = κa.2
theorem LkF.refl : LkF κ κ := ⟨fun _ _ _ => rfl, fun _ _ => rfl, rfl⟩
theorem LkF.trans {κ1 κ2 : Km} (a : LkF κ κ1) (b : LkF κ1 κ2) : LkF κ κ2 := ⟨fun h h1 h2 => (b.1 h h1 h2).trans (a.1 h h1 h2), fun k hk => (b.2.1 k hk).trans (a.2.1 k hk), b.2.2.trans a.2.2⟩
theorem LkF.c70 {k : Nat} {v : Int32} : LkF κ (cI κ 70 k v) := ⟨fun h _ h2 => kI_ne h2, fun k _ => by rw [kI_ne (by decide)], rfl⟩
theorem lkF_nt {f : Nat} : LkF κ (nt κ f) := by
  unfold nt
  split
  · exact ⟨fun h h1 _ => kI_ne h1, fun k hk => kI_nk hk, rfl⟩
  · exact LkF.refl
theorem nt_70 {f : Nat} : kI (nt κ f) 70 = kI κ 70 := by
  unfold nt
  split
  · exact kI_ne (by decide)
  · rfl
theorem LkF.w (h : LkF κa κ) : kL κ = kL κa ∧ kW κ = kW κa ∧ kB κ = kB κa ∧ kV κ = kV κa := by
  have e := h.2.2
  refine ⟨?_, ?_, ?_, ?_⟩
  · show κ.2.1 = κa.2.1; rw [e]
  · show κ.2.2.1 = κa.2.2.1; rw [e]
  · show κ.2.2.2.2.1 = κa.2.2.2.2.1; rw [e]
  · show κ.2.2.2.2.2.1 = κa.2.2.2.2.2.1; rw [e]
theorem LkF.cd (h : LkF κa κ) (c : CdW κa m) : CdW κ m := by
  obtain ⟨c1, c2, c3, c4⟩ := c
  unfold CdW
  rw [h.1 68 (by decide) (by decide), h.w.2.1]
  exact ⟨c1, c2, c3, c4⟩
theorem LkF.tw {q : Nat} (h : LkF κa κ) (c : TW κa q) : TW κ q := by
  unfold TW at *
  rw [h.1 72 (by decide) (by decide), h.w.2.1]
  exact c
/-- the places of tokens -/
def TkP (N : Nat) (κa : Km) : Prop := (∀ t, t ≤ N → ∃ f, f < 3001 ∧ kI κa 75 t = nI f) ∧ ∃ q, N < q ∧ q ≤ 3001 ∧ TW κa q
/-- a body that is to be linked -/
def LkB (N m : Nat) (κa : Km) (i : Nat) : Prop := i < kB κa ∧ i < 12 ∧ (kI κa (1000 + 8 * i) 5 = nI (cV κa i) ∧ cV κa i ≤ 12 ∧ kW κa (1001 + 8 * i) = 12) ∧ (kI κa (1000 + 8 * i) 6 = nI (bdS κa i) ∧ kI κa (1000 + 8 * i) 7 = nI (bdE κa i) ∧ bdS κa i ≤ bdE κa i ∧ bdE κa i ≤ m) ∧ (kI κa (1000 + 8 * i) 8 = -9 ∨ ∃ f, f < 3001 ∧ kI κa (1000 + 8 * i) 8 = nI f) ∧
  ∀ k, bdS κa i ≤ k → k < bdE κa i → (kI κa 69 k = 2 ∨ kI κa 69 k = 3 → ∃ t, t ≤ N ∧ kI κa 70 k = -1 - nI t) ∧ (kI κa 69 k = 3 → kI κa (1000 + 8 * i) 8 = -9 → ∀ t, t ≤ N → kI κa 70 k = -1 - nI t → ∃ v, v < cV κa i ∧ kL κa (1001 + 8 * i) v = kL κa 76 t) ∧ (kI κa 69 k = 23 ∨ kI κa 69 k = 24 → ∃ t m, t ≤ N ∧ m < 8 ∧ kI κa 70 k = nI (8 * t + m))
/-- body c is the first one with the name of token t, of kind s, with so many arguments -/
def AskC (κa : Km) (b t s m c : Nat) : Prop := c < b ∧ kL κa (1000 + 8 * c) 1 = kL κa 76 t ∧ (∀ u, u < c → kL κa (1000 + 8 * u) 1 ≠ kL κa 76 t) ∧ kI κa (1000 + 8 * c) 2 = nI s ∧ kI κa (1000 + 8 * c) 4 = nI m
/-- what the argument of an act has become -/
def Lkd (N b : Nat) (κa : Km) (i k : Nat) (x : Int32) : Prop := (kI κa 69 k = 2 ∨ kI κa 69 k = 3 → ∀ t, t ≤ N → kI κa 70 k = -1 - nI t → (∃ v, VnR κa i t v ∧ x = nI v) ∨ ((∀ v, v < cV κa i → kL κa (1001 + 8 * i) v ≠ kL κa 76 t) ∧ x = kI κa 70 k)) ∧
  (kI κa 69 k = 23 ∨ kI κa 69 k = 24 → ∀ t m, t ≤ N → m < 8 → kI κa 70 k = nI (8 * t + m) → ∀ c, AskC κa b t (if kI κa 69 k = 23 then 1 else 0) m c → x = nI c) ∧
  (kI κa 69 k ≠ 2 → kI κa 69 k ≠ 3 → kI κa 69 k ≠ 23 → kI κa 69 k ≠ 24 → x = kI κa 70 k)
/-- body i is linked up to p -/
def LkP (N b : Nat) (κa : Km) (i p : Nat) (κ : Km) : Prop := LkF κa κ ∧ (∀ k, bdS κa i ≤ k → k < bdE κa i → (p ≤ k → kI κ 70 k = kI κa 70 k) ∧ (k < p → Lkd N b κa i k (kI κ 70 k))) ∧ (∀ j k, j < i → bdS κa j ≤ k → k < bdE κa j → Lkd N b κa j k (kI κ 70 k)) ∧ ∀ j k, i < j → j < b → bdS κa j ≤ k → k < bdE κa j → kI κ 70 k = kI κa 70 k
/-- bodies stand one behind another -/
def LkO (b : Nat) (κa : Km) : Prop := ∀ i j, i < j → j < b → bdE κa i ≤ bdS κa j
/-- what is wrong with an act -/
def Fla (N b : Nat) (κa : Km) (i k p : Nat) : Prop := (kI κa 69 k = 2 ∧ ∃ t, t ≤ N ∧ kI κa 70 k = -1 - nI t ∧ MsC N κa i (bdS κa i) (bdE κa i) t ∧ p = plT κa t) ∨ ((kI κa 69 k = 23 ∨ kI κa 69 k = 24) ∧ ∃ t m, t ≤ N ∧ m < 8 ∧ kI κa 70 k = nI (8 * t + m) ∧ (∀ c, ¬ AskC κa b t (if kI κa 69 k = 23 then 1 else 0) m c) ∧ p = plT κa t)
/-- the wrong name, and what is wrong -/
def Wn (κ : Km) (S : Nat → Prop) : Prop := (kI κ 67 3 = -9 ∨ ∃ g, g < 3001 ∧ kI κ 67 3 = nI g) ∧ Lst S (fN (kI κ 67 3))
theorem Wn.note {S S' : Nat → Prop} {f : Nat} (h : Wn κ S) (hf : f < 3001) (e : ∀ p, S' p ↔ S p ∨ p = f) : Wn (nt κ f) S' := by
  obtain ⟨h1, h2⟩ := h
  obtain ⟨n1, g, n2, n3⟩ := nt_fN (f := f) h1 hf
  refine ⟨Or.inr ⟨g, n2, n3⟩, ?_⟩
  rw [n1]
  exact (h2.or (Lst.one (by omega))).cong (fun p _ => (e p).symm)
theorem Wn.same {S S' : Nat → Prop} (h : Wn κ S) (e3 : kI κ' 67 3 = kI κ 67 3) (e : ∀ p, S' p ↔ S p) : Wn κ' S' := by
  unfold Wn
  rw [e3]
  exact ⟨h.1, h.2.cong (fun p _ => (e p).symm)⟩
theorem kc_isStored {F : Int32 → Km → Prop} {t b : Nat} (hb : LkB N m κa i) (cd : CdW κa m) (tp : TkP N κa) (lp : LkP N b κa i p κ) (nv : ∀ v, v < cV κa i → kL κa (1001 + 8 * i) v ≠ kL κa 76 t)
    (q1 : (∃ k s, bdS κa i ≤ k ∧ k < bdE κa i ∧ kI κa 69 k = 3 ∧ s ≤ N ∧ kI κa 70 k = -1 - nI s ∧ kL κa 76 s = kL κa 76 t) → F 1 κ) (q0 : (∀ k s, bdS κa i ≤ k → k < bdE κa i → kI κa 69 k = 3 → s ≤ N → kI κa 70 k = -1 - nI s → kL κa 76 s ≠ kL κa 76 t) → F 0 κ) : KC' X 1 MX3_isStored [vR 78, vR (1000 + 8 * i), vL (kL κa 76 t)] κ (kRI F) := by
  obtain ⟨b1, b2, ⟨b3, b4, b5⟩, ⟨b6, b7, b8, b9⟩, b10, b11⟩ := hb
  obtain ⟨tp1, q, tq1, tq2, tq3⟩ := tp
  have lf := lp.1
  have hB : i < kB κ := by rw [lf.w.2.2.1]; exact b1
  have eb : kI κ (1000 + 8 * i) = kI κa (1000 + 8 * i) := lf.1 _ (by omega) (by omega)
  have e69 : kI κ 69 = kI κa 69 := lf.1 69 (by decide) (by decide)
  have e76 : kL κ 76 = kL κa 76 := by rw [lf.w.1]
  have hm := cd.2.1
  have loop : ∀ (r k : Nat), bdE κa i ≤ k + r → bdS κa i ≤ k → (∀ k' s, bdS κa i ≤ k' → k' < k → k' < bdE κa i → kI κa 69 k' = 3 → s ≤ N → kI κa 70 k' = -1 - nI s → kL κa 76 s ≠ kL κa 76 t) → k ≤ bdE κa i → K X 1 MX3_isStored 6 [(0, vR 78), (1, vR (1000 + 8 * i)), (2, vL (kL κa 76 t)), (4, vI (nI k))] [] κ (kRI F) := by
    intro r
    induction r with
    | zero =>
      intro k hk hs no hle
      refine k_3_isStored_6 _ _ _ ⟨isH_body hB, ?_⟩
      rw [eb, b7, le_nI (by omega) (by omega)]
      exact ⟨fun _ => k_3_isStored_80 _ _ _ ⟨_, rfl, q0 (fun k' s h1 h2 => no k' s h1 (by omega) h2)⟩, fun z => absurd (by omega) z⟩
    | succ r ih =>
      intro k hk hs no hle
      refine k_3_isStored_6 _ _ _ ⟨isH_body hB, ?_⟩
      rw [eb, b7, le_nI (by omega) (by omega)]
      refine ⟨fun z => k_3_isStored_80 _ _ _ ⟨_, rfl, q0 (fun k' s h1 h2 => no k' s h1 (by omega) h2)⟩, fun z => ⟨fun c8 => k_3_isStored_80 _ _ _ ⟨_, rfl, q0 (fun k' s h1 h2 h3 h4 h5 h6 => ?_)⟩, fun c8 => ⟨0, by omega, kc_actC (lf.cd cd) (by omega) ?_⟩⟩⟩
      · obtain ⟨v, v1, v2⟩ := (b11 k' h1 h2).2.1 h3 c8 s h4 h5
        exact nv v v1 (v2.trans h6)
      · have go : (∀ s, kI κa 69 k = 3 → s ≤ N → kI κa 70 k = -1 - nI s → kL κa 76 s ≠ kL κa 76 t) → K X 1 MX3_isStored 74 [(0, vR 78), (1, vR (1000 + 8 * i)), (2, vL (kL κa 76 t)), (4, vI (nI k))] [] κ (kRI F) := fun no2 => k_3_isStored_74 _ _ _ (by
          rw [nI_1]
          refine ih (k + 1) (by omega) (by omega) (fun k' s h1 h2 h3 => ?_) (by omega)
          by_cases c : k' = k
          · subst c; exact no2 s
          · exact no k' s h1 (by omega) h3)
        rw [e69]
        refine ⟨fun c3 => ⟨0, by omega, kc_argC (lf.cd cd) (by omega) ⟨fun cn => go (fun s _ hs' es => ?_), fun cn => ⟨0, by omega, kc_argC (lf.cd cd) (by omega) ?_⟩⟩⟩, fun c3 => go (fun s z => absurd z c3)⟩
        · -- it is linked: its name is a variable
          by_cases cp : p ≤ k
          · rw [((lp.2.1 k hs (by omega)).1 cp), es] at cn
            exact absurd cn (m1_neg (by omega))
          · rcases (((lp.2.1 k hs (by omega)).2 (by omega)).1 (Or.inr c3) s hs' es) with ⟨v, v1, v2⟩ | ⟨v1, v2⟩
            · exact fun z => nv v v1.1 (v1.2.1.trans z)
            · rw [v2, es] at cn
              exact absurd cn (m1_neg (by omega))
        · obtain ⟨s, s1, s2⟩ := (b11 k hs (by omega)).1 (Or.inr c3)
          have e70 : kI κ 70 k = -1 - nI s := by
            by_cases cp : p ≤ k
            · rw [((lp.2.1 k hs (by omega)).1 cp), s2]
            · rcases (((lp.2.1 k hs (by omega)).2 (by omega)).1 (Or.inr c3) s s1 s2) with ⟨v, v1, v2⟩ | ⟨v1, v2⟩
              · exact absurd (by rw [v2, n0_le (by have := v1.1; omega)]; trivial) cn
              · rw [v2, s2]
          rw [e70, m1m1]
          refine ⟨0, by omega, kc_valueOf (lf.tw tq3) tq2 (by omega) ?_⟩
          rw [e76, lg0]
          refine ⟨fun c => ⟨_, rfl, q1 ⟨k, s, hs, by omega, c3, s1, s2, c⟩⟩, fun c => go (fun s' _ hs' es' => ?_)⟩
          have : s' = s := m1_inj (by omega) (by omega) (es'.symm.trans s2)
          subst this
          exact c
  refine KC_of_K rfl (Nat.le_of_ble_eq_true rfl) rfl (k_3_isStored_0 _ _ ⟨isH_body hB, ?_⟩)
  rw [eb, b6]
  exact loop (bdE κa i) _ (by omega) (Nat.le_refl _) (fun k' s h1 h2 => absurd h1 (by omega)) b8
theorem VnR.uniq {b t v w : Nat} (a : VnR κ b t v) (c : VnR κ b t w) : v = w := by
  rcases Nat.lt_trichotomy v w with z | z | z
  · exact absurd a.2.1 (c.2.2 v z)
  · exact z
  · exact absurd c.2.1 (a.2.2 w z)
/-- acts before p stay, act p is new -/
theorem LkP.put {b : Nat} {κ2 : Km} (lp : LkP N b κa i p κ) (ho : LkO b κa) (hi : i < b) (h1 : bdS κa i ≤ p) (h2 : p < bdE κa i) (f : LkF κ κ2) (h : ∀ k, k ≠ p → kI κ2 70 k = kI κ 70 k) (hp : Lkd N b κa i p (kI κ2 70 p)) : LkP N b κa i (p + 1) κ2 := by
  refine ⟨lp.1.trans f, fun k h1 h2 => ⟨fun c => ?_, fun c => ?_⟩, fun j k g1 g2 g3 => ?_, fun j k g1 g2 g3 g4 => ?_⟩
  · rw [h k (by omega)]; exact (lp.2.1 k h1 h2).1 (by omega)
  · by_cases e : k = p
    · subst e; exact hp
    · rw [h k e]; exact (lp.2.1 k h1 h2).2 (by omega)
  · have := ho j i g1 hi
    rw [h k (by omega)]; exact lp.2.2.1 j k g1 g2 g3
  · have := ho i j g1 g2
    rw [h k (by omega)]; exact lp.2.2.2 j k g1 g2 g3 g4
theorem cI70 {k j : Nat} {v : Int32} (h : j ≠ k) : kI (cI κ 70 k v) 70 j = kI κ 70 j := kI_nk h
theorem kc_linkVariable {F : Km → Prop} {b : Nat} {S : Nat → Prop} (ho : LkO b κa) (hi : i < b) (hb : LkB N m κa i) (cd : CdW κa m) (tp : TkP N κa) (lp : LkP N b κa i p κ) (wn : Wn κ S) (h1 : bdS κa i ≤ p) (h2 : p < bdE κa i) (ha : kI κa 69 p = 2 ∨ kI κa 69 p = 3)
    (q : ∀ κ2, LkP N b κa i (p + 1) κ2 → Wn κ2 (fun z => S z ∨ Fla N b κa i p z) → F κ2) : KC' X 2 MX3_linkVariable [vR 78, vR (1000 + 8 * i), vI (nI p)] κ (kRV F) := by
  have hb' := hb
  obtain ⟨b1, b2, ⟨b3, b4, b5⟩, ⟨b6, b7, b8, b9⟩, b10, b11⟩ := hb
  have tp' := tp
  obtain ⟨tp1, w, tq1, tq2, tq3⟩ := tp
  have lf := lp.1
  have hm := cd.2.1
  have hB : i < kB κ := by rw [lf.w.2.2.1]; exact b1
  have eb : kI κ (1000 + 8 * i) = kI κa (1000 + 8 * i) := lf.1 _ (by omega) (by omega)
  have e69 : kI κ 69 = kI κa 69 := lf.1 69 (by decide) (by decide)
  have e75 : kI κ 75 = kI κa 75 := lf.1 75 (by decide) (by decide)
  obtain ⟨t, t1, t2⟩ := (b11 p h1 h2).1 ha
  have e70 : kI κ 70 p = -1 - nI t := ((lp.2.1 p h1 h2).1 (Nat.le_refl _)).trans t2
  have noA : ¬ (kI κa 69 p = 23 ∨ kI κa 69 p = 24) := by
    rcases ha with z | z <;> rw [z] <;> decide
  have tt : ∀ s, s ≤ N → kI κa 70 p = -1 - nI s → s = t := fun s hs es => m1_inj (by omega) (by omega) (es.symm.trans t2)
  have keep : ∀ κ2 : Km, LkF κ κ2 → kI κ2 70 = kI κ 70 → (∀ v, v < cV κa i → kL κa (1001 + 8 * i) v ≠ kL κa 76 t) → LkP N b κa i (p + 1) κ2 := fun κ2 f e nv => lp.put ho hi h1 h2 f (fun k _ => by rw [e]) ⟨fun _ s hs es => Or.inr (by rw [tt s hs es]; exact ⟨nv, by rw [e, e70, t2]⟩), fun z => absurd z noA, fun n2 n3 => absurd ha (by rintro (z | z); exact n2 z; exact n3 z)⟩
  refine KC_of_K rfl (Nat.le_of_ble_eq_true rfl) rfl (k_3_linkVariable_0 _ _ ⟨isH_body hB, 0, by omega, kc_argC (lf.cd cd) (by omega) ⟨0, by omega, ?_⟩⟩)
  rw [e70, m1m1]
  have ei : 1000 + 8 * i + 1 = 1001 + 8 * i := by omega
  refine kc_valueOf (lf.tw tq3) tq2 (by omega) ⟨0, by omega, kc_find (isH_body hB) (by rw [ei]; exact isH_names hB) (by rw [eb]; exact b3) b4 (by rw [ei, lf.w.2.1]; exact b5) (fun y fy => ?_)⟩
  unfold FstK at fy
  rw [ei, lf.w.1] at fy
  rcases fy with ⟨v, v1, v2, v3, v4⟩ | ⟨v2, nv⟩
  · subst v2
    refine ⟨fun z => absurd z (neg9 (by omega)), fun _ => ⟨0, by omega, kc_patchC (lf.cd cd) (by omega) (k_3_linkVariable_86 _ _ _ _ _ ⟨rfl, q _ (lp.put ho hi h1 h2 LkF.c70 (fun k hk => cI70 hk) ?_) (wn.same (by rw [kI_ne (by decide)]) (fun z => ⟨fun g => g.elim id (fun g => ?_), Or.inl⟩))⟩)⟩⟩
    · refine ⟨fun _ s hs es => Or.inl ⟨v, ?_, kI_eq⟩, fun z => absurd z noA, fun n2 n3 => absurd ha (by rintro (z | z); exact n2 z; exact n3 z)⟩
      rw [tt s hs es]
      exact ⟨v1, v3, v4⟩
    · rcases g with ⟨g1, s, s1, s2, s3, -⟩ | ⟨g, -⟩
      · rw [tt s s1 s2] at s3
        exact absurd v3 (s3.1 v v1)
      · exact absurd g noA
  · subst v2
    refine ⟨fun _ => ⟨0, by omega, kc_actC (lf.cd cd) (by omega) ?_⟩, fun z => absurd rfl z⟩
    rw [e69]
    refine ⟨fun c2 => ⟨1, by omega, ?_⟩, fun c2 => k_3_linkVariable_86 _ _ _ _ _ ⟨rfl, q _ (keep κ LkF.refl rfl nv) (wn.same rfl (fun z => ⟨fun g => g.elim id (fun g => ?_), Or.inl⟩))⟩⟩
    · rw [lf.w.1]
      refine kc_isStored hb' cd tp' lp nv (fun ex => ⟨fun z => absurd z (by decide), fun _ => k_3_linkVariable_86 _ _ _ _ _ ⟨rfl, q _ (keep κ LkF.refl rfl nv) (wn.same rfl (fun z => ⟨fun g => g.elim id (fun g => ?_), Or.inl⟩))⟩⟩) (fun no => ⟨fun _ => ⟨0, by omega, kc_placeOf (lf.tw tq3) tq2 (by omega) ⟨0, by omega, ?_⟩⟩, fun z => absurd rfl z⟩)
      · rcases g with ⟨g1, s, s1, s2, s3, -⟩ | ⟨g, -⟩
        · obtain ⟨k, s', k1, k2, k3, k4, k5, k6⟩ := ex
          rw [tt s s1 s2] at s3
          exact absurd k6 (s3.2 k s' k1 k2 k3 k4 k5)
        · exact absurd g noA
      · obtain ⟨f, f1, f2⟩ := tp1 t t1
        have ef : plT κa t = f := by unfold plT; rw [f2, cl_nI (by omega)]
        rw [e75, f2]
        refine kc_note (k_3_linkVariable_86 _ _ _ _ _ ⟨rfl, q _ (keep _ lkF_nt nt_70 nv) (wn.note f1 (fun z => ⟨fun g => g.elim Or.inl (fun g => Or.inr ?_), fun g => g.elim Or.inl (fun g => Or.inr (Or.inl ⟨c2, t, t1, t2, ⟨nv, no⟩, by rw [ef]; exact g⟩))⟩))⟩)
        rcases g with ⟨g1, s, s1, s2, s3, s4⟩ | ⟨g, -⟩
        · rw [tt s s1 s2, ef] at s4
          exact s4
        · exact absurd g noA
    · rcases g with ⟨g1, -⟩ | ⟨g, -⟩
      · exact absurd g1 c2
      · exact absurd g noA
theorem AskC.uniq {b t s n c c' : Nat} (h : AskC κ b t s n c) (g : AskC κ b t s n c') : c = c' := by
  rcases Nat.lt_trichotomy c c' with z | z | z
  · exact absurd h.2.1 (g.2.2.1 c z)
  · exact z
  · exact absurd g.2.1 (h.2.2.1 c' z)
/-- the bodies that may be called -/
def LkS (b : Nat) (κa : Km) : Prop := kI κa 67 2 = nI b ∧ b ≤ 12 ∧ b ≤ kB κa ∧ ∀ c, c < b → ∃ s n, s < 2 ∧ n < 8 ∧ kI κa (1000 + 8 * c) 2 = nI s ∧ kI κa (1000 + 8 * c) 4 = nI n
theorem kc_linkBody {F : Km → Prop} {b s : Nat} {S : Nat → Prop} (ho : LkO b κa) (hi : i < b) (hb : LkB N m κa i) (cd : CdW κa m) (tp : TkP N κa) (ls : LkS b κa) (lp : LkP N b κa i p κ) (wn : Wn κ S) (h1 : bdS κa i ≤ p) (h2 : p < bdE κa i) (ha : (kI κa 69 p = 23 ∧ s = 1) ∨ (kI κa 69 p = 24 ∧ s = 0))
    (q : ∀ κ2, LkP N b κa i (p + 1) κ2 → Wn κ2 (fun z => S z ∨ Fla N b κa i p z) → F κ2) : KC' X 2 MX3_linkBody [vR 78, vI (nI p), vI (nI s)] κ (kRV F) := by
  obtain ⟨b1, b2, ⟨b3, b4, b5⟩, ⟨b6, b7, b8, b9⟩, b10, b11⟩ := hb
  obtain ⟨tp1, w, tq1, tq2, tq3⟩ := tp
  obtain ⟨ls1, ls2, ls3, ls4⟩ := ls
  have lf := lp.1
  have hm := cd.2.1
  have e75 : kI κ 75 = kI κa 75 := lf.1 75 (by decide) (by decide)
  have hA : kI κa 69 p = 23 ∨ kI κa 69 p = 24 := ha.elim (fun z => Or.inl z.1) (fun z => Or.inr z.1)
  obtain ⟨t, n, t1, n8, t2⟩ := (b11 p h1 h2).2.2 hA
  have e70 : kI κ 70 p = nI (8 * t + n) := ((lp.2.1 p h1 h2).1 (Nat.le_refl _)).trans t2
  have es : (if kI κa 69 p = 23 then 1 else 0) = s := by
    rcases ha with ⟨z, e⟩ | ⟨z, e⟩
    · rw [if_pos z, e]
    · rw [if_neg (by rw [z]; decide), e]
  have no2 : kI κa 69 p ≠ 2 := by rcases hA with z | z <;> rw [z] <;> decide
  have no3 : kI κa 69 p ≠ 3 := by rcases hA with z | z <;> rw [z] <;> decide
  have hs2 : s < 2 := by omega
  have tt : ∀ t' n', t' ≤ N → n' < 8 → kI κa 70 p = nI (8 * t' + n') → t' = t ∧ n' = n := fun t' n' l1 l2 e => by
    have := (nI_eq (by omega) (by omega)).mp (e.symm.trans t2)
    omega
  have n67 : kI κ 67 2 = nI b := (lf.2.1 2 (by decide)).trans ls1
  have hB : b ≤ kB κ := by rw [lf.w.2.2.1]; exact ls3
  have bad : (∀ c, ¬ AskC κa b t s n c) → ∀ κ2 : Km, (kI κ2 70 = kI κ 70) → LkF κ κ2 → LkP N b κa i (p + 1) κ2 := fun nb κ2 e f => lp.put ho hi h1 h2 f (fun k _ => by rw [e]) ⟨fun z => absurd z (by rintro (z | z); exact no2 z; exact no3 z), fun _ t' n' l1 l2 l3 c hc => by
      obtain ⟨rfl, rfl⟩ := tt t' n' l1 l2 l3
      rw [es] at hc
      exact absurd hc (nb c), fun _ _ n3 n4 => absurd hA (by rintro (z | z); exact n3 z; exact n4 z)⟩
  obtain ⟨f, f1, f2⟩ := tp1 t t1
  have ef : plT κa t = f := by unfold plT; rw [f2, cl_nI (by omega)]
  have wb : (∀ c, ¬ AskC κa b t s n c) → Wn (nt κ f) (fun z => S z ∨ Fla N b κa i p z) := fun nb => wn.note f1 (fun z => ⟨fun g => g.elim Or.inl (fun g => Or.inr (by
      rcases g with ⟨g1, -⟩ | ⟨g1, t', n', l1, l2, l3, l4, l5⟩
      · exact absurd g1 no2
      · obtain ⟨rfl, rfl⟩ := tt t' n' l1 l2 l3
        rw [ef] at l5
        exact l5)), fun g => g.elim Or.inl (fun g => Or.inr (Or.inr ⟨hA, t, n, t1, n8, t2, by rw [es]; exact nb, by rw [ef]; exact g⟩))⟩)
  refine KC_of_K rfl (Nat.le_of_ble_eq_true rfl) rfl (k_3_linkBody_0 _ _ ⟨0, by omega, kc_argC (lf.cd cd) (by omega) ⟨0, by omega, ?_⟩⟩)
  rw [e70, dv8 (by omega), show (8 * t + n) / 8 = t by omega]
  refine kc_valueOf (lf.tw tq3) tq2 (by omega) ⟨0, by omega, kc_sfind n67 ls2 hB (fun y fy => ?_)⟩
  unfold FstB at fy
  rw [lf.w.1] at fy
  rcases fy with ⟨c, c1, c2, c3, c4⟩ | ⟨c2, nv⟩
  · subst c2
    obtain ⟨s', n', hs', hn', g1, g2⟩ := ls4 c c1
    have ec : kI κ (1000 + 8 * c) = kI κa (1000 + 8 * c) := lf.1 _ (by omega) (by omega)
    have hcB : c < kB κ := by omega
    refine ⟨0, by omega, kc_sat n67 ls2 c1 hB ⟨Or.inr (isH_body hcB).1, fun z => absurd z (by omega), fun _ => ⟨isH_body hcB, ?_⟩⟩⟩
    rw [ec, g1, eq_nI (by omega) (by omega)]
    have nb : s' ≠ s ∨ n' ≠ n → ∀ c', ¬ AskC κa b t s n c' := fun d c' hc => by
      have : c' = c := by
        rcases Nat.lt_trichotomy c' c with z | z | z
        · exact absurd hc.2.1 (c4 c' z)
        · exact z
        · exact absurd c3 (hc.2.2.1 c z)
      subst this
      have x1 := (nI_eq (by omega) (by omega)).mp (g1.symm.trans hc.2.2.2.1)
      have x2 := (nI_eq (by omega) (by omega)).mp (g2.symm.trans hc.2.2.2.2)
      omega
    have rej : (∀ c', ¬ AskC κa b t s n c') → K X 2 MX3_linkBody 73 [(0, vR 78), (1, vI (nI p)), (2, vI (nI s)), (3, vI (nI t)), (4, vI (nI c)), (5, vR (1000 + 8 * c))] [] κ (kRV F) := fun nb' => k_3_linkBody_73 _ _ _ _ _ ⟨isH_body hcB, 0, by omega, kc_placeOf (lf.tw tq3) tq2 (by omega) ⟨0, by omega, by
        rw [e75, f2]
        exact kc_note (k_3_linkBody_101 _ _ _ _ _ ⟨rfl, q _ (bad nb' _ nt_70 lkF_nt) (wb nb')⟩)⟩⟩
    refine ⟨fun cs => ⟨0, by omega, kc_argC (lf.cd cd) (by omega) ?_⟩, fun cs => rej (nb (Or.inl cs))⟩
    rw [g2, e70, md8 (by omega), show (8 * t + n) % 8 = n by omega, eq_nI (by omega) (by omega)]
    refine ⟨fun cn => ⟨0, by omega, kc_patchC (lf.cd cd) (by omega) (k_3_linkBody_101 _ _ _ _ _ ⟨rfl, q _ (lp.put ho hi h1 h2 LkF.c70 (fun k hk => cI70 hk) ?_) (wn.same (by rw [kI_ne (by decide)]) (fun z => ⟨fun g => g.elim id (fun g => ?_), Or.inl⟩))⟩)⟩, fun cn => rej (nb (Or.inr cn))⟩
    · have ok : AskC κa b t s n c := ⟨c1, c3, c4, by rw [g1, cs], by rw [g2, cn]⟩
      exact ⟨fun z => absurd z (by rintro (z | z); exact no2 z; exact no3 z), fun _ t' n' l1 l2 l3 c' hc => by
        obtain ⟨rfl, rfl⟩ := tt t' n' l1 l2 l3
        rw [es] at hc
        rw [kI_eq, hc.uniq ok], fun _ _ n3 n4 => absurd hA (by rintro (z | z); exact n3 z; exact n4 z)⟩
    · have ok : AskC κa b t s n c := ⟨c1, c3, c4, by rw [g1, cs], by rw [g2, cn]⟩
      rcases g with ⟨g1', -⟩ | ⟨-, t', n'', l1, l2, l3, l4, l5⟩
      · exact absurd g1' no2
      · obtain ⟨rfl, rfl⟩ := tt t' n'' l1 l2 l3
        rw [es] at l4
        exact absurd ok (l4 c)
  · subst c2
    have nb : ∀ c', ¬ AskC κa b t s n c' := fun c' hc => nv c' hc.1 hc.2.1
    refine ⟨0, by omega, kc_sat0 ⟨Or.inl rfl, fun _ => k_3_linkBody_73z _ _ _ _ ⟨0, by omega, kc_placeOf (lf.tw tq3) tq2 (by omega) ⟨0, by omega, ?_⟩⟩, fun z => absurd rfl z⟩⟩
    rw [e75, f2]
    exact kc_note (k_3_linkBody_101 _ _ _ _ _ ⟨rfl, q _ (bad nb _ nt_70 lkF_nt) (wb nb)⟩)
end LINK
