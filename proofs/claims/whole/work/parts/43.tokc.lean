/-! reading and frames over the two views -/
theorem kI_cI {κ : Km} {h k h' k' : Nat} {v : Int32} : kI (cI κ h k v) h' k' = if h' = h ∧ k' = k then v else kI κ h' k' := rfl
theorem kI_eq {κ : Km} {h k : Nat} {v : Int32} : kI (cI κ h k v) h k = v := if_pos ⟨rfl, rfl⟩
theorem kI_ne {κ : Km} {h k h' : Nat} {v : Int32} (hh : h' ≠ h) : kI (cI κ h k v) h' = kI κ h' := by
  funext j; rw [kI_cI, if_neg (fun z => hh z.1)]
theorem kI_nk {κ : Km} {h k h' k' : Nat} {v : Int32} (hk : k' ≠ k) : kI (cI κ h k v) h' k' = kI κ h' k' := by rw [kI_cI, if_neg (fun z => hk z.2)]
theorem kL_cL {κ : Km} {h k h' k' : Nat} {v : Int64} : kL (cL κ h k v) h' k' = if h' = h ∧ k' = k then v else kL κ h' k' := rfl
theorem kL_eq {κ : Km} {h k : Nat} {v : Int64} : kL (cL κ h k v) h k = v := if_pos ⟨rfl, rfl⟩
theorem kL_ne {κ : Km} {h k h' : Nat} {v : Int64} (hh : h' ≠ h) : kL (cL κ h k v) h' = kL κ h' := by
  funext j; rw [kL_cL, if_neg (fun z => hh z.1)]
theorem kL_nk {κ : Km} {h k h' k' : Nat} {v : Int64} (hk : k' ≠ k) : kL (cL κ h k v) h' k' = kL κ h' k' := by rw [kL_cL, if_neg (fun z => hk z.2)]
theorem aI_eq {σ : Rm} {k i : Nat} {v : Int32} : aI (wI σ k i v) k i = v := if_pos ⟨rfl, rfl⟩
theorem aI_ne {σ : Rm} {k i k' : Nat} {v : Int32} (h : k' ≠ k) : aI (wI σ k i v) k' = aI σ k' := by
  funext j; rw [aI_wI, if_neg (fun z => h z.1)]
theorem aI_ni {σ : Rm} {k i k' i' : Nat} {v : Int32} (h : i' ≠ i) : aI (wI σ k i v) k' i' = aI σ k' i' := by rw [aI_wI, if_neg (fun z => h z.2)]
theorem sI_ne {σ : Rm} {k i k' : Nat} {v : Int32} (h : k' ≠ k) : sI (wI σ k i v) k' = sI σ k' := by
  show aI (wI σ k i v) k' 0 = aI σ k' 0
  rw [aI_ne h]
theorem sI_eq {σ : Rm} {k : Nat} {v : Int32} : sI (wI σ k 0 v) k = v := if_pos ⟨rfl, rfl⟩
theorem aL_eq {σ : Rm} {k i : Nat} {v : Int64} : aL (wL σ k i v) k i = v := if_pos ⟨rfl, rfl⟩
theorem aL_ne {σ : Rm} {k i k' : Nat} {v : Int64} (h : k' ≠ k) : aL (wL σ k i v) k' = aL σ k' := by
  funext j; rw [aL_wL, if_neg (fun z => h z.1)]
theorem aL_ni {σ : Rm} {k i k' i' : Nat} {v : Int64} (h : i' ≠ i) : aL (wL σ k i v) k' i' = aL σ k' i' := by rw [aL_wL, if_neg (fun z => h z.2)]
/-- outside of some handles all is as it was -/
def KF (H : Nat → Prop) (κ κ' : Km) : Prop := (∀ h, ¬ H h → kI κ' h = kI κ h ∧ kL κ' h = kL κ h ∧ kW κ' h = kW κ h) ∧ kC κ' = kC κ ∧ kB κ' = kB κ ∧ kV κ' = kV κ
theorem KF.refl {H : Nat → Prop} {κ : Km} : KF H κ κ := ⟨fun _ _ => ⟨rfl, rfl, rfl⟩, rfl, rfl, rfl⟩
theorem KF.trans {H : Nat → Prop} {κ κ1 κ2 : Km} (a : KF H κ κ1) (b : KF H κ1 κ2) : KF H κ κ2 := ⟨fun h n => ⟨(b.1 h n).1.trans (a.1 h n).1, (b.1 h n).2.1.trans (a.1 h n).2.1, (b.1 h n).2.2.trans (a.1 h n).2.2⟩, b.2.1.trans a.2.1, b.2.2.1.trans a.2.2.1, b.2.2.2.trans a.2.2.2⟩
theorem KF.weak {H H' : Nat → Prop} {κ κ' : Km} (a : KF H κ κ') (hw : ∀ h, H h → H' h) : KF H' κ κ' := ⟨fun h n => a.1 h (fun z => n (hw h z)), a.2⟩
theorem KF.cI {H : Nat → Prop} {κ : Km} {h k : Nat} {v : Int32} (hh : H h) : KF H κ (cI κ h k v) := ⟨fun g n => ⟨kI_ne (fun e => n (e ▸ hh)), rfl, rfl⟩, rfl, rfl, rfl⟩
theorem KF.cL {H : Nat → Prop} {κ : Km} {h k : Nat} {v : Int64} (hh : H h) : KF H κ (cL κ h k v) := ⟨fun g n => ⟨rfl, kL_ne (fun e => n (e ▸ hh)), rfl⟩, rfl, rfl, rfl⟩
theorem kI_row {κ : Km} {h n g : Nat} {f : Nat → Int32} {l : Nat → Int64} : kI (cRow κ h n f l) g = if g = h then f else kI κ g := by
  funext j
  show (if g = h then f j else κ.1 g j) = _
  by_cases c : g = h
  · rw [if_pos c, if_pos c]
  · rw [if_neg c, if_neg c]; rfl
theorem kL_row {κ : Km} {h n g : Nat} {f : Nat → Int32} {l : Nat → Int64} : kL (cRow κ h n f l) g = if g = h then l else kL κ g := by
  funext j
  show (if g = h then l j else κ.2.1 g j) = _
  by_cases c : g = h
  · rw [if_pos c, if_pos c]
  · rw [if_neg c, if_neg c]; rfl
theorem kW_row {κ : Km} {h n g : Nat} {f : Nat → Int32} {l : Nat → Int64} : kW (cRow κ h n f l) g = if g = h then n else kW κ g := rfl
theorem KF.row {H : Nat → Prop} {κ : Km} {h n : Nat} {f : Nat → Int32} {l : Nat → Int64} (hh : H h) : KF H κ (cRow κ h n f l) := ⟨fun g ng => by
  have e : g ≠ h := fun e => ng (e ▸ hh)
  rw [kI_row, kL_row, kW_row, if_neg e, if_neg e, if_neg e]; exact ⟨rfl, rfl, rfl⟩, rfl, rfl, rfl⟩
/-- outside of some fields the reference is as it was -/
def AF (H : Nat → Prop) (σ σ' : Rm) : Prop := ∀ k, ¬ H k → aI σ' k = aI σ k ∧ aL σ' k = aL σ k
theorem AF.refl {H : Nat → Prop} {σ : Rm} : AF H σ σ := fun _ _ => ⟨rfl, rfl⟩
theorem AF.trans {H : Nat → Prop} {σ σ1 σ2 : Rm} (a : AF H σ σ1) (b : AF H σ1 σ2) : AF H σ σ2 := fun k n => ⟨(b k n).1.trans (a k n).1, (b k n).2.trans (a k n).2⟩
theorem AF.weak {H H' : Nat → Prop} {σ σ' : Rm} (a : AF H σ σ') (hw : ∀ h, H h → H' h) : AF H' σ σ' := fun k n => a k (fun z => n (hw k z))
theorem AF.wI {H : Nat → Prop} {σ : Rm} {k i : Nat} {v : Int32} (hh : H k) : AF H σ (wI σ k i v) := fun g n => ⟨aI_ne (fun e => n (e ▸ hh)), rfl⟩
theorem AF.wL {H : Nat → Prop} {σ : Rm} {k i : Nat} {v : Int64} (hh : H k) : AF H σ (wL σ k i v) := fun g n => ⟨rfl, aL_ne (fun e => n (e ▸ hh))⟩
/-- the room: lengths of the rows that grow, the objects made -/
def sumW (κ : Km) (a : Nat) : Nat → Nat
  | 0 => 0
  | n + 1 => sumW κ a n + kW κ (a + 8 * n)
def Pot (κ : Km) : Nat := 2 * (kW κ 69 + kW κ 70 + kW κ 74 + kW κ 75 + kW κ 76 + kW κ 81 + kW κ 83 + kW κ 85 + sumW κ 1003 61 + sumW κ 1004 12) + 16 * kV κ + 32 * kB κ
def RG (κ κ' : Km) : Prop := kZ κ' + Pot κ ≤ kZ κ + Pot κ' ∧ 4 * kT κ' + kZ κ ≤ 4 * kT κ + kZ κ'
theorem RG.refl {κ : Km} : RG κ κ := ⟨Nat.le_refl _, Nat.le_refl _⟩
theorem RG.trans {κ κ1 κ2 : Km} (a : RG κ κ1) (b : RG κ1 κ2) : RG κ κ2 := by
  unfold RG at *
  omega
theorem sumW_cong {κ κ' : Km} {a : Nat} : ∀ n, (∀ i, i < n → kW κ' (a + 8 * i) = kW κ (a + 8 * i)) → sumW κ' a n = sumW κ a n := by
  intro n
  induction n with
  | zero => intro _; rfl
  | succ n ih => intro h; show sumW κ' a n + _ = sumW κ a n + _; rw [ih (fun i hi => h i (by omega)), h n (by omega)]
theorem RG.same {κ κ' : Km} (hw : kW κ' = kW κ) (hv : kV κ' = kV κ) (hb : kB κ' = kB κ) (ht : kT κ' = kT κ) (hz : kZ κ' = kZ κ) : RG κ κ' := by
  have e : Pot κ' = Pot κ := by
    unfold Pot
    rw [hw, hv, hb, sumW_cong (κ := κ) (κ' := κ') 61 (fun i _ => by rw [hw]), sumW_cong (κ := κ) (κ' := κ') 12 (fun i _ => by rw [hw])]
  unfold RG
  rw [e, ht, hz]
  exact ⟨Nat.le_refl _, Nat.le_refl _⟩
theorem RG.cI {κ : Km} {h k : Nat} {v : Int32} : RG κ (cI κ h k v) := RG.same rfl rfl rfl rfl rfl
theorem RG.cL {κ : Km} {h k : Nat} {v : Int64} : RG κ (cL κ h k v) := RG.same rfl rfl rfl rfl rfl
theorem RG.cC {κ : Km} {c : Nat} : RG κ (cC κ c) := RG.same rfl rfl rfl rfl rfl
/-- a lasting row grows -/
theorem RG.row {κ : Km} {h n : Nat} {f : Nat → Int32} {l : Nat → Int64} (hh : h = 69 ∨ h = 70 ∨ h = 74 ∨ h = 75 ∨ h = 76 ∨ h = 81 ∨ h = 83 ∨ h = 85) (hn : 2 * kW κ h ≤ n) (h4 : 4 ≤ n) : RG κ (cRow κ h n f l) := by
  have s1 : sumW (cRow κ h n f l) 1003 61 = sumW κ 1003 61 := sumW_cong 61 (fun i _ => by rw [kW_row, if_neg (by omega)])
  have s2 : sumW (cRow κ h n f l) 1004 12 = sumW κ 1004 12 := sumW_cong 12 (fun i _ => by rw [kW_row, if_neg (by omega)])
  have z : kZ (cRow κ h n f l) = kZ κ + n := rfl
  have t : kT (cRow κ h n f l) = kT κ + 1 := rfl
  have v : kV (cRow κ h n f l) = kV κ := rfl
  have b : kB (cRow κ h n f l) = kB κ := rfl
  unfold RG Pot
  rw [s1, s2, z, t, v, b]
  simp only [kW_row]
  rcases hh with e | e | e | e | e | e | e | e <;> subst e <;> simp <;> omega
/-- a call of what leaves the memory alone -/
theorem KC_of_C {X : Cx} {κ : Km} {Q : Res → Km → Prop} {e : Nat} {M' : MI} {as : List AV} {r : Res} (hm : ∀ ad, mps ad as = as) (hr : ∀ ad, mpr ad r = r) (h : ∀ T : Mem, C X e M' as T (fun r' T' => r' = r ∧ T' = T)) (q : Q r κ) : KC' X e M' as κ Q := by
  refine ⟨r, κ, ⟨Mo.refl, fun ad T hC => ?_⟩, q⟩
  obtain ⟨r2, T2, cr, rfl, rfl⟩ := h T
  exact ⟨ad, T2, by rw [hm, hr]; exact cr, hC, fun _ _ _ => rfl, Fc.refl⟩
theorem sgn_idx {x : Int32} : ∀ (m i : Nat), i + m = 14 → (∀ j, j < i → ¬ stB 29 j = x) → ∃ y : Int32, (∀ (X : Cx) (S : Mem) (x1 x2 : Int32), V X 0 MJ1_indexOfChar_4cfef 7 [(0, vR 29), (1, vI x1), (2, vI x2), (3, vI 14), (4, vI x), (5, vI (nI i))] [] S (fun r T => r = .inl (some (vI y)) ∧ T = S)) ∧ (0 ≤ y ↔ ∃ j, j < 14 ∧ stB 29 j = x) := by
  intro m
  induction m with
  | zero =>
    intro i hi hn
    refine ⟨-1, fun X S x1 x2 => w_J1_indexOfChar_4cfef_7 29 x1 x2 14 x _ ⟨fun _ => ⟨rfl, rfl⟩, fun c => ?_⟩, ?_⟩
    · exact absurd (nI_le (a := 14) (b := i) (by omega) (by omega)) c
    · refine ⟨fun h => absurd h (by decide), fun ⟨j, hj, e⟩ => absurd e (hn j (by omega))⟩
  | succ m ih =>
    intro i hi hn
    have ni : ¬ (14 : Int32) ≤ nI i := nI_ge (a := i) (b := 14) (by omega) (by decide)
    have hin : vp_in (nI i) (stN 29) := vp_in_lt (n := stN 29) (by show i < 14; omega) (by omega)
    by_cases c : stB 29 i = x
    · refine ⟨nI i, fun X S x1 x2 => w_J1_indexOfChar_4cfef_7 29 x1 x2 14 x _ ⟨fun z => absurd z ni, fun _ => ⟨by decide, hin, ?_⟩⟩, ?_⟩
      · rw [cl_nI (by omega)]
        exact ⟨fun z => absurd c z, fun _ => ⟨rfl, rfl⟩⟩
      · exact ⟨fun _ => ⟨i, by omega, c⟩, fun _ => nI_pos' (by omega)⟩
    · obtain ⟨y, hv, hy⟩ := ih (i + 1) (by omega) (fun j hj => by
        by_cases e : j = i
        · rw [e]; exact c
        · exact hn j (by omega))
      refine ⟨y, fun X S x1 x2 => w_J1_indexOfChar_4cfef_7 29 x1 x2 14 x _ ⟨fun z => absurd z ni, fun _ => ⟨by decide, hin, ?_⟩⟩, hy⟩
      rw [cl_nI (by omega), nI_1]
      exact ⟨fun _ => hv X S x1 x2, fun z => absurd z c⟩
theorem kc_indexOf {X : Cx} {κ : Km} {F : Int32 → Km → Prop} {x : Int32} (h0 : ¬ x < 0) (h1 : ¬ 255 < x) (q : ∀ y : Int32, (0 ≤ y ↔ ∃ j, j < 14 ∧ stB 29 j = x.toInt8.toInt32) → F y κ) : KC' X 4 MJ0_indexOf_0f7a4 [vR 3, vI x] κ (kRI F) := by
  obtain ⟨y, hv, hy⟩ := sgn_idx (x := x.toInt8.toInt32) 14 0 rfl (fun j hj => absurd hj (Nat.not_lt_zero _))
  refine KC_of_C (r := .inl (some (vI y))) (fun _ => rfl) (fun _ => rfl) (fun T => ?_) ⟨_, rfl, q y hy⟩
  refine C_of_V rfl (Nat.le_of_ble_eq_true rfl) rfl (w_J0_indexOf_0f7a4_0 3 x ⟨by decide, 3, by decide, ?_⟩)
  refine C_of_V rfl (Nat.le_of_ble_eq_true rfl) rfl (w_J0_indexOf_7cf53_0 3 x 0 ⟨by decide, 0, by decide, c_isLatin1 (by decide) ⟨fun z => absurd z (by decide), fun _ => ⟨by decide, by decide, 1, by decide, c_length (by decide) ⟨2, by decide, ?_⟩⟩⟩⟩)
  refine C_of_V rfl (Nat.le_of_ble_eq_true rfl) rfl (w_J1_indexOf_4cfef_0 29 x 0 _ ⟨0, by decide, ?_⟩)
  refine C_of_V rfl (Nat.le_of_ble_eq_true rfl) rfl (w_J1_canEncode_9a6ad_0 x ⟨fun z => absurd z h0, fun _ => ⟨fun z => absurd z h1, fun _ => w_J1_canEncode_9a6ad_16 x 1 ⟨Or.inr rfl, _, rfl, fun _ => ⟨by decide, by decide, by decide, fun _ => ⟨0, by decide, ?_⟩, fun z => absurd (by decide) z⟩, fun z => absurd z (by decide)⟩⟩⟩)
  refine C_of_V rfl (Nat.le_of_ble_eq_true rfl) rfl (w_J1_indexOfChar_4cfef_0 29 x 0 _ ?_)
  refine (hv X T x 0).mono ?_
  rintro r T' ⟨rfl, rfl⟩
  exact ⟨_, rfl, _, rfl, w_J0_indexOf_7cf53_36 _ _ _ _ ⟨_, rfl, rfl, rfl⟩⟩
theorem kc_size {X : Cx} {κ : Km} {F : Int32 → Km → Prop} (q : F (kI κ 65 1) κ) : KC' X 0 MX8_size [vR 65] κ (kRI F) := KC_of_K rfl (Nat.le_of_ble_eq_true rfl) rfl (k_8_size_0 ⟨_, rfl, q⟩)
theorem kc_at {X : Cx} {κ : Km} {F : Int32 → Km → Prop} {n p : Nat} (hn : kI κ 65 1 = nI n) (hw : kW κ 66 = 3000) (hb : n ≤ 3000) (hp : p ≤ 3001) (q : F (if p < n then kI κ 66 p &&& 255 else -1) κ) : KC' X 0 MX8_at [vR 65, vI (nI p)] κ (kRI F) := by
  refine KC_of_K rfl (Nat.le_of_ble_eq_true rfl) rfl (k_8_at_0 _ ⟨fun c => absurd c (nI_pos (by omega)), fun _ => ?_⟩)
  rw [hn]
  by_cases c : p < n
  · rw [if_pos c] at q
    refine ⟨fun z => absurd z (nI_ge c (by omega)), fun _ => ⟨fun _ => ⟨by rw [hw]; exact vp_in_lt (by omega) (by omega), k_8_at_33 _ _ ⟨_, rfl, ?_⟩⟩, fun z => absurd (nI_lt (a := p) (b := 3000) (by omega) (by decide)) z⟩⟩
    rw [cl_nI (by omega)]; exact q
  · rw [if_neg c] at q
    exact ⟨fun _ => k_8_at_19 _ (k_8_at_33 _ _ ⟨_, rfl, q⟩), fun z => absurd (nI_le (by omega) (by omega)) z⟩
/-- letters and figures -/
abbrev bL (x : Int32) : Prop := ¬ x < 97 ∧ ¬ 122 < x
abbrev bF (x : Int32) : Prop := ¬ x < 48 ∧ ¬ 57 < x
theorem kc_isLetter {X : Cx} {κ : Km} {F : Int32 → Km → Prop} {x : Int32} (q1 : bL x → F 1 κ) (q0 : ¬ bL x → F 0 κ) : KC' X 0 MX9_isLetter [vI x] κ (kRI F) :=
  KC_of_K rfl (Nat.le_of_ble_eq_true rfl) rfl (k_9_isLetter_0 x ⟨fun c => k_9_isLetter_16 _ (k_9_isLetter_17 _ _ ⟨Or.inl rfl, _, rfl, q0 (fun z => z.1 c)⟩), fun c => ⟨fun c2 => k_9_isLetter_16 _ (k_9_isLetter_17 _ _ ⟨Or.inl rfl, _, rfl, q0 (fun z => z.2 c2)⟩), fun c2 => k_9_isLetter_17 _ _ ⟨Or.inr rfl, _, rfl, q1 ⟨c, c2⟩⟩⟩⟩)
theorem kc_isFigure {X : Cx} {κ : Km} {F : Int32 → Km → Prop} {x : Int32} (q1 : bF x → F 1 κ) (q0 : ¬ bF x → F 0 κ) : KC' X 0 MX9_isFigure [vI x] κ (kRI F) :=
  KC_of_K rfl (Nat.le_of_ble_eq_true rfl) rfl (k_9_isFigure_0 x ⟨fun c => k_9_isFigure_16 _ (k_9_isFigure_17 _ _ ⟨Or.inl rfl, _, rfl, q0 (fun z => z.1 c)⟩), fun c => ⟨fun c2 => k_9_isFigure_16 _ (k_9_isFigure_17 _ _ ⟨Or.inl rfl, _, rfl, q0 (fun z => z.2 c2)⟩), fun c2 => k_9_isFigure_17 _ _ ⟨Or.inr rfl, _, rfl, q1 ⟨c, c2⟩⟩⟩⟩)
theorem ac_isLetter {X : Cx} {b : Nat} {σ : Rm} {F : Int32 → Rm → Prop} {x : Int32} (q1 : bL x → F 1 σ) (q0 : ¬ bL x → F 0 σ) : AC X b 1 MX13_isLetter [vI x] σ (aRI F) := by
  refine AC_of_A rfl (Nat.le_of_ble_eq_true rfl) rfl (a_isLetter_0 x ⟨0, by decide, AC_of_A rfl (Nat.le_of_ble_eq_true rfl) rfl (a_in_0 x 97 122 ⟨fun c => a_in_14 _ _ _ (a_in_15 _ _ _ _ ⟨Or.inl rfl, _, rfl, Or.inl rfl, _, rfl, q0 (fun z => z.1 c)⟩), fun c => ⟨fun c2 => a_in_14 _ _ _ (a_in_15 _ _ _ _ ⟨Or.inl rfl, _, rfl, Or.inl rfl, _, rfl, q0 (fun z => z.2 c2)⟩), fun c2 => a_in_15 _ _ _ _ ⟨Or.inr rfl, _, rfl, Or.inr rfl, _, rfl, q1 ⟨c, c2⟩⟩⟩⟩)⟩)
theorem ac_isFigure {X : Cx} {b : Nat} {σ : Rm} {F : Int32 → Rm → Prop} {x : Int32} (q1 : bF x → F 1 σ) (q0 : ¬ bF x → F 0 σ) : AC X b 1 MX13_isFigure [vI x] σ (aRI F) := by
  refine AC_of_A rfl (Nat.le_of_ble_eq_true rfl) rfl (a_isFigure_0 x ⟨0, by decide, AC_of_A rfl (Nat.le_of_ble_eq_true rfl) rfl (a_in_0 x 48 57 ⟨fun c => a_in_14 _ _ _ (a_in_15 _ _ _ _ ⟨Or.inl rfl, _, rfl, Or.inl rfl, _, rfl, q0 (fun z => z.1 c)⟩), fun c => ⟨fun c2 => a_in_14 _ _ _ (a_in_15 _ _ _ _ ⟨Or.inl rfl, _, rfl, Or.inl rfl, _, rfl, q0 (fun z => z.2 c2)⟩), fun c2 => a_in_15 _ _ _ _ ⟨Or.inr rfl, _, rfl, Or.inr rfl, _, rfl, q1 ⟨c, c2⟩⟩⟩⟩)⟩)
/-- a byte -/
def i8 (x : Int32) : Prop := x.toInt8.toInt32 = x
theorem i8_all {P : Int32 → Prop} (h : ∀ b : BitVec 8, P (Int8.ofBitVec b).toInt32) {x : Int32} (hx : i8 x) : P x := by
  have := h x.toInt8.toBitVec
  rwa [show (Int8.ofBitVec x.toInt8.toBitVec).toInt32 = x from hx] at this
theorem i8_32 {x : Int32} (hx : i8 x) : (x &&& 255 = 32) = (x = 32) := i8_all (P := fun x => (x &&& 255 = 32) = (x = 32)) (fun b => propext ((by decide : ∀ b : BitVec 8, (Int8.ofBitVec b).toInt32 &&& 255 = 32 ↔ (Int8.ofBitVec b).toInt32 = 32) b)) hx
theorem i8_10 {x : Int32} (hx : i8 x) : (x &&& 255 = 10) = (x = 10) := i8_all (P := fun x => (x &&& 255 = 10) = (x = 10)) (fun b => propext ((by decide : ∀ b : BitVec 8, (Int8.ofBitVec b).toInt32 &&& 255 = 10 ↔ (Int8.ofBitVec b).toInt32 = 10) b)) hx
theorem i8_61 {x : Int32} (hx : i8 x) : (x &&& 255 = 61) = (x = 61) := i8_all (P := fun x => (x &&& 255 = 61) = (x = 61)) (fun b => propext ((by decide : ∀ b : BitVec 8, (Int8.ofBitVec b).toInt32 &&& 255 = 61 ↔ (Int8.ofBitVec b).toInt32 = 61) b)) hx
theorem i8_L {x : Int32} (hx : i8 x) : (bL (x &&& 255) ↔ bL x) ∧ (bL x → x &&& 255 = x) := i8_all (P := fun x => (bL (x &&& 255) ↔ bL x) ∧ (bL x → x &&& 255 = x)) (by decide) hx
theorem i8_F {x : Int32} (hx : i8 x) : (bF (x &&& 255) ↔ bF x) ∧ (bF x → x &&& 255 = x) := i8_all (P := fun x => (bF (x &&& 255) ↔ bF x) ∧ (bF x → x &&& 255 = x)) (by decide) hx
theorem i8_rng {x : Int32} (hx : i8 x) : ¬ (x &&& 255) < 0 ∧ ¬ 255 < (x &&& 255) ∧ ((x &&& 255).toUInt32 % 65536).toInt32 = x &&& 255 ∧ (x &&& 255).toInt8.toInt32 = x := i8_all (P := fun x => ¬ (x &&& 255) < 0 ∧ ¬ 255 < (x &&& 255) ∧ ((x &&& 255).toUInt32 % 65536).toInt32 = x &&& 255 ∧ (x &&& 255).toInt8.toInt32 = x) (by decide) hx
/-- signs -/
abbrev bS (x : Int32) : Prop := x = 40 ∨ x = 41 ∨ x = 123 ∨ x = 125 ∨ x = 44 ∨ x = 59 ∨ x = 61 ∨ x = 43 ∨ x = 45 ∨ x = 42 ∨ x = 47 ∨ x = 37 ∨ x = 60 ∨ x = 33
theorem bS_st {x : Int32} : (∃ j, j < 14 ∧ stB 29 j = x) ↔ bS x := by
  have e : (∃ j, j < 14 ∧ stB 29 j = x) ↔ ∃ j : Fin 14, stB 29 j.1 = x := ⟨fun ⟨j, h1, h2⟩ => ⟨⟨j, h1⟩, h2⟩, fun ⟨j, h⟩ => ⟨j.1, j.2, h⟩⟩
  rw [e]
  constructor
  · rintro ⟨j, rfl⟩
    revert j
    unfold bS
    decide
  · unfold bS
    rintro (h | h | h | h | h | h | h | h | h | h | h | h | h | h) <;> subst h <;> decide
theorem i8_S {x : Int32} (hx : i8 x) : bS x → x &&& 255 = x := i8_all (P := fun x => bS x → x &&& 255 = x) (by unfold bS; decide) hx
