/-! THE CLASS'S VOICES: registers and cells -/
section VCELL
variable {X : Cx} {κ κ1 κ2 κ' : Km} {n t bs m : Nat} {c : Nat → Int32} {g pc : Int32}
/-- one place is new -/
def ud (c : Nat → Int32) (t : Nat) (x : Int32) : Nat → Int32 := fun k => if k = t then x else c k
theorem ud_eq {x : Int32} : ud c t x t = x := if_pos rfl
theorem ud_ne {x : Int32} {k : Nat} (h : k ≠ t) : ud c t x k = c k := if_neg h
theorem sumW_one {a j : Nat} : ∀ m', j < m' → (∀ i, i < m' → i ≠ j → kW κ' (a + 8 * i) = kW κ (a + 8 * i)) → sumW κ' a m' + kW κ (a + 8 * j) = sumW κ a m' + kW κ' (a + 8 * j) := by
  intro m'
  induction m' with
  | zero => intro hj _; omega
  | succ q ih =>
    intro hj he
    show (sumW κ' a q + kW κ' (a + 8 * q)) + _ = (sumW κ a q + kW κ (a + 8 * q)) + _
    by_cases c : j = q
    · subst c
      rw [sumW_cong j (fun i hi => he i (by omega) (by omega))]
      omega
    · have := ih (by omega) (fun i hi hn => he i (by omega) hn)
      rw [he q (by omega) (by omega)]
      omega
/-- a row of cells grows -/
theorem RG.cells {w : Nat} {f : Nat → Int32} {l : Nat → Int64} (hn : n ≤ 60) (hw : 2 * kW κ (1002 + 8 * n + 1) ≤ w) (h4 : 4 ≤ w) : RG κ (cRow κ (1002 + 8 * n + 1) w f l) := by
  have s1 := sumW_one (κ := κ) (κ' := cRow κ (1002 + 8 * n + 1) w f l) (a := 1003) (j := n) 61 (by omega) (fun i hi hne => by rw [kW_row, if_neg (by omega)])
  have s2 : sumW (cRow κ (1002 + 8 * n + 1) w f l) 1004 12 = sumW κ 1004 12 := sumW_cong 12 (fun i _ => by rw [kW_row, if_neg (by omega)])
  have e1 : kW (cRow κ (1002 + 8 * n + 1) w f l) (1003 + 8 * n) = w := by rw [kW_row, if_pos (by omega)]
  have e2 : kW κ (1002 + 8 * n + 1) = kW κ (1003 + 8 * n) := by congr 1; omega
  have z : kZ (cRow κ (1002 + 8 * n + 1) w f l) = kZ κ + w := rfl
  have t : kT (cRow κ (1002 + 8 * n + 1) w f l) = kT κ + 1 := rfl
  have v : kV (cRow κ (1002 + 8 * n + 1) w f l) = kV κ := rfl
  have b : kB (cRow κ (1002 + 8 * n + 1) w f l) = kB κ := rfl
  have o : ∀ h, h < 92 → kW (cRow κ (1002 + 8 * n + 1) w f l) h = kW κ h := fun h hh => by rw [kW_row, if_neg (by omega)]
  rw [e1] at s1
  rw [e2] at hw
  unfold RG Pot
  rw [s2, z, t, v, b, o 69 (by decide), o 70 (by decide), o 74 (by decide), o 75 (by decide), o 76 (by decide), o 81 (by decide), o 83 (by decide), o 85 (by decide)]
  omega
/-- registers and cells of a voice: top, base, guard, act, calls; what lies below the top -/
def Vc (κ : Km) (n : Nat) (c : Nat → Int32) (t bs : Nat) (g pc : Int32) (m : Nat) : Prop := (1 ≤ n ∧ n ≤ kV κ ∧ n ≤ 60) ∧ (kI κ (1002 + 8 * n) 13 = nI t ∧ kI κ (1002 + 8 * n) 14 = nI bs ∧ kI κ (1002 + 8 * n) 15 = g ∧ kI κ (1002 + 8 * n) 9 = pc ∧ kI κ (1002 + 8 * n) 8 = nI m) ∧ (t ≤ kW κ (1002 + 8 * n + 1) ∧ 40 ≤ kW κ (1002 + 8 * n + 1) ∧ kW κ (1002 + 8 * n + 1) ≤ 40000) ∧ ∀ k, k < t → kI κ (1002 + 8 * n + 1) k = c k
/-- only registers and cells of voice n are others -/
def Vo (n : Nat) (κ κ' : Km) : Prop := KF (fun h => h = 1002 + 8 * n ∨ h = 1002 + 8 * n + 1) κ κ' ∧ RG κ κ' ∧ (∀ k, k ≠ 8 → k ≠ 9 → k ≠ 13 → k ≠ 14 → k ≠ 15 → kI κ' (1002 + 8 * n) k = kI κ (1002 + 8 * n) k)
theorem Vo.refl : Vo n κ κ := ⟨KF.refl, RG.refl, fun _ _ _ _ _ _ => rfl⟩
theorem Vo.trans (a : Vo n κ κ1) (b : Vo n κ1 κ2) : Vo n κ κ2 := ⟨a.1.trans b.1, a.2.1.trans b.2.1, fun k h1 h2 h3 h4 h5 => (b.2.2 k h1 h2 h3 h4 h5).trans (a.2.2 k h1 h2 h3 h4 h5)⟩
theorem Vo.reg {k : Nat} {x : Int32} (hk : k = 8 ∨ k = 9 ∨ k = 13 ∨ k = 14 ∨ k = 15) : Vo n κ (cI κ (1002 + 8 * n) k x) := ⟨KF.cI (Or.inl rfl), RG.cI, fun j h1 h2 h3 h4 h5 => kI_nk (by omega)⟩
theorem Vo.cel {k : Nat} {x : Int32} : Vo n κ (cI κ (1002 + 8 * n + 1) k x) := ⟨KF.cI (Or.inr rfl), RG.cI, fun j _ _ _ _ _ => by rw [kI_ne (by omega)]⟩
theorem Vc.v (h : Vc κ n c t bs g pc m) : isH κ (1002 + 8 * n) 10 := isH_voice h.1.1 h.1.2.1
theorem isH_cells1 (h1 : 1 ≤ n) (h2 : n ≤ kV κ) (h0 : kW κ (1002 + 8 * n + 1) ≠ 0) : isH κ (1002 + 8 * n + 1) 21 := by
  have e : 1002 + 8 * n + 1 = 1003 + 8 * n := by omega
  rw [e] at h0 ⊢
  exact isH_cells h1 h2 h0
theorem Vc.q (h : Vc κ n c t bs g pc m) : isH κ (1002 + 8 * n + 1) 21 := isH_cells1 h.1.1 h.1.2.1 (by have := h.2.2.1.2.1; omega)
theorem Vc.ge (h : Vc κ n c t bs g pc m) {c' : Nat → Int32} (e : ∀ k, k < t → c' k = c k) : Vc κ n c' t bs g pc m := ⟨h.1, h.2.1, h.2.2.1, fun k hk => (h.2.2.2 k hk).trans (e k hk).symm⟩
/-- a register is set -/
theorem Vc.top (h : Vc κ n c t bs g pc m) {t' : Nat} (ht : t' ≤ t) : Vc (cI κ (1002 + 8 * n) 13 (nI t')) n c t' bs g pc m := by
  obtain ⟨h1, ⟨h2, h3, h4, h5, h6⟩, ⟨h7, h8, h9⟩, h10⟩ := h
  refine ⟨h1, ⟨kI_eq, by rw [kI_nk (by decide)]; exact h3, by rw [kI_nk (by decide)]; exact h4, by rw [kI_nk (by decide)]; exact h5, by rw [kI_nk (by decide)]; exact h6⟩, ⟨Nat.le_trans ht h7, h8, h9⟩, fun k hk => by rw [kI_ne (by omega)]; exact h10 k (by omega)⟩
theorem Vc.base (h : Vc κ n c t bs g pc m) {b' : Nat} : Vc (cI κ (1002 + 8 * n) 14 (nI b')) n c t b' g pc m := by
  obtain ⟨h1, ⟨h2, h3, h4, h5, h6⟩, h7, h10⟩ := h
  exact ⟨h1, ⟨by rw [kI_nk (by decide)]; exact h2, kI_eq, by rw [kI_nk (by decide)]; exact h4, by rw [kI_nk (by decide)]; exact h5, by rw [kI_nk (by decide)]; exact h6⟩, h7, fun k hk => by rw [kI_ne (by omega)]; exact h10 k hk⟩
theorem Vc.grd (h : Vc κ n c t bs g pc m) {x : Int32} : Vc (cI κ (1002 + 8 * n) 15 x) n c t bs x pc m := by
  obtain ⟨h1, ⟨h2, h3, h4, h5, h6⟩, h7, h10⟩ := h
  exact ⟨h1, ⟨by rw [kI_nk (by decide)]; exact h2, by rw [kI_nk (by decide)]; exact h3, kI_eq, by rw [kI_nk (by decide)]; exact h5, by rw [kI_nk (by decide)]; exact h6⟩, h7, fun k hk => by rw [kI_ne (by omega)]; exact h10 k hk⟩
theorem Vc.act (h : Vc κ n c t bs g pc m) {x : Int32} : Vc (cI κ (1002 + 8 * n) 9 x) n c t bs g x m := by
  obtain ⟨h1, ⟨h2, h3, h4, h5, h6⟩, h7, h10⟩ := h
  exact ⟨h1, ⟨by rw [kI_nk (by decide)]; exact h2, by rw [kI_nk (by decide)]; exact h3, by rw [kI_nk (by decide)]; exact h4, kI_eq, by rw [kI_nk (by decide)]; exact h6⟩, h7, fun k hk => by rw [kI_ne (by omega)]; exact h10 k hk⟩
theorem Vc.cll (h : Vc κ n c t bs g pc m) {m' : Nat} : Vc (cI κ (1002 + 8 * n) 8 (nI m')) n c t bs g pc m' := by
  obtain ⟨h1, ⟨h2, h3, h4, h5, h6⟩, h7, h10⟩ := h
  exact ⟨h1, ⟨by rw [kI_nk (by decide)]; exact h2, by rw [kI_nk (by decide)]; exact h3, by rw [kI_nk (by decide)]; exact h4, by rw [kI_nk (by decide)]; exact h5, kI_eq⟩, h7, fun k hk => by rw [kI_ne (by omega)]; exact h10 k hk⟩
theorem Vc.cel (h : Vc κ n c t bs g pc m) {i : Nat} {x : Int32} : Vc (cI κ (1002 + 8 * n + 1) i x) n (ud c i x) t bs g pc m := by
  obtain ⟨h1, ⟨h2, h3, h4, h5, h6⟩, h7, h10⟩ := h
  have e : kI (cI κ (1002 + 8 * n + 1) i x) (1002 + 8 * n) = kI κ (1002 + 8 * n) := kI_ne (by omega)
  refine ⟨h1, ⟨by rw [e]; exact h2, by rw [e]; exact h3, by rw [e]; exact h4, by rw [e]; exact h5, by rw [e]; exact h6⟩, h7, fun k hk => ?_⟩
  by_cases c : k = i
  · rw [c, kI_eq, ud_eq]
  · rw [kI_nk c, ud_ne c]; exact h10 k hk
theorem Vc.fr (h : Vc κ n c t bs g pc m) (e : kI κ' (1002 + 8 * n) = kI κ (1002 + 8 * n)) (e2 : kI κ' (1002 + 8 * n + 1) = kI κ (1002 + 8 * n + 1)) (e3 : kW κ' (1002 + 8 * n + 1) = kW κ (1002 + 8 * n + 1)) (e4 : kV κ ≤ kV κ') : Vc κ' n c t bs g pc m := by
  obtain ⟨⟨h1, h1', h1''⟩, h2, h7, h10⟩ := h
  unfold Vc
  rw [e, e2, e3]
  exact ⟨⟨h1, by omega, h1''⟩, h2, h7, h10⟩
/-- a row that is wider -/
theorem Vc.row (h : Vc κ n c t bs g pc m) {w : Nat} (hw : 2 * kW κ (1002 + 8 * n + 1) ≤ w) (hw2 : w ≤ 40000) : Vc (cRow κ (1002 + 8 * n + 1) w (fun i => if i < kW κ (1002 + 8 * n + 1) then kI κ (1002 + 8 * n + 1) i else 0) (fun _ => 0)) n c t bs g pc m ∧ Vo n κ (cRow κ (1002 + 8 * n + 1) w (fun i => if i < kW κ (1002 + 8 * n + 1) then kI κ (1002 + 8 * n + 1) i else 0) (fun _ => 0)) := by
  obtain ⟨h1, ⟨h2, h3, h4, h5, h6⟩, ⟨h7, h8, h9⟩, h10⟩ := h
  have e : kI (cRow κ (1002 + 8 * n + 1) w (fun i => if i < kW κ (1002 + 8 * n + 1) then kI κ (1002 + 8 * n + 1) i else 0) (fun _ => 0)) (1002 + 8 * n) = kI κ (1002 + 8 * n) := by rw [kI_row, if_neg (by omega)]
  have e2 : kW (cRow κ (1002 + 8 * n + 1) w (fun i => if i < kW κ (1002 + 8 * n + 1) then kI κ (1002 + 8 * n + 1) i else 0) (fun _ => 0)) (1002 + 8 * n + 1) = w := by rw [kW_row, if_pos rfl]
  refine ⟨⟨h1, ⟨by rw [e]; exact h2, by rw [e]; exact h3, by rw [e]; exact h4, by rw [e]; exact h5, by rw [e]; exact h6⟩, ⟨by rw [e2]; omega, by rw [e2]; omega, by rw [e2]; exact hw2⟩, fun k hk => ?_⟩, KF.row (Or.inr rfl), RG.cells h1.2.2 hw (by omega), fun k _ _ _ _ _ => by rw [e]⟩
  rw [kI_row, if_pos rfl]
  show (if k < kW κ (1002 + 8 * n + 1) then _ else _) = _
  rw [if_pos (by omega)]
  exact h10 k hk
theorem vpush31 {x : Int32} {F : Km → Prop} (h : Vc κ n c t bs g pc m) (ht : t < kW κ (1002 + 8 * n + 1)) (q : ∀ κ', Vo n κ κ' → Vc κ' n (ud c t x) (t + 1) bs g pc m → F κ') : K X 3 MX10_push 31 [(0, vR (1002 + 8 * n)), (1, vI x)] [] κ (kRV F) := by
  have h' := h
  obtain ⟨h1, ⟨h2, h3, h4, h5, h6⟩, ⟨h7, h8, h9⟩, h10⟩ := h
  refine k_10_push_31 _ _ ⟨h'.v, ?_⟩
  rw [h2, n0_lt (by omega), vpn (by omega), cl_nI (by omega)]
  refine ⟨fun z => z.elim, fun _ => ⟨h'.q, ht, ?_⟩⟩
  rintro κ5 rfl κ6 rfl
  rw [kI_ne (by omega), h2, nI_1]
  refine k_10_push_58 _ _ ⟨rfl, q _ (Vo.cel.trans (Vo.reg (by omega))) ?_⟩
  have v := h'.cel (i := t) (x := x)
  obtain ⟨g1, ⟨g2, g3, g4, g5, g6⟩, ⟨g7, g8, g9⟩, g10⟩ := v
  refine ⟨g1, ⟨kI_eq, by rw [kI_nk (by decide)]; exact g3, by rw [kI_nk (by decide)]; exact g4, by rw [kI_nk (by decide)]; exact g5, by rw [kI_nk (by decide)]; exact g6⟩, ⟨ht, g8, g9⟩, fun k hk => ?_⟩
  rw [kI_ne (by omega)]
  by_cases c : k = t
  · rw [c, kI_eq, ud_eq]
  · exact g10 k (by omega)
theorem kc_vpush {x : Int32} {F : Km → Prop} (h : Vc κ n c t bs g pc m) (ht : t ≤ 19000) (q : ∀ κ', Vo n κ κ' → Vc κ' n (ud c t x) (t + 1) bs g pc m → F κ') : KC' X 3 MX10_push [vR (1002 + 8 * n), vI x] κ (kRV F) := by
  have h2 := h.2.1.1
  have h7 := h.2.2.1
  refine KC_of_K rfl (Nat.le_of_ble_eq_true rfl) rfl (k_10_push_0 _ _ ⟨h.v, ?_⟩)
  rw [h2, lt_nI (by omega) (by omega)]
  refine ⟨fun c => vpush31 h c q, fun c => ⟨h.q, by omega, 2 * t + 1, by rw [litI 2, pk_mul, nI_1], by omega, by omega, ?_⟩⟩
  rintro κ1 rfl
  obtain ⟨v, o⟩ := h.row (w := 2 * t + 1) (by omega) (by omega)
  exact vpush31 v (by rw [kW_row, if_pos rfl]; omega) (fun κ' o' v' => q κ' (o.trans o') v')
theorem kc_vpop {F : Int32 → Km → Prop} (h : Vc κ n c (t + 1) bs g pc m) (q : ∀ κ', Vo n κ κ' → Vc κ' n c t bs g pc m → F (c t) κ') : KC' X 0 MX10_pop [vR (1002 + 8 * n)] κ (kRI F) := by
  have h2 := h.2.1.1
  have h7 := h.2.2.1
  refine KC_of_K rfl (Nat.le_of_ble_eq_true rfl) rfl (k_10_pop_0 _ ⟨h.v, ?_⟩)
  rw [h2, nI_le0 (by omega), le_nI (by omega) (by omega), litI 1, nI_sb (by omega)]
  refine ⟨fun z => absurd z (by omega), fun _ => ⟨fun _ => ?_, fun z => absurd h7.1 z⟩⟩
  rintro κ4 rfl
  have v := h.top (t' := t) (by omega)
  rw [show t + 1 - 1 = t by omega]
  refine ⟨v.q, by rw [kI_eq, vpn (by omega)]; show t < kW κ _; omega, ?_⟩
  rw [kI_eq, cl_nI (by omega), kI_ne (by omega), h.2.2.2 t (by omega)]
  exact ⟨_, rfl, q _ (Vo.reg (by omega)) v⟩
theorem kc_vcell {F : Int32 → Km → Prop} {i : Nat} (h : Vc κ n c t bs g pc m) (hi : i < t) (q : F (c i) κ) : KC' X 0 MX10_cell [vR (1002 + 8 * n), vI (nI i)] κ (kRI F) := by
  have h7 := h.2.2.1
  refine KC_of_K rfl (Nat.le_of_ble_eq_true rfl) rfl (k_10_cell_0 _ _ ?_)
  rw [n0_lt (by omega), lt_nI (by omega) (by omega), vpn (by omega), cl_nI (by omega), h.2.2.2 i hi]
  exact ⟨fun z => z.elim, fun _ => ⟨h.v, fun _ => ⟨h.q, by omega, k_10_cell_23 _ _ _ ⟨_, rfl, q⟩⟩, fun z => absurd (by omega) z⟩⟩
/-- any place of the row -/
theorem kc_vcellw {F : Int32 → Km → Prop} {i : Nat} (h : Vc κ n c t bs g pc m) (hi : i < kW κ (1002 + 8 * n + 1)) (q : F (kI κ (1002 + 8 * n + 1) i) κ) : KC' X 0 MX10_cell [vR (1002 + 8 * n), vI (nI i)] κ (kRI F) := by
  have h7 := h.2.2.1
  refine KC_of_K rfl (Nat.le_of_ble_eq_true rfl) rfl (k_10_cell_0 _ _ ?_)
  rw [n0_lt (by omega), lt_nI (by omega) (by omega), vpn (by omega), cl_nI (by omega)]
  exact ⟨fun z => z.elim, fun _ => ⟨h.v, fun _ => ⟨h.q, by omega, k_10_cell_23 _ _ _ ⟨_, rfl, q⟩⟩, fun z => absurd (by omega) z⟩⟩
theorem kc_vput {F : Km → Prop} {i : Nat} {x : Int32} (h : Vc κ n c t bs g pc m) (hi : i < kW κ (1002 + 8 * n + 1)) (q : F (cI κ (1002 + 8 * n + 1) i x)) : KC' X 0 MX10_put [vR (1002 + 8 * n), vI (nI i), vI x] κ (kRV F) := by
  have h7 := h.2.2.1
  refine KC_of_K rfl (Nat.le_of_ble_eq_true rfl) rfl (k_10_put_0 _ _ _ ?_)
  rw [n0_lt (by omega), le_nI (by omega) (by omega), vpn (by omega), cl_nI (by omega)]
  refine ⟨fun z => z.elim, fun _ => ⟨h.v, fun z => absurd z (by omega), fun _ => ⟨h.q, by omega, ?_⟩⟩⟩
  rintro κ6 rfl
  exact k_10_put_20 _ _ _ ⟨rfl, q⟩
theorem kc_vpeek {F : Int32 → Km → Prop} (h : Vc κ n c (t + 1) bs g pc m) (q : F (c t) κ) : KC' X 1 MX10_peek [vR (1002 + 8 * n)] κ (kRI F) := by
  have h7 := h.2.2.1
  refine KC_of_K rfl (Nat.le_of_ble_eq_true rfl) rfl (k_10_peek_0 _ ⟨h.v, 0, by omega, ?_⟩)
  rw [h.2.1.1, litI 1, nI_sb (by omega), show t + 1 - 1 = t by omega]
  exact kc_vcell h (by omega) ⟨_, rfl, q⟩
theorem kc_vplace {F : Int32 → Km → Prop} (h : Vc κ n c t bs g pc m) (hb : bs + 3 < t) (q : F (c (bs + 3)) κ) : KC' X 0 MX10_place [vR (1002 + 8 * n)] κ (kRI F) := by
  have h7 := h.2.2.1
  refine KC_of_K rfl (Nat.le_of_ble_eq_true rfl) rfl (k_10_place_0 _ ⟨h.v, ?_⟩)
  rw [h.2.1.2.1, litI 3, nI_add, n0_lt (by omega), lt_nI (by omega) (by omega), vpn (by omega), cl_nI (by omega), h.2.2.2 _ hb]
  exact ⟨fun z => z.elim, fun _ => ⟨fun _ => ⟨h.q, by omega, k_10_place_31 _ _ _ ⟨_, rfl, q⟩⟩, fun z => absurd (by omega) z⟩⟩
theorem kc_vsetPlace {F : Km → Prop} {x : Int32} (h : Vc κ n c t bs g pc m) (hb : bs + 3 < t) (q : F (cI κ (1002 + 8 * n + 1) (bs + 3) x)) : KC' X 1 MX10_setPlace [vR (1002 + 8 * n), vI x] κ (kRV F) := by
  have h7 := h.2.2.1
  refine KC_of_K rfl (Nat.le_of_ble_eq_true rfl) rfl (k_10_setPlace_0 _ _ ⟨h.v, 0, by omega, ?_⟩)
  rw [h.2.1.2.1, litI 3, nI_add]
  exact kc_vput h (by omega) ⟨rfl, q⟩
theorem kc_vcanCall {F : Int32 → Km → Prop} (h : Vc κ n c t bs g pc m) (hm : m < 1000) (q1 : m < 60 → F 1 κ) (q0 : 60 ≤ m → F 0 κ) : KC' X 0 MX10_canCall [vR (1002 + 8 * n)] κ (kRI F) := by
  refine KC_of_K rfl (Nat.le_of_ble_eq_true rfl) rfl (k_10_canCall_0 _ ⟨h.v, ?_⟩)
  rw [h.2.1.2.2.2.2, litI 60, le_nI (by omega) (by omega)]
  exact ⟨fun z => k_10_canCall_14 _ _ ⟨Or.inl rfl, _, rfl, q0 z⟩, fun z => k_10_canCall_14 _ _ ⟨Or.inr rfl, _, rfl, q1 (by omega)⟩⟩
theorem kc_vleave0 {F : Int32 → Km → Prop} (h : Vc κ n c t bs g pc m) (hm : m ≤ 1) (q : F 0 κ) : KC' X 1 MX10_leave [vR (1002 + 8 * n)] κ (kRI F) := by
  refine KC_of_K rfl (Nat.le_of_ble_eq_true rfl) rfl (k_10_leave_0 _ ⟨h.v, ?_⟩)
  rw [h.2.1.2.2.2.2, litI 1, lt_nI (by omega) (by omega)]
  exact ⟨fun z => absurd z (by omega), fun _ => ⟨_, rfl, q⟩⟩
theorem kc_vleave {F : Int32 → Km → Prop} {b' : Nat} (h : Vc κ n c t bs g pc m) (hm : 1 < m) (hm2 : m < 1000) (hb : bs + 2 < t) (e2 : c (bs + 2) = nI b') (q : ∀ κ', Vo n κ κ' → Vc κ' n c bs b' g (c (bs + 1)) (m - 1) → F 1 κ') : KC' X 1 MX10_leave [vR (1002 + 8 * n)] κ (kRI F) := by
  have h7 := h.2.2.1
  refine KC_of_K rfl (Nat.le_of_ble_eq_true rfl) rfl (k_10_leave_0 _ ⟨h.v, ?_⟩)
  rw [h.2.1.2.2.2.2, litI 1, lt_nI (by omega) (by omega)]
  refine ⟨fun _ => ?_, fun z => absurd hm z⟩
  rw [h.2.1.2.1]
  rintro κ3 rfl
  have v3 := h.top (t' := bs) (by omega)
  have w3 : kW (cI κ (1002 + 8 * n) 13 (nI bs)) (1002 + 8 * n + 1) = kW κ (1002 + 8 * n + 1) := rfl
  refine ⟨0, by omega, ?_⟩
  rw [v3.2.1.2.1, ← litI 1, nI_1]
  refine kc_vcellw v3 (by rw [w3]; omega) ?_
  rintro κ10 rfl
  have ec : kI (cI κ (1002 + 8 * n) 13 (nI bs)) (1002 + 8 * n + 1) (bs + 1) = c (bs + 1) := by
    rw [kI_ne (by omega)]
    exact h.2.2.2 (bs + 1) (by omega)
  rw [ec]
  have v10 := v3.act (x := c (bs + 1))
  refine ⟨0, by omega, ?_⟩
  rw [v10.2.1.2.1, litI 2, nI_add]
  refine kc_vcellw v10 (by show bs + 2 < kW κ _; omega) ?_
  rintro κ17 rfl κ18 rfl
  have ed : kI (cI (cI κ (1002 + 8 * n) 13 (nI bs)) (1002 + 8 * n) 9 (c (bs + 1))) (1002 + 8 * n + 1) (bs + 2) = nI b' := by
    rw [kI_ne (by omega), kI_ne (by omega)]
    exact (h.2.2.2 (bs + 2) hb).trans e2
  rw [ed]
  have v17 := v10.base (b' := b')
  rw [v17.2.1.2.2.2.2, litI 1, nI_sb (by omega)]
  exact ⟨_, rfl, q _ (((Vo.reg (by omega)).trans (Vo.reg (by omega))).trans ((Vo.reg (by omega)).trans (Vo.reg (by omega)))) v17.cll⟩
end VCELL
