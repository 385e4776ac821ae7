/-! small pieces of the machine: voices found, their states, steps, ends -/
section SMALL
variable {X : Cx} {κ κ' : Km} {σ σ' : Rm} {n V p S al st F0 : Nat} {x num : Int32} {r : List Frm} {f : Frm}
/-- which voice a number is -/
theorem vno (x : Int32) (hV : V ≤ 60) : (∃ n, 1 ≤ n ∧ n ≤ V ∧ x = nI n) ∨ (x < 1 ∨ nI V < x) := by
  by_cases c1 : x < 1
  · exact Or.inr (Or.inl c1)
  · by_cases c2 : nI V < x
    · exact Or.inr (Or.inr c2)
    · obtain ⟨w, hw, rfl⟩ := nI_of2 (n := V) (M := nI V) (nI_toInt (by omega)) (fun z => c1 (Int32.lt_trans z (by decide))) (Int32.not_lt.mp c2)
      rw [litI 1, lt_nI (by omega) (by omega)] at c1
      exact Or.inl ⟨w, by omega, hw, rfl⟩
theorem kc_vfind {F : Nat → Km → Prop} (h10 : kI κ 79 10 = nI V) (hV : V ≤ 60) (hk : V ≤ kV κ) (q1 : ∀ n, 1 ≤ n → n ≤ V → x = nI n → F (1002 + 8 * n) κ) (q0 : (x < 1 ∨ nI V < x) → F 0 κ) : KC' X 0 MX6_find [vR 79, vI x] κ (kRR F) := by
  refine KC_of_K rfl (Nat.le_of_ble_eq_true rfl) rfl (k_6_find_0 _ ?_)
  rw [h10]
  rcases vno x hV with ⟨n, n1, n2, rfl⟩ | h
  · rw [litI 1, lt_nI (by omega) (by omega), lt_nI (by omega) (by omega), litI 60, le_nI (by omega) (by omega), vpn (by omega), cl_nI (by omega), if_pos ⟨n1, by omega⟩]
    exact ⟨fun z => absurd z (by omega), fun _ => ⟨fun z => absurd z (by omega), fun _ => ⟨fun _ => ⟨by omega, k_6_find_29 _ _ ⟨_, rfl, q1 n n1 n2 rfl⟩⟩, fun z => absurd (by omega) z⟩⟩⟩
  · have e : ∀ Q : Res → Km → Prop, Q (.inl (some (vR 0))) κ → K X 0 MX6_find 19 [(0, vR 79), (1, vI x)] [] κ Q := fun Q hq => k_6_find_19 _ (k_6_find_29 _ 0 hq)
    have e := e (kRR F) ⟨_, rfl, q0 h⟩
    rcases h with h | h
    · exact ⟨fun _ => e, fun z => absurd h z⟩
    · exact ⟨fun _ => e, fun _ => ⟨fun _ => e, fun z => absurd h z⟩⟩
theorem kc_isReady {F : Int32 → Km → Prop} (hv : isH κ (1002 + 8 * n) 10) (h1 : kI κ (1002 + 8 * n) 1 = nI st) (hs : st ≤ 6) (q1 : st ≤ 1 → F 1 κ) (q0 : 2 ≤ st → F 0 κ) : KC' X 0 MX10_isReady [vR (1002 + 8 * n)] κ (kRI F) := by
  refine KC_of_K rfl (Nat.le_of_ble_eq_true rfl) rfl (k_10_isReady_0 _ ⟨hv, ?_⟩)
  rw [h1, litI 0, litI 1, eq_nI (by omega) (by omega), eq_nI (by omega) (by omega)]
  exact ⟨fun z => k_10_isReady_15 _ (k_10_isReady_20 _ _ ⟨Or.inr rfl, _, rfl, q1 (by omega)⟩), fun z => ⟨fun z2 => k_10_isReady_15 _ (k_10_isReady_20 _ _ ⟨Or.inr rfl, _, rfl, q1 (by omega)⟩), fun z2 => k_10_isReady_20 _ _ ⟨Or.inl rfl, _, rfl, q0 (by omega)⟩⟩⟩
theorem kc_isOver {F : Int32 → Km → Prop} (hv : isH κ (1002 + 8 * n) 10) (h1 : kI κ (1002 + 8 * n) 1 = nI st) (hs : st ≤ 6) (q1 : 4 ≤ st → F 1 κ) (q0 : st < 4 → F 0 κ) : KC' X 0 MX10_isOver [vR (1002 + 8 * n)] κ (kRI F) := by
  refine KC_of_K rfl (Nat.le_of_ble_eq_true rfl) rfl (k_10_isOver_0 _ ⟨hv, ?_⟩)
  rw [h1, litI 4, lt_nI (by omega) (by omega)]
  exact ⟨fun z => k_10_isOver_13 _ _ ⟨Or.inl rfl, _, rfl, q0 z⟩, fun z => k_10_isOver_13 _ _ ⟨Or.inr rfl, _, rfl, q1 (by omega)⟩⟩
theorem kc_step {F : Int32 → Km → Prop} (hv : isH κ (1002 + 8 * n) 10) (h12 : kI κ 79 12 = nI S) (hS : S ≤ 6000) (q1 : S < 6000 → F 1 (cI (cI κ 79 12 (nI (S + 1))) (1002 + 8 * n) 6 (kI κ (1002 + 8 * n) 6 + 1))) (q0 : S = 6000 → F 0 (cI κ 79 17 1)) : KC' X 0 MX6_step [vR 79, vR (1002 + 8 * n)] κ (kRI F) := by
  refine KC_of_K rfl (Nat.le_of_ble_eq_true rfl) rfl (k_6_step_0 _ ?_)
  rw [h12, litI 6000, lt_nI (by omega) (by omega), nI_1]
  refine ⟨fun c => ?_, fun c => ?_⟩
  · rintro κ2 rfl
    refine ⟨hv, ?_⟩
    rintro κ4 rfl
    refine ⟨_, rfl, ?_⟩
    rw [kI_ne (by omega)]
    exact q1 c
  · rintro κ5 rfl
    exact ⟨_, rfl, q0 (by omega)⟩
theorem kc_raise {F : Km → Prop} (hk : VK κ n (f :: r)) (h0 : kI κ (1002 + 8 * n) 0 = nI n) (fl : FRl κ σ F0) (hF : F0 < 7900) (q : ∀ κ', FmC κ κ' F0 num 0 (nI n) (frP f) 0 → F (cI κ' 79 14 (nI (F0 + 1)))) : KC' X 4 MX6_raise [vR 79, vR (1002 + 8 * n), vI num] κ (kRV F) := by
  refine KC_of_K rfl (Nat.le_of_ble_eq_true rfl) rfl (k_6_raise_0 _ _ ⟨hk.v, 0, by omega, vk_place hk ⟨3, by omega, ?_⟩⟩)
  rw [h0]
  refine kc_fmake fl.1.1 hF fl.2.1 (fun κ' fm => ?_)
  rintro κ14 rfl
  exact ⟨rfl, q κ' fm⟩
/-- the reference -/
theorem ac_isVoice {F : Int32 → Rm → Prop} (h47 : sI σ 47 = nI V) (hV : V ≤ 60) (q1 : ∀ n, 1 ≤ n → n ≤ V → x = nI n → F 1 σ) (q0 : (x < 1 ∨ nI V < x) → F 0 σ) : AC X 92 1 MX13_isVoice [vR 92, vI x] σ (aRI F) := by
  refine AC_of_A rfl (Nat.le_of_ble_eq_true rfl) rfl (a_isVoice_0 _ ⟨0, by omega, ac_in _ _ _ ?_⟩)
  rw [h47]
  rcases vno x hV with ⟨n, n1, n2, rfl⟩ | h
  · rw [if_pos ⟨by rw [litI 1, lt_nI (by omega) (by omega)]; omega, by rw [lt_nI (by omega) (by omega)]; omega⟩]
    exact ⟨Or.inr rfl, _, rfl, q1 n n1 n2 rfl⟩
  · rw [if_neg (fun z => h.elim z.1 z.2)]
    exact ⟨Or.inl rfl, _, rfl, q0 h⟩
theorem ac_isOver {F : Int32 → Rm → Prop} (hn : n ≤ 60) (h1 : aI σ 49 n = nI st) (hs : st ≤ 6) (q1 : 4 ≤ st → F 1 σ) (q0 : st < 4 → F 0 σ) : AC X 92 0 MX13_isOver [vR 92, vI (nI n)] σ (aRI F) := by
  refine AC_of_A rfl (Nat.le_of_ble_eq_true rfl) rfl (a_isOver_0 _ ?_)
  rw [vpn (by omega), cl_nI (by omega), h1, litI 4, lt_nI (by omega) (by omega)]
  exact ⟨by omega, fun z => a_isOver_15 _ _ ⟨Or.inl rfl, _, rfl, q0 z⟩, fun z => a_isOver_15 _ _ ⟨Or.inr rfl, _, rfl, q1 (by omega)⟩⟩
theorem ac_placeOf {F : Int32 → Rm → Prop} (h : VRx σ n p (f :: r)) (q : F (frP f) σ) : AC X 92 1 MX13_placeOf [vR 92, vI (nI n)] σ (aRI F) := by
  have hh := h
  obtain ⟨⟨h1, h2, h3, h4⟩, h5, h6, h7, h8⟩ := hh
  have h4 : r.length + 1 ≤ 60 := h4
  refine AC_of_A rfl (Nat.le_of_ble_eq_true rfl) rfl (a_placeOf_0 _ ⟨fun z => absurd z (nI_ne0 (by omega) (by omega)), fun _ => ⟨0, by omega, ac_call h ?_⟩⟩)
  rw [vpn (by omega), cl_nI (by omega), show aI σ 63 (60 * p + r.length) = frP f from h8.2.1.2.2.1]
  exact ⟨by omega, a_placeOf_19 _ _ ⟨_, rfl, q⟩⟩
theorem ac_placeOf0 {F : Int32 → Rm → Prop} (q : F (-9) σ) : AC X 92 1 MX13_placeOf [vR 92, vI 0] σ (aRI F) :=
  AC_of_A rfl (Nat.le_of_ble_eq_true rfl) rfl (a_placeOf_0 _ ⟨fun _ => a_placeOf_19 _ _ ⟨_, rfl, q⟩, fun z => absurd rfl z⟩)
theorem ac_step {F : Int32 → Rm → Prop} (hn : n ≤ 60) (h75 : sI σ 75 = nI S) (hS : S < 6000) (q1 : F 1 (wI (wS σ 75 (nI (S + 1))) 52 n (aI σ 52 n + 1))) : AC X 92 1 MX13_step [vR 92, vI (nI n)] σ (aRI F) := by
  refine AC_of_A rfl (Nat.le_of_ble_eq_true rfl) rfl (a_step_0 _ ?_)
  rw [h75, litI 6000, eq_nI (by omega) (by omega), nI_1, vpn (by omega), cl_nI (by omega)]
  refine ⟨fun z => absurd z (by omega), fun _ => ?_⟩
  rintro s6 rfl
  refine ⟨by omega, by omega, ?_⟩
  rintro s9 rfl
  refine ⟨_, rfl, ?_⟩
  rw [aI_ne (by decide)]
  exact q1
/-- a voice is over -/
theorem ac_over {F : Rm → Prop} (hn : n ≤ 60) (hp : p < 12) (h58 : aI σ 58 n = nI p) (h48 : sI σ 48 = nI al) (hA : 1 ≤ al) (q : F (wI (wI (wS (wI σ 49 n x) 48 (nI (al - 1))) 59 p 0) 58 n (-9))) : AC X 92 0 MX13_over [vR 92, vI (nI n), vI x] σ (aRV F) := by
  refine AC_of_A rfl (Nat.le_of_ble_eq_true rfl) rfl (a_over_0 _ _ ?_)
  rw [vpn (by omega), cl_nI (by omega)]
  refine ⟨by omega, ?_⟩
  rintro s2 rfl s3 rfl
  rw [sI_ne (by decide), h48, litI 1, nI_sb hA]
  have e58 : aI (wS (wI σ 49 n x) 48 (nI (al - 1))) 58 n = nI p := by rw [aI_ne (by decide), aI_ne (by decide)]; exact h58
  rw [e58, n0_lt (by omega), vpn (by omega), cl_nI (by omega)]
  refine ⟨by omega, fun z => z.elim, fun _ => ⟨by omega, hp, ?_⟩⟩
  rintro s8 rfl
  refine ⟨by omega, ?_⟩
  rintro s10 rfl
  exact a_over_46 _ _ ⟨rfl, q⟩
theorem ac_over9 {F : Rm → Prop} (hn : n ≤ 60) (h58 : aI σ 58 n = -9) (h48 : sI σ 48 = nI al) (hA : 1 ≤ al) (q : F (wS (wI σ 49 n x) 48 (nI (al - 1)))) : AC X 92 0 MX13_over [vR 92, vI (nI n), vI x] σ (aRV F) := by
  refine AC_of_A rfl (Nat.le_of_ble_eq_true rfl) rfl (a_over_0 _ _ ?_)
  rw [vpn (by omega), cl_nI (by omega)]
  refine ⟨by omega, ?_⟩
  rintro s2 rfl s3 rfl
  rw [sI_ne (by decide), h48, litI 1, nI_sb hA]
  have e58 : aI (wS (wI σ 49 n x) 48 (nI (al - 1))) 58 n = -9 := by rw [aI_ne (by decide), aI_ne (by decide)]; exact h58
  rw [e58]
  exact ⟨by omega, fun _ => a_over_46 _ _ ⟨rfl, q⟩, fun z => absurd (by decide) z⟩
/-- a voice is made -/
def mdR (σ : Rm) (V al : Nat) (sc ar mk : Int32) : Rm := wI (wI (wI (wI (wI (wI (wI (wI (wI (wI (wS (wS σ 47 (nI (V + 1))) 48 (nI (al + 1))) 49 (V + 1) 0) 50 (V + 1) sc) 51 (V + 1) ar) 52 (V + 1) 0) 53 (V + 1) 0) 54 (V + 1) (-9)) 55 (V + 1) mk) 56 (V + 1) 0) 57 (V + 1) 0) 58 (V + 1) (-9)
theorem ac_made {F : Int32 → Rm → Prop} {sc : Nat} {ar mk tk : Int32} (h47 : sI σ 47 = nI V) (h48 : sI σ 48 = nI al) (hV : V < 60) (hA : al < 12) (hs : sc < 12) (h20 : aI σ 20 sc = nI S) (hS : S ≤ 4) (q : F (nI (V + 1)) (mdR σ V al (nI sc) (if 0 < S then ar else 0) mk)) : AC X 92 0 MX13_made [vR 92, vI (nI sc), vI ar, vI mk] σ (aRI F) := by
  refine AC_of_A rfl (Nat.le_of_ble_eq_true rfl) rfl (a_made_0 _ _ _ ?_)
  rw [h47, nI_1]
  rintro s1 rfl s2 rfl
  rw [sI_eq, sI_ne (by decide), h48, nI_1, vpn (by omega), cl_nI (by omega)]
  refine ⟨by omega, ?_⟩
  rintro s4 rfl
  refine ⟨by omega, ?_⟩
  rintro s6 rfl
  rw [vpn (by omega), cl_nI (by omega), aI_ne (by decide), aI_ne (by decide), aI_ne (by decide), aI_ne (by decide), h20, nI_le0 (by omega)]
  have fin : ∀ t : Int32, t = (if 0 < S then ar else 0) → A X 92 0 MX13_made 62 [(0, vR 92), (1, vI (nI sc)), (2, vI ar), (3, vI mk), (4, vI (nI (V + 1)))] [vI t, vI (nI (V + 1)), vR 127] (wI (wI (wS (wS σ 47 (nI (V + 1))) 48 (nI (al + 1))) 49 (V + 1) 0) 50 (V + 1) (nI sc)) (aRI F) := fun t ht => by
    refine a_made_62 _ _ _ _ _ _ ?_
    rw [vpn (by omega), cl_nI (by omega)]
    refine ⟨by omega, ?_⟩
    rintro s2 rfl
    refine ⟨by omega, ?_⟩
    rintro s4 rfl
    refine ⟨by omega, ?_⟩
    rintro s6 rfl
    refine ⟨by omega, ?_⟩
    rintro s8 rfl
    refine ⟨by omega, ?_⟩
    rintro s10 rfl
    refine ⟨by omega, ?_⟩
    rintro s12 rfl
    refine ⟨by omega, ?_⟩
    rintro s14 rfl
    refine ⟨by omega, ?_⟩
    rintro s16 rfl
    refine ⟨_, rfl, ?_⟩
    rw [ht]
    exact q
  exact ⟨hs, fun z => fin _ (by rw [if_neg (by omega)]), fun z => fin _ (by rw [if_pos (by omega)])⟩
end SMALL
