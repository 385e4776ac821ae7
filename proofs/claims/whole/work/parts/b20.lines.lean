/-! lines, handings, told -/
section LINES
variable {X : Cx} {d e : Nat} {κ0 κ κ1 κ' : Km} {σ0 σ σ1 σ' : Rm} {b V al S T sp z LT HT F0 n k s m p hh : Nat} {st : Nat → Nat} {fr : Nat → List Frm} {pt : Nat → Nat} {w : Nat → Nat} {fs : List Frm} {x x0 x1 x2 y hi : Int32} {g : Nat → Int32}
/-- the class: what is kept of pairs -/
theorem kc_kept {F : Int32 → Km → Prop} (h80 : hh = 80 ∨ hh = 82) (pc : PrC κ hh T g) (qb : (∀ w, w ≤ 1 → x2 ≠ nI w) → F (-1) κ) (qn : ∀ w, w ≤ 1 → x2 = nI w → (∀ j, j < min T 300 → x1 ≠ nI j) → F (-9) κ) (qv : ∀ w j, w ≤ 1 → x2 = nI w → j < min T 300 → x1 = nI j → F (g (2 * j + w)) κ) : KC' X 2 MX11_kept [vR hh, vI x1, vI x2] κ (kRI F) := by
  obtain ⟨c1, c2, c3, c4, c5, c6⟩ := pc
  have hH : isH κ hh 4 := by
    rcases h80 with rfl | rfl
    · exact fixH 80 4 (by decide) rfl
    · exact fixH 82 4 (by decide) rfl
  have hH1 : isH κ (hh + 1) 21 := by
    rcases h80 with rfl | rfl
    · exact fixH 81 21 (by decide) rfl
    · exact fixH 83 21 (by decide) rfl
  have bad : (∀ w, w ≤ 1 → x2 ≠ nI w) → K X 2 MX11_kept 9 [(0, vR hh), (1, vI x1), (2, vI x2)] [] κ (kRI F) := fun h => k_11_kept_9 _ _ _ ⟨_, rfl, qb h⟩
  refine KC_of_K rfl (Nat.le_of_ble_eq_true rfl) rfl (k_11_kept_0 _ _ _ ⟨fun c => bad (fun w hw e => nI_pos (by omega) (e ▸ c)), fun c => ?_⟩)
  obtain ⟨w, hw, rfl⟩ := nI_of c
  rw [litI 1, le_nI hw (by omega)]
  refine ⟨fun c1' => ⟨fun c0 => ?_, fun c0 => ⟨hH, 0, by omega, KC_of_K rfl (Nat.le_of_ble_eq_true rfl) rfl (k_4_kept_0 _ ⟨hH, _, rfl, ?_⟩)⟩⟩, fun c1' => bad (fun v hv e => by rw [eq_nI hw (by omega)] at e; omega)⟩
  · exact k_11_kept_23 _ _ _ (k_11_kept_34 _ _ _ _ ⟨_, rfl, qn w c1' rfl (fun j hj e => nI_pos (by omega) (e ▸ c0))⟩)
  · obtain ⟨j, hj, rfl⟩ := nI_of c0
    rw [c2, lt_nI hj (by omega)]
    refine ⟨fun c3' => ⟨0, by omega, KC_of_K rfl (Nat.le_of_ble_eq_true rfl) rfl (k_4_get_0 _ _ _ ?_)⟩, fun c3' => k_11_kept_23 _ _ _ (k_11_kept_34 _ _ _ _ ⟨_, rfl, qn w c1' rfl (fun i hi e => by rw [eq_nI hj (by omega)] at e; omega)⟩)⟩
    have e2 : (2 : Int32) * nI j + nI w = nI (2 * j + w) := by rw [litI 2, pk_mul, nI_add]
    rw [e2, n0_lt (by omega), lt_nI (by omega) (by omega), vpn (by omega), cl_nI (by omega), c3 (2 * j + w) (by omega)]
    exact ⟨fun z => z.elim, fun _ => ⟨h80, hH1, fun _ => ⟨by omega, k_4_get_30 _ _ _ _ _ ⟨_, rfl, k_11_kept_34 _ _ _ _ ⟨_, rfl, qv w j c1' rfl c3' rfl⟩⟩⟩, fun z => absurd (by omega) z⟩⟩
theorem ac_line {F : Int32 → Rm → Prop} (h46 : sI σ 46 = 1) (pr : PRr σ 80 81 82 T g) (hT : T < 2147483648) (qb : (∀ w, w ≤ 1 → x2 ≠ nI w) → F (-1) σ) (qn : ∀ w, w ≤ 1 → x2 = nI w → (∀ j, j < min T 300 → x1 ≠ nI j) → F (-9) σ) (qv : ∀ w j, w ≤ 1 → x2 = nI w → j < min T 300 → x1 = nI j → F (g (2 * j + w)) σ) : AC X 92 10 MX13_line [vR 92, vI x1, vI x2] σ (aRI F) := by
  refine AC_of_A rfl (Nat.le_of_ble_eq_true rfl) rfl (a_line_0 _ _ ⟨fun z => absurd (h46.symm.trans z) (by decide), fun _ => ⟨0, by omega, ac_inN (m := 1) rfl (by omega) (fun w hw e => ⟨fun z => absurd z (by decide), fun _ => ⟨0, by omega, ac_inC pr.1 hT (fun j hj e1 => ⟨fun z => absurd z (by decide), fun _ => ?_⟩) (fun hz => ⟨fun _ => a_line_42 _ _ (a_line_66 _ _ _ ⟨_, rfl, qn w hw e (fun j hj => hz j (by omega))⟩), fun z => absurd rfl z⟩)⟩⟩) (fun hz => ⟨fun _ => ⟨_, rfl, qb hz⟩, fun z => absurd rfl z⟩)⟩⟩)
  subst e e1
  rw [show ((300 : Int32)) = nI 300 from rfl, lt_nI (by omega) (by omega), litI 0, eq_nI (by omega) (by omega), vpn (by omega), cl_nI (by omega)]
  refine ⟨fun c => ?_, fun c => a_line_42 _ _ (a_line_66 _ _ _ ⟨_, rfl, qn w hw rfl (fun i hi e => by rw [eq_nI (by omega) (by omega)] at e; omega)⟩)⟩
  obtain ⟨p1, p2⟩ := pr.2 j (by omega)
  have q := qv w j hw rfl (by omega) rfl
  refine ⟨fun c0 => ⟨c, ?_⟩, fun c0 => ⟨c, ?_⟩⟩
  · rw [p1]
    rw [c0] at q
    exact a_line_66 _ _ _ ⟨_, rfl, q⟩
  · rw [p2]
    rw [show w = 1 by omega] at q
    exact a_line_66 _ _ _ ⟨_, rfl, q⟩
theorem ac_handing {F : Int32 → Rm → Prop} (h46 : sI σ 46 = 1) (pr : PRr σ 83 84 85 T g) (hT : T < 2147483648) (qb : (∀ w, w ≤ 1 → x2 ≠ nI w) → F (-1) σ) (qn : ∀ w, w ≤ 1 → x2 = nI w → (∀ j, j < min T 300 → x1 ≠ nI j) → F (-9) σ) (qv : ∀ w j, w ≤ 1 → x2 = nI w → j < min T 300 → x1 = nI j → F (g (2 * j + w)) σ) : AC X 92 10 MX13_handing [vR 92, vI x1, vI x2] σ (aRI F) := by
  refine AC_of_A rfl (Nat.le_of_ble_eq_true rfl) rfl (a_handing_0 _ _ ⟨fun z => absurd (h46.symm.trans z) (by decide), fun _ => ⟨0, by omega, ac_inN (m := 1) rfl (by omega) (fun w hw e => ⟨fun z => absurd z (by decide), fun _ => ⟨0, by omega, ac_inC pr.1 hT (fun j hj e1 => ⟨fun z => absurd z (by decide), fun _ => ?_⟩) (fun hz => ⟨fun _ => a_handing_42 _ _ (a_handing_66 _ _ _ ⟨_, rfl, qn w hw e (fun j hj => hz j (by omega))⟩), fun z => absurd rfl z⟩)⟩⟩) (fun hz => ⟨fun _ => ⟨_, rfl, qb hz⟩, fun z => absurd rfl z⟩)⟩⟩)
  subst e e1
  rw [show ((300 : Int32)) = nI 300 from rfl, lt_nI (by omega) (by omega), litI 0, eq_nI (by omega) (by omega), vpn (by omega), cl_nI (by omega)]
  refine ⟨fun c => ?_, fun c => a_handing_42 _ _ (a_handing_66 _ _ _ ⟨_, rfl, qn w hw rfl (fun i hi e => by rw [eq_nI (by omega) (by omega)] at e; omega)⟩)⟩
  obtain ⟨p1, p2⟩ := pr.2 j (by omega)
  have q := qv w j hw rfl (by omega) rfl
  refine ⟨fun c0 => ⟨c, ?_⟩, fun c0 => ⟨c, ?_⟩⟩
  · rw [p1]
    rw [c0] at q
    exact a_handing_66 _ _ _ ⟨_, rfl, q⟩
  · rw [p2]
    rw [show w = 1 by omega] at q
    exact a_handing_66 _ _ _ ⟨_, rfl, q⟩
theorem Desk.lth (dk : Desk κ0 σ0 κ σ b V al S LT HT sp F0 z st fr pt w) : LT < 2147483648 ∧ HT < 2147483648 := by
  have acc := dk.2.2.1
  obtain ⟨-, a2, a3⟩ := acc
  exact ⟨by omega, by omega⟩
theorem lines_ok (h : Rr k κ σ) : P2I X MX11_lines MX13_lines [] κ σ (Rr (k + 1)) := by
  refine ⟨10, 10, by decide, by decide, ?_⟩
  rcases h.cases with ⟨p, hR⟩ | ⟨κ0, σ0, b, V, al, S, LT, HT, sp, F0, z, st, fr, pt, w, p0, p, dk, hb, hR⟩
  · exact KC_of_K rfl (Nat.le_of_ble_eq_true rfl) rfl (k_11_lines_0 ⟨fun _ => k_11_lines_22 _ ⟨_, rfl, AC_of_A rfl (Nat.le_of_ble_eq_true rfl) rfl (a_lines_0 ⟨fun _ => a_lines_16 _ ⟨_, rfl, rfl, hR⟩, fun z => absurd p.2.2.2.2 z⟩)⟩, fun z => absurd p.2.2.2.1 z⟩)
  · obtain ⟨-, -, -, h5, h46⟩ := p
    obtain ⟨⟨g1, p1, p2⟩, -, -⟩ := (dk.bn (x := 0)).1.2.2.2.2.1
    exact KC_of_K rfl (Nat.le_of_ble_eq_true rfl) rfl (k_11_lines_0 ⟨fun z => absurd (h5.symm.trans z) (by decide), fun _ => ⟨0, by omega, KC_of_K rfl (Nat.le_of_ble_eq_true rfl) rfl (k_4_total_0 _ ⟨fixH 80 4 (by decide) rfl, _, rfl, k_11_lines_22 _ ⟨_, rfl, AC_of_A rfl (Nat.le_of_ble_eq_true rfl) rfl (a_lines_0 ⟨fun z => absurd (h46.symm.trans z) (by decide), fun _ => a_lines_16 _ ⟨_, rfl, p1.1.trans p2.1.symm, hR⟩⟩)⟩⟩)⟩⟩)
theorem handings_ok (h : Rr k κ σ) : P2I X MX11_handings MX13_handings [] κ σ (Rr (k + 1)) := by
  refine ⟨10, 10, by decide, by decide, ?_⟩
  rcases h.cases with ⟨p, hR⟩ | ⟨κ0, σ0, b, V, al, S, LT, HT, sp, F0, z, st, fr, pt, w, p0, p, dk, hb, hR⟩
  · exact KC_of_K rfl (Nat.le_of_ble_eq_true rfl) rfl (k_11_handings_0 ⟨fun _ => k_11_handings_22 _ ⟨_, rfl, AC_of_A rfl (Nat.le_of_ble_eq_true rfl) rfl (a_handings_0 ⟨fun _ => a_handings_16 _ ⟨_, rfl, rfl, hR⟩, fun z => absurd p.2.2.2.2 z⟩)⟩, fun z => absurd p.2.2.2.1 z⟩)
  · obtain ⟨-, -, -, h5, h46⟩ := p
    obtain ⟨-, ⟨g1, p1, p2⟩, -⟩ := (dk.bn (x := 0)).1.2.2.2.2.1
    exact KC_of_K rfl (Nat.le_of_ble_eq_true rfl) rfl (k_11_handings_0 ⟨fun z => absurd (h5.symm.trans z) (by decide), fun _ => ⟨0, by omega, KC_of_K rfl (Nat.le_of_ble_eq_true rfl) rfl (k_4_total_0 _ ⟨fixH 82 4 (by decide) rfl, _, rfl, k_11_handings_22 _ ⟨_, rfl, AC_of_A rfl (Nat.le_of_ble_eq_true rfl) rfl (a_handings_0 ⟨fun z => absurd (h46.symm.trans z) (by decide), fun _ => a_handings_16 _ ⟨_, rfl, p1.1.trans p2.1.symm, hR⟩⟩)⟩⟩)⟩⟩)
theorem line_ok (h : Rr k κ σ) : P2I X MX11_line MX13_line [vI x0, vI x1] κ σ (Rr (k + 1)) := by
  refine ⟨10, 10, by decide, by decide, ?_⟩
  rcases h.cases with ⟨p, hR⟩ | ⟨κ0, σ0, b, V, al, S, LT, HT, sp, F0, z, st, fr, pt, w, p0, p, dk, hb, hR⟩
  · exact KC_of_K rfl (Nat.le_of_ble_eq_true rfl) rfl (k_11_line_0 _ _ ⟨fun _ => k_11_line_24 _ _ _ ⟨_, rfl, AC_of_A rfl (Nat.le_of_ble_eq_true rfl) rfl (a_line_0 _ _ ⟨fun _ => ⟨_, rfl, rfl, hR⟩, fun z => absurd p.2.2.2.2 z⟩)⟩, fun z => absurd p.2.2.2.1 z⟩)
  · obtain ⟨-, -, -, h5, h46⟩ := p
    obtain ⟨⟨g1, p1, p2⟩, -, -⟩ := (dk.bn (x := 0)).1.2.2.2.2.1
    have hT := dk.lth.1
    refine KC_of_K rfl (Nat.le_of_ble_eq_true rfl) rfl (k_11_line_0 _ _ ⟨fun z => absurd (h5.symm.trans z) (by decide), fun _ => ⟨2, by omega, kc_kept (Or.inl rfl) p1 (fun h1 => k_11_line_24 _ _ _ ⟨_, rfl, ac_line h46 p2 hT (fun _ => ⟨rfl, hR⟩) (fun w hw e => absurd e (h1 w hw)) (fun w j hw e => absurd e (h1 w hw))⟩) (fun w hw e h1 => k_11_line_24 _ _ _ ⟨_, rfl, ac_line h46 p2 hT (fun h2 => absurd e (h2 w hw)) (fun _ _ _ _ => ⟨rfl, hR⟩) (fun w' j _ _ hj e2 => absurd e2 (h1 j hj))⟩) (fun w j hw e hj e2 => k_11_line_24 _ _ _ ⟨_, rfl, ac_line h46 p2 hT (fun h2 => absurd e (h2 w hw)) (fun _ _ _ h1 => absurd e2 (h1 j hj)) (fun w' j' hw' e' hj' e2' => ?_)⟩)⟩⟩)
    have a1 : w = w' := by rw [e, eq_nI (by omega) (by omega)] at e'; exact e'
    have a2 : j = j' := by rw [e2, eq_nI (by omega) (by omega)] at e2'; exact e2'
    rw [a1, a2]
    exact ⟨rfl, hR⟩
theorem handing_ok (h : Rr k κ σ) : P2I X MX11_handing MX13_handing [vI x0, vI x1] κ σ (Rr (k + 1)) := by
  refine ⟨10, 10, by decide, by decide, ?_⟩
  rcases h.cases with ⟨p, hR⟩ | ⟨κ0, σ0, b, V, al, S, LT, HT, sp, F0, z, st, fr, pt, w, p0, p, dk, hb, hR⟩
  · exact KC_of_K rfl (Nat.le_of_ble_eq_true rfl) rfl (k_11_handing_0 _ _ ⟨fun _ => k_11_handing_24 _ _ _ ⟨_, rfl, AC_of_A rfl (Nat.le_of_ble_eq_true rfl) rfl (a_handing_0 _ _ ⟨fun _ => ⟨_, rfl, rfl, hR⟩, fun z => absurd p.2.2.2.2 z⟩)⟩, fun z => absurd p.2.2.2.1 z⟩)
  · obtain ⟨-, -, -, h5, h46⟩ := p
    obtain ⟨-, ⟨g1, p1, p2⟩, -⟩ := (dk.bn (x := 0)).1.2.2.2.2.1
    have hT := dk.lth.2
    refine KC_of_K rfl (Nat.le_of_ble_eq_true rfl) rfl (k_11_handing_0 _ _ ⟨fun z => absurd (h5.symm.trans z) (by decide), fun _ => ⟨2, by omega, kc_kept (Or.inr rfl) p1 (fun h1 => k_11_handing_24 _ _ _ ⟨_, rfl, ac_handing h46 p2 hT (fun _ => ⟨rfl, hR⟩) (fun w hw e => absurd e (h1 w hw)) (fun w j hw e => absurd e (h1 w hw))⟩) (fun w hw e h1 => k_11_handing_24 _ _ _ ⟨_, rfl, ac_handing h46 p2 hT (fun h2 => absurd e (h2 w hw)) (fun _ _ _ _ => ⟨rfl, hR⟩) (fun w' j _ _ hj e2 => absurd e2 (h1 j hj))⟩) (fun w j hw e hj e2 => k_11_handing_24 _ _ _ ⟨_, rfl, ac_handing h46 p2 hT (fun h2 => absurd e (h2 w hw)) (fun _ _ _ h1 => absurd e2 (h1 j hj)) (fun w' j' hw' e' hj' e2' => ?_)⟩)⟩⟩)
    have a1 : w = w' := by rw [e, eq_nI (by omega) (by omega)] at e'; exact e'
    have a2 : j = j' := by rw [e2, eq_nI (by omega) (by omega)] at e2'; exact e2'
    rw [a1, a2]
    exact ⟨rfl, hR⟩
/-- how many calls are open in a voice -/
theorem Desk.many (dk : Desk κ0 σ0 κ σ b V al S LT HT sp F0 z st fr pt w) (hn : 1 ≤ n ∧ n ≤ V) : kI κ (1002 + 8 * n) 8 = nI (fr n).length ∧ (fr n).length ≤ 60 ∧ ∀ F : Int32 → Rm → Prop, F (nI (fr n).length) σ → AC X 92 0 MX13_callMany [vR 92, vI (nI n)] σ (aRI F) := by
  have hV60 : V ≤ 60 := dk.stg.2.2.2.2.2.2.2.1
  have hcl := (dk.bn (x := 0)).1.2.2.2.2.2.2 n hn.1 hn.2
  rcases hcl with ⟨h1, h2, h3, h4⟩ | ⟨h1, h2, h3, h4⟩
  · rw [h1]
    refine ⟨h4, Nat.zero_le _, fun F hF => AC_of_A rfl (Nat.le_of_ble_eq_true rfl) rfl (a_callMany_0 _ ?_)⟩
    rw [vpn (by omega), cl_nI (by omega), h3]
    exact ⟨by omega, fun z => absurd z (by decide), fun _ => a_callMany_24 _ _ ⟨_, rfl, hF⟩⟩
  · have vr : VR σ n (pt n) (fr n) := h3.elim id (fun z => absurd z.1 (by omega))
    obtain ⟨⟨q1, q2, q3, q4⟩, q5, ⟨q6, -, -⟩, -⟩ := vr
    obtain ⟨c, o, -, -, vc⟩ := h2
    refine ⟨vc.2.1.2.2.2.2, q4, fun F hF => AC_of_A rfl (Nat.le_of_ble_eq_true rfl) rfl (a_callMany_0 _ ?_)⟩
    rw [vpn (by omega), cl_nI (by omega), q5, n0_le (by omega), vpn (by omega), cl_nI (by omega), q6]
    exact ⟨by omega, fun _ => ⟨by omega, q1, a_callMany_24 _ _ ⟨_, rfl, hF⟩⟩, fun z => absurd trivial z⟩
/-- what is told of a voice: both alike -/
theorem Desk.fact (dk : Desk κ0 σ0 κ σ b V al S LT HT sp F0 z st fr pt w) (hn : 1 ≤ n ∧ n ≤ V) (hm : m ≤ 6) : ∃ y : Int32, (∀ F : Int32 → Km → Prop, F y κ → KC' X 0 MX10_fact [vR (1002 + 8 * n), vI (nI m)] κ (kRI F)) ∧ ∀ F : Int32 → Rm → Prop, F y σ → AC X 92 1 MX13_tellsOf [vR 92, vI (nI n), vI (nI m)] σ (aRI F) := by
  have hV60 : V ≤ 60 := dk.stg.2.2.2.2.2.2.2.1
  have hH := (dk.vst n hn.1 hn.2).1
  obtain ⟨v1, ⟨v2, v2b, v3⟩, ⟨sc, c1, c2, c3, c4⟩, v4, ⟨mk, m1, m2, m3⟩, ⟨r1, -⟩, v7, v8, -⟩ := (dk.bn (x := 0)).1.2.2.1 n hn.1 hn.2
  obtain ⟨d1, d2, d3⟩ := dk.many (X := X) hn
  have vj : vp_in (nI n) 61 := by rw [vpn (by omega)]; omega
  have h7 : m = 0 ∨ m = 1 ∨ m = 2 ∨ m = 3 ∨ m = 4 ∨ m = 5 ∨ m = 6 := by omega
  have ne : ∀ a c : Nat, a ≤ 6 → c ≤ 6 → a ≠ c → ¬ nI a = nI c := fun a c ha hc h => nI_ne (by omega) (by omega) h
  refine ⟨kI κ (1002 + 8 * n) (if m = 0 then 1 else if m = 1 then 2 else if m = 2 then 6 else if m = 3 then 7 else if m = 4 then 8 else if m = 5 then 5 else 4), fun F hF => ?_, fun F hF => ?_⟩
  · rcases h7 with rfl | rfl | rfl | rfl | rfl | rfl | rfl
    · exact KC_of_K rfl (Nat.le_of_ble_eq_true rfl) rfl (k_10_fact_0 _ _ ⟨fun _ => ⟨hH, _, rfl, hF⟩, fun z => absurd z (ne 0 1 (by omega) (by omega) (by omega)), fun z => absurd z (ne 0 2 (by omega) (by omega) (by omega)), fun z => absurd z (ne 0 3 (by omega) (by omega) (by omega)), fun z => absurd z (ne 0 4 (by omega) (by omega) (by omega)), fun z => absurd z (ne 0 5 (by omega) (by omega) (by omega)), fun z => absurd (Or.inl rfl) z⟩)
    · exact KC_of_K rfl (Nat.le_of_ble_eq_true rfl) rfl (k_10_fact_0 _ _ ⟨fun z => absurd z (ne 1 0 (by omega) (by omega) (by omega)), fun _ => ⟨hH, _, rfl, hF⟩, fun z => absurd z (ne 1 2 (by omega) (by omega) (by omega)), fun z => absurd z (ne 1 3 (by omega) (by omega) (by omega)), fun z => absurd z (ne 1 4 (by omega) (by omega) (by omega)), fun z => absurd z (ne 1 5 (by omega) (by omega) (by omega)), fun z => absurd (Or.inr (Or.inl rfl)) z⟩)
    · exact KC_of_K rfl (Nat.le_of_ble_eq_true rfl) rfl (k_10_fact_0 _ _ ⟨fun z => absurd z (ne 2 0 (by omega) (by omega) (by omega)), fun z => absurd z (ne 2 1 (by omega) (by omega) (by omega)), fun _ => ⟨hH, _, rfl, hF⟩, fun z => absurd z (ne 2 3 (by omega) (by omega) (by omega)), fun z => absurd z (ne 2 4 (by omega) (by omega) (by omega)), fun z => absurd z (ne 2 5 (by omega) (by omega) (by omega)), fun z => absurd (Or.inr (Or.inr (Or.inl rfl))) z⟩)
    · exact KC_of_K rfl (Nat.le_of_ble_eq_true rfl) rfl (k_10_fact_0 _ _ ⟨fun z => absurd z (ne 3 0 (by omega) (by omega) (by omega)), fun z => absurd z (ne 3 1 (by omega) (by omega) (by omega)), fun z => absurd z (ne 3 2 (by omega) (by omega) (by omega)), fun _ => ⟨hH, _, rfl, hF⟩, fun z => absurd z (ne 3 4 (by omega) (by omega) (by omega)), fun z => absurd z (ne 3 5 (by omega) (by omega) (by omega)), fun z => absurd (Or.inr (Or.inr (Or.inr (Or.inl rfl)))) z⟩)
    · exact KC_of_K rfl (Nat.le_of_ble_eq_true rfl) rfl (k_10_fact_0 _ _ ⟨fun z => absurd z (ne 4 0 (by omega) (by omega) (by omega)), fun z => absurd z (ne 4 1 (by omega) (by omega) (by omega)), fun z => absurd z (ne 4 2 (by omega) (by omega) (by omega)), fun z => absurd z (ne 4 3 (by omega) (by omega) (by omega)), fun _ => ⟨hH, _, rfl, hF⟩, fun z => absurd z (ne 4 5 (by omega) (by omega) (by omega)), fun z => absurd (Or.inr (Or.inr (Or.inr (Or.inr (Or.inl rfl))))) z⟩)
    · exact KC_of_K rfl (Nat.le_of_ble_eq_true rfl) rfl (k_10_fact_0 _ _ ⟨fun z => absurd z (ne 5 0 (by omega) (by omega) (by omega)), fun z => absurd z (ne 5 1 (by omega) (by omega) (by omega)), fun z => absurd z (ne 5 2 (by omega) (by omega) (by omega)), fun z => absurd z (ne 5 3 (by omega) (by omega) (by omega)), fun z => absurd z (ne 5 4 (by omega) (by omega) (by omega)), fun _ => ⟨hH, _, rfl, hF⟩, fun z => absurd (Or.inr (Or.inr (Or.inr (Or.inr (Or.inr rfl))))) z⟩)
    · exact KC_of_K rfl (Nat.le_of_ble_eq_true rfl) rfl (k_10_fact_0 _ _ ⟨fun z => absurd z (ne 6 0 (by omega) (by omega) (by omega)), fun z => absurd z (ne 6 1 (by omega) (by omega) (by omega)), fun z => absurd z (ne 6 2 (by omega) (by omega) (by omega)), fun z => absurd z (ne 6 3 (by omega) (by omega) (by omega)), fun z => absurd z (ne 6 4 (by omega) (by omega) (by omega)), fun z => absurd z (ne 6 5 (by omega) (by omega) (by omega)), fun _ => ⟨hH, _, rfl, hF⟩⟩)
  · have go : (nI m = 0 → F (aI σ 49 n) σ) → (nI m = 1 → F (aI σ 50 n) σ) → (nI m = 2 → F (aI σ 52 n) σ) → (nI m = 3 → F (aI σ 53 n) σ) → (nI m = 4 → F (nI (fr n).length) σ) → (nI m = 5 → F (aI σ 54 n) σ) → (¬ (nI m = 0 ∨ nI m = 1 ∨ nI m = 2 ∨ nI m = 3 ∨ nI m = 4 ∨ nI m = 5) → F (aI σ 55 n) σ) → AC X 92 1 MX13_tellsOf [vR 92, vI (nI n), vI (nI m)] σ (aRI F) := fun f0 f1 f2 f3 f4 f5 f6 => by
      refine AC_of_A rfl (Nat.le_of_ble_eq_true rfl) rfl (a_tellsOf_0 _ _ ?_)
      rw [cl_nI (by omega)]
      exact ⟨fun z => ⟨vj, _, rfl, f0 z⟩, fun z => ⟨vj, _, rfl, f1 z⟩, fun z => ⟨vj, _, rfl, f2 z⟩, fun z => ⟨vj, _, rfl, f3 z⟩, fun z => ⟨0, by omega, d3 _ ⟨_, rfl, f4 z⟩⟩, fun z => ⟨vj, _, rfl, f5 z⟩, fun z => ⟨vj, _, rfl, f6 z⟩⟩
    have nz : ∀ c : Nat, c ≤ 6 → nI m = nI c → m = c := fun c hc e => (nI_eq (by omega) (by omega)).mp e
    refine go (fun e => ?_) (fun e => ?_) (fun e => ?_) (fun e => ?_) (fun e => ?_) (fun e => ?_) (fun e => ?_)
    · have := nz 0 (by omega) e
      subst this
      rw [v2b, ← v2]; exact hF
    · have := nz 1 (by omega) e
      subst this
      rw [c3, ← c2]; exact hF
    · have := nz 2 (by omega) e
      subst this
      rw [← v7]; exact hF
    · have := nz 3 (by omega) e
      subst this
      rw [← v8]; exact hF
    · have := nz 4 (by omega) e
      subst this
      rw [← d1]; exact hF
    · have := nz 5 (by omega) e
      subst this
      rw [← r1]; exact hF
    · have h6 : m = 6 := by
        rcases h7 with rfl | rfl | rfl | rfl | rfl | rfl | rfl
        · exact absurd (Or.inl rfl) e
        · exact absurd (Or.inr (Or.inl rfl)) e
        · exact absurd (Or.inr (Or.inr (Or.inl rfl))) e
        · exact absurd (Or.inr (Or.inr (Or.inr (Or.inl rfl)))) e
        · exact absurd (Or.inr (Or.inr (Or.inr (Or.inr (Or.inl rfl))))) e
        · exact absurd (Or.inr (Or.inr (Or.inr (Or.inr (Or.inr rfl))))) e
        · rfl
      subst h6
      rw [m3, ← m2]; exact hF
theorem told_ok (h : Rr k κ σ) : P2I X MX11_told MX13_told [vI x0, vI x1] κ σ (Rr (k + 1)) := by
  refine ⟨10, 10, by decide, by decide, ?_⟩
  rcases h.cases with ⟨p, hR⟩ | ⟨κ0, σ0, b, V, al, S, LT, HT, sp, F0, z, st, fr, pt, w, p0, p, dk, hb, hR⟩
  · exact KC_of_K rfl (Nat.le_of_ble_eq_true rfl) rfl (k_11_told_0 _ _ ⟨fun _ => ⟨_, rfl, AC_of_A rfl (Nat.le_of_ble_eq_true rfl) rfl (a_told_0 _ _ ⟨fun _ => ⟨_, rfl, rfl, hR⟩, fun z => absurd p.2.2.2.2 z⟩)⟩, fun z => absurd p.2.2.2.1 z⟩)
  · obtain ⟨-, -, -, h5, h46⟩ := p
    have hV60 : V ≤ 60 := dk.stg.2.2.2.2.2.2.2.1
    have bad : (∀ n, 1 ≤ n → n ≤ V → x0 = nI n → ∀ j, j ≤ 6 → x1 ≠ nI j) → AC X 92 10 MX13_told [vR 92, vI x0, vI x1] σ (aRI fun y' σ' => (-1 : Int32) = y' ∧ Rr (k + 1) κ σ') := fun hb => AC_of_A rfl (Nat.le_of_ble_eq_true rfl) rfl (a_told_0 _ _ ⟨fun z => absurd (h46.symm.trans z) (by decide), fun _ => ⟨1, by omega, ac_vc dk (fun n n1 n2 e => ⟨fun z => absurd z (by decide), fun _ => ⟨0, by omega, ac_inN (m := 6) rfl (by omega) (fun j hj e2 => (hb n n1 n2 e j hj e2).elim) (fun _ => ⟨fun _ => a_told_28 _ _ (a_told_38 _ _ _ ⟨_, rfl, rfl, hR⟩), fun z => absurd rfl z⟩)⟩⟩) (fun _ => ⟨fun _ => a_told_28 _ _ (a_told_38 _ _ _ ⟨_, rfl, rfl, hR⟩), fun z => absurd rfl z⟩)⟩⟩)
    refine KC_of_K rfl (Nat.le_of_ble_eq_true rfl) rfl (k_11_told_0 _ _ ⟨fun z => absurd (h5.symm.trans z) (by decide), fun _ => ⟨0, by omega, kc_vc dk (fun n n1 n2 e => ?_) (fun hz => ⟨Or.inl rfl, fun _ => k_11_told_33 _ _ _ (k_11_told_42 _ _ _ _ ⟨_, rfl, bad (fun n n1 n2 e => (vno_no hV60 hz n n1 n2 e).elim)⟩), fun z => absurd rfl z⟩)⟩⟩)
    subst e
    have hH := (dk.vst n n1 n2).1
    have out : (∀ j, j ≤ 6 → x1 ≠ nI j) → K X 10 MX11_told 33 [(0, vR 64), (1, vI (nI n)), (2, vI x1), (3, vR (1002 + 8 * n))] [] κ (kRI fun y κ' => AC X 92 10 MX13_told [vR 92, vI (nI n), vI x1] σ (aRI fun y' σ' => y = y' ∧ Rr (k + 1) κ' σ')) := fun hj => k_11_told_33 _ _ _ (k_11_told_42 _ _ _ _ ⟨_, rfl, bad (fun _ _ _ _ => hj)⟩)
    refine ⟨Or.inr hH.1, fun z => absurd z (by omega), fun _ => ⟨fun c => out (fun j hj e => nI_pos (by omega) (e ▸ c)), fun c => ?_⟩⟩
    obtain ⟨j, hj, rfl⟩ := nI_of c
    rw [show ((6 : Int32)) = nI 6 from rfl, le_nI hj (by omega)]
    refine ⟨fun c6 => ⟨hH, 0, by omega, ?_⟩, fun c6 => out (fun i hi e => by rw [eq_nI hj (by omega)] at e; omega)⟩
    obtain ⟨y, g1, g2⟩ := dk.fact (X := X) (m := j) ⟨n1, n2⟩ c6
    refine g1 _ (k_11_told_42 _ _ _ _ ⟨_, rfl, AC_of_A rfl (Nat.le_of_ble_eq_true rfl) rfl (a_told_0 _ _ ⟨fun z => absurd (h46.symm.trans z) (by decide), fun _ => ⟨1, by omega, ac_vc dk (fun n' _ _ _ => ⟨fun z => absurd z (by decide), fun _ => ⟨0, by omega, ac_inN (m := 6) rfl (by omega) (fun j' _ _ => ⟨fun z => absurd z (by decide), fun _ => ⟨1, by omega, g2 _ (a_told_38 _ _ _ ⟨_, rfl, rfl, hR⟩)⟩⟩) (fun hz => (hz j c6 rfl).elim)⟩⟩) (fun hz => (vno_no hV60 hz n n1 n2 rfl).elim)⟩⟩)⟩)
end LINES
