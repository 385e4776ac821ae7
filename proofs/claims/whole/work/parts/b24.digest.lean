/-! digest, of both -/
section DIGEST
variable {X : Cx} {d e : Nat} {κ0 κ κ1 κ' : Km} {σ0 σ σ1 σ' : Rm} {b V al S T sp z LT HT F0 n k s m p hh : Nat} {st : Nat → Nat} {fr : Nat → List Frm} {pt : Nat → Nat} {w : Nat → Nat} {x x0 x1 x2 x3 y hi : Int32} {g : Nat → Int32} {h0 h l1 : Int64}
/-- numbers mixed in, one behind another -/
def mxs (g : Nat → Int32) : Nat → Int64 → Int64
  | 0, h => h
  | n + 1, h => 31 * mxs g n h + (g n).toInt64
theorem kc_pmix {F : Int64 → Km → Prop} (h80 : hh = 80 ∨ hh = 82) (pc : PrC κ hh T g) (q : F (mxs g (2 * min T 300) h0) κ) : KC' X 0 MX4_mixInto [vR hh, vL h0] κ (kRJ F) := by
  obtain ⟨c1, c2, c3, c4, c5, c6⟩ := pc
  have hH : isH κ hh 4 := by
    rcases h80 with rfl | rfl
    · exact fixH 80 4 (by decide) rfl
    · exact fixH 82 4 (by decide) rfl
  have hH1 : isH κ (hh + 1) 21 := by
    rcases h80 with rfl | rfl
    · exact fixH 81 21 (by decide) rfl
    · exact fixH 83 21 (by decide) rfl
  have loop : ∀ r i, i + r = 2 * min T 300 → K X 0 MX4_mixInto 5 [(0, vR hh), (1, vL h0), (3, vL (mxs g i h0)), (5, vI (nI i))] [] κ (kRJ F) := by
    intro r
    induction r with
    | zero =>
      intro i hi
      have e : i = 2 * min T 300 := hi
      subst e
      refine k_4_mixInto_5 _ _ _ _ ⟨hH, ?_⟩
      rw [c2, litI 2, pk_mul, le_nI (by omega) (by omega)]
      exact ⟨fun _ => k_4_mixInto_47 _ _ _ _ ⟨_, rfl, q⟩, fun z => absurd (Nat.le_refl _) z⟩
    | succ r ih =>
      intro i hi
      refine k_4_mixInto_5 _ _ _ _ ⟨hH, ?_⟩
      rw [c2, litI 2, pk_mul, le_nI (by omega) (by omega), le_nI (by omega) (by omega), vpn (by omega), cl_nI (by omega), c3 i (by omega), nI_1]
      exact ⟨fun z => by omega, fun _ => ⟨h80, hH1, fun z => by omega, fun _ => ⟨by omega, ih (i + 1) (by omega)⟩⟩⟩
  exact KC_of_K rfl (Nat.le_of_ble_eq_true rfl) rfl (k_4_mixInto_0 _ _ (loop (2 * min T 300) 0 (by omega)))
theorem ac_lmix {Q : Res → Rm → Prop} (pr : PRr σ 80 81 82 T g) (hT : T < 2147483648) (q : ∀ x, A X 92 d MX13_digest 190 [(0, vR 92), (1, vL (mxs g (2 * min T 300) h0)), (3, vI x)] [] σ Q) : A X 92 d MX13_digest 143 [(0, vR 92), (1, vL h0), (3, vI 0)] [] σ Q := by
  obtain ⟨p1, p2⟩ := pr
  have loop : ∀ r i, i + r = min T 300 → A X 92 d MX13_digest 143 [(0, vR 92), (1, vL (mxs g (2 * i) h0)), (3, vI (nI i))] [] σ Q := by
    intro r
    induction r with
    | zero =>
      intro i hi
      have e : i = min T 300 := hi
      refine a_digest_143 _ _ ?_
      rw [p1, show ((300 : Int32)) = nI 300 from rfl, le_nI (by omega) (by omega), le_nI (by omega) (by omega)]
      have q' := q (nI i)
      rw [← e] at q'
      exact ⟨fun _ => q', fun z => ⟨fun _ => q', fun z2 => by omega⟩⟩
    | succ r ih =>
      intro i hi
      refine a_digest_143 _ _ ?_
      obtain ⟨q1, q2⟩ := p2 i (by omega)
      rw [p1, show ((300 : Int32)) = nI 300 from rfl, le_nI (by omega) (by omega), le_nI (by omega) (by omega), vpn (by omega), cl_nI (by omega), q1, q2, nI_1]
      have i2 := ih (i + 1) (by omega)
      have e : mxs g (2 * (i + 1)) h0 = 31 * (31 * mxs g (2 * i) h0 + (g (2 * i)).toInt64) + (g (2 * i + 1)).toInt64 := rfl
      rw [e] at i2
      exact ⟨fun z => by omega, fun _ => ⟨fun z => by omega, fun _ => ⟨by omega, by omega, i2⟩⟩⟩
  exact loop (min T 300) 0 (by omega)
theorem ac_hmix {Q : Res → Rm → Prop} (pr : PRr σ 83 84 85 T g) (hT : T < 2147483648) (q : ∀ x, A X 92 d MX13_digest 239 [(0, vR 92), (1, vL (mxs g (2 * min T 300) h0)), (3, vI x)] [] σ Q) : A X 92 d MX13_digest 192 [(0, vR 92), (1, vL h0), (3, vI 0)] [] σ Q := by
  obtain ⟨p1, p2⟩ := pr
  have loop : ∀ r i, i + r = min T 300 → A X 92 d MX13_digest 192 [(0, vR 92), (1, vL (mxs g (2 * i) h0)), (3, vI (nI i))] [] σ Q := by
    intro r
    induction r with
    | zero =>
      intro i hi
      have e : i = min T 300 := hi
      refine a_digest_192 _ _ ?_
      rw [p1, show ((300 : Int32)) = nI 300 from rfl, le_nI (by omega) (by omega), le_nI (by omega) (by omega)]
      have q' := q (nI i)
      rw [← e] at q'
      exact ⟨fun _ => q', fun z => ⟨fun _ => q', fun z2 => by omega⟩⟩
    | succ r ih =>
      intro i hi
      refine a_digest_192 _ _ ?_
      obtain ⟨q1, q2⟩ := p2 i (by omega)
      rw [p1, show ((300 : Int32)) = nI 300 from rfl, le_nI (by omega) (by omega), le_nI (by omega) (by omega), vpn (by omega), cl_nI (by omega), q1, q2, nI_1]
      have i2 := ih (i + 1) (by omega)
      have e : mxs g (2 * (i + 1)) h0 = 31 * (31 * mxs g (2 * i) h0 + (g (2 * i)).toInt64) + (g (2 * i + 1)).toInt64 := rfl
      rw [e] at i2
      exact ⟨fun z => by omega, fun _ => ⟨fun z => by omega, fun _ => ⟨by omega, by omega, i2⟩⟩⟩
  exact loop (min T 300) 0 (by omega)
/-- the facts of a voice -/
theorem Desk.mixF (dk : Desk κ0 σ0 κ σ b V al S LT HT sp F0 z st fr pt w) (hn : 1 ≤ n ∧ n ≤ V) : ∀ r m h, m + r = 7 → ∃ h' : Int64, (∀ (Q : Res → Km → Prop) (l1 : Int64), K X 2 MX10_mixInto 41 [(0, vR (1002 + 8 * n)), (1, vL l1), (3, vL h'), (5, vI (kI κ (1002 + 8 * n) 14)), (6, vI 0)] [] κ Q → K X 2 MX10_mixInto 5 [(0, vR (1002 + 8 * n)), (1, vL l1), (3, vL h), (5, vI (nI m))] [] κ Q) ∧ ∀ Q : Res → Rm → Prop, A X 92 10 MX13_digest 63 [(0, vR 92), (1, vL h'), (3, vI (nI n)), (4, vI (nI (fr n).length - 1))] [] σ Q → A X 92 10 MX13_digest 26 [(0, vR 92), (1, vL h), (3, vI (nI n)), (4, vI (nI m))] [] σ Q := by
  have hH := (dk.vst n hn.1 hn.2).1
  obtain ⟨d1, d2, d3⟩ := dk.many (X := X) hn
  intro r
  induction r with
  | zero =>
    intro m h hm
    have e : m = 7 := hm
    subst e
    refine ⟨h, fun Q l1 hQ => k_10_mixInto_5 _ _ _ _ ⟨fun _ => ⟨hH, hQ⟩, fun z => absurd (by decide) z⟩, fun Q hQ => a_digest_26 _ _ _ ⟨fun _ => ⟨0, by omega, d3 _ hQ⟩, fun z => absurd (by decide) z⟩⟩
  | succ r ih =>
    intro m h hm
    obtain ⟨y, y1, y2⟩ := dk.fact (X := X) hn (m := m) (by omega)
    obtain ⟨h', i1, i2⟩ := ih (m + 1) (31 * h + y.toInt64) (by omega)
    refine ⟨h', fun Q l1 hQ => k_10_mixInto_5 _ _ _ _ ?_, fun Q hQ => a_digest_26 _ _ _ ?_⟩
    · rw [show ((6 : Int32)) = nI 6 from rfl, lt_nI (by omega) (by omega), nI_1]
      exact ⟨fun z => by omega, fun _ => ⟨hH, 0, by omega, y1 _ (i1 Q l1 hQ)⟩⟩
    · rw [show ((6 : Int32)) = nI 6 from rfl, lt_nI (by omega) (by omega), nI_1]
      exact ⟨fun z => by omega, fun _ => ⟨1, by omega, y2 _ (i2 Q hQ)⟩⟩
theorem sub_add1 {r : Nat} : nI r + (-1) = nI r - 1 := (Int32.sub_eq_add_neg (nI r) 1).symm
/-- the calls of a voice -/
theorem Desk.mixC (dk : Desk κ0 σ0 κ σ b V al S LT HT sp F0 z st fr pt w) (hn : 1 ≤ n ∧ n ≤ V) (h : Int64) : ∃ h' : Int64, (∀ (F : Int64 → Km → Prop) (l1 : Int64), F h' κ → K X 2 MX10_mixInto 41 [(0, vR (1002 + 8 * n)), (1, vL l1), (3, vL h), (5, vI (kI κ (1002 + 8 * n) 14)), (6, vI 0)] [] κ (kRJ F)) ∧ ∀ Q : Res → Rm → Prop, A X 92 10 MX13_digest 15 [(0, vR 92), (1, vL h'), (3, vI (nI (n + 1)))] [] σ Q → A X 92 10 MX13_digest 63 [(0, vR 92), (1, vL h), (3, vI (nI n)), (4, vI (nI (fr n).length - 1))] [] σ Q := by
  have hH := (dk.vst n hn.1 hn.2).1
  have hV60 : V ≤ 60 := dk.stg.2.2.2.2.2.2.2.1
  obtain ⟨d1, d2, d3⟩ := dk.many (X := X) hn
  by_cases hne : fr n = []
  · rw [hne] at d1
    refine ⟨h, fun F l1 hF => k_10_mixInto_41 _ _ _ _ _ ⟨hH, ?_⟩, fun Q hQ => a_digest_63 _ _ _ ?_⟩
    · rw [d1]
      exact ⟨fun _ => ⟨_, rfl, hF⟩, fun z => absurd (by decide) z⟩
    · rw [hne, nI_1]
      exact ⟨fun _ => hQ, fun z => absurd (by decide) z⟩
  · obtain ⟨B, b1, ⟨b2, b3, b4, b5⟩, fb⟩ := dk.frames (X := X) hn hne
    have calls : ∀ r j h, j + r = (fr n).length → ∃ h' : Int64, (∀ (F : Int64 → Km → Prop) (l1 : Int64), F h' κ → K X 2 MX10_mixInto 41 [(0, vR (1002 + 8 * n)), (1, vL l1), (3, vL h), (5, vI (nI (B j))), (6, vI (nI j))] [] κ (kRJ F)) ∧ ∀ Q : Res → Rm → Prop, A X 92 10 MX13_digest 15 [(0, vR 92), (1, vL h'), (3, vI (nI (n + 1)))] [] σ Q → A X 92 10 MX13_digest 63 [(0, vR 92), (1, vL h), (3, vI (nI n)), (4, vI (nI r - 1))] [] σ Q := by
      intro r
      induction r with
      | zero =>
        intro j h hj
        refine ⟨h, fun F l1 hF => k_10_mixInto_41 _ _ _ _ _ ⟨hH, ?_⟩, fun Q hQ => a_digest_63 _ _ _ ?_⟩
        · rw [d1, le_nI (by omega) (by omega)]
          exact ⟨fun _ => ⟨_, rfl, hF⟩, fun z => absurd (by omega) z⟩
        · rw [nI_1]
          exact ⟨fun _ => hQ, fun z => absurd (by decide) z⟩
      | succ r ih =>
        intro j h hj
        obtain ⟨g1, f, ⟨f1, f2, f3⟩, ⟨g2, g3, g4⟩, g5, g6⟩ := fb j (by omega)
        rw [show (fr n).length - 1 - j = r by omega] at g5 g6
        have vars : ∀ q i h, i + q = frN f → ∃ h' : Int64, (∀ (Q : Res → Km → Prop) (l1 : Int64), K X 2 MX10_mixInto 41 [(0, vR (1002 + 8 * n)), (1, vL l1), (3, vL h'), (5, vI (nI (B (j + 1)))), (6, vI (nI (j + 1)))] [] κ Q → K X 2 MX10_mixInto 53 [(0, vR (1002 + 8 * n)), (1, vL l1), (3, vL h), (5, vI (nI (B j))), (6, vI (nI j)), (7, vI (nI i))] [] κ Q) ∧ ∀ Q : Res → Rm → Prop, A X 92 10 MX13_digest 63 [(0, vR 92), (1, vL h'), (3, vI (nI n)), (4, vI (nI r - 1))] [] σ Q → A X 92 10 MX13_digest 85 [(0, vR 92), (1, vL h), (3, vI (nI n)), (4, vI (nI r)), (5, vI (nI (60 * pt n + r))), (6, vI (nI i))] [] σ Q := by
          intro q
          induction q with
          | zero =>
            intro i h hi
            have ei : i = frN f := hi
            refine ⟨h, fun Q l1 hQ => k_10_mixInto_53 _ _ _ _ _ _ ⟨hH, 0, by omega, g2 _ ?_⟩, fun Q hQ => a_digest_85 _ _ _ _ _ ?_⟩
            · rw [le_nI (by omega) (by omega), litI 2, nI_add, nI_1]
              exact ⟨fun _ => ⟨0, by omega, g3 _ hQ⟩, fun z => absurd (by omega) z⟩
            · rw [vpn (a := 60 * pt n + r) (by omega), cl_nI (n := 60 * pt n + r) (by omega), g5, vpn (a := frB f) (by omega), cl_nI (n := frB f) (by omega), f3, le_nI (by omega) (by omega), sub_add1]
              exact ⟨by omega, by omega, fun _ => hQ, fun z => absurd (by omega) z⟩
          | succ q ihq =>
            intro i h hi
            obtain ⟨h', i1, i2⟩ := ihq (i + 1) (31 * h + (frV f i).toInt64) (by omega)
            refine ⟨h', fun Q l1 hQ => k_10_mixInto_53 _ _ _ _ _ _ ⟨hH, 0, by omega, g2 _ ?_⟩, fun Q hQ => a_digest_85 _ _ _ _ _ ?_⟩
            · rw [le_nI (by omega) (by omega)]
              refine ⟨fun z => by omega, fun _ => ⟨1, by omega, KC_of_K rfl (Nat.le_of_ble_eq_true rfl) rfl (k_10_variable_0 _ _ _ ⟨hH, 0, by omega, ?_⟩)⟩⟩
              rw [litI 4, nI_add, nI_add]
              refine g4 i (by omega) _ ⟨_, rfl, ?_⟩
              rw [nI_1]
              exact i1 Q l1 hQ
            · have e40 : (40 : Int32) * nI (60 * pt n + r) + nI i = nI (40 * (60 * pt n + r) + i) := by rw [litI 40, pk_mul, nI_add]
              rw [vpn (a := 60 * pt n + r) (by omega), cl_nI (n := 60 * pt n + r) (by omega), g5, vpn (a := frB f) (by omega), cl_nI (n := frB f) (by omega), f3, le_nI (by omega) (by omega), e40, vpn (a := 40 * (60 * pt n + r) + i) (by omega), cl_nI (n := 40 * (60 * pt n + r) + i) (by omega), g6 i (by omega), nI_1]
              exact ⟨by omega, by omega, fun z => by omega, fun _ => ⟨by omega, i2 Q hQ⟩⟩
        obtain ⟨h1, v1, v2⟩ := vars (frN f) 0 h (by omega)
        obtain ⟨h', i1, i2⟩ := ih (j + 1) h1 (by omega)
        refine ⟨h', fun F l1 hF => k_10_mixInto_41 _ _ _ _ _ ⟨hH, ?_⟩, fun Q hQ => a_digest_63 _ _ _ ?_⟩
        · rw [d1, le_nI (by omega) (by omega)]
          exact ⟨fun z => by omega, fun _ => v1 _ l1 (i1 F l1 hF)⟩
        · rw [litI 1, nI_sb (by omega), Nat.add_sub_cancel, nI_add, litI 0, lt_nI (by omega) (by omega), vpn (by omega), cl_nI (by omega), b3, litI 60, pk_mul, nI_add]
          exact ⟨fun z => by omega, fun _ => ⟨by omega, v2 Q (i2 Q hQ)⟩⟩
    obtain ⟨h', i1, i2⟩ := calls (fr n).length 0 h (by omega)
    rw [b1]
    exact ⟨h', i1, i2⟩
theorem Desk.mixV (dk : Desk κ0 σ0 κ σ b V al S LT HT sp F0 z st fr pt w) : ∀ r v h, v + r = V + 1 → 1 ≤ v → ∃ h' : Int64, (∀ Q : Res → Km → Prop, K X 10 MX11_digest 15 [(0, vR 64), (1, vL h'), (3, vI (nI (V + 1)))] [] κ Q → K X 10 MX11_digest 15 [(0, vR 64), (1, vL h), (3, vI (nI v))] [] κ Q) ∧ ∀ Q : Res → Rm → Prop, A X 92 10 MX13_digest 15 [(0, vR 92), (1, vL h'), (3, vI (nI (V + 1)))] [] σ Q → A X 92 10 MX13_digest 15 [(0, vR 92), (1, vL h), (3, vI (nI v))] [] σ Q := by
  have hV60 : V ≤ 60 := dk.stg.2.2.2.2.2.2.2.1
  have s1 := dk.stg.1
  intro r
  induction r with
  | zero =>
    intro v h hv _
    have e : v = V + 1 := hv
    subst e
    exact ⟨h, fun Q q => q, fun Q q => q⟩
  | succ r ih =>
    intro v h hv h1
    have hn : 1 ≤ v ∧ v ≤ V := ⟨h1, by omega⟩
    have hH := (dk.vst v hn.1 hn.2).1
    obtain ⟨ha, a1, a2⟩ := dk.mixF (X := X) hn 7 0 h rfl
    obtain ⟨hc, c1, c2⟩ := dk.mixC (X := X) hn ha
    obtain ⟨h', i1, i2⟩ := ih (v + 1) hc (by omega) (by omega)
    refine ⟨h', fun Q hQ => k_11_digest_15 _ _ ⟨0, by omega, KC_of_K rfl (Nat.le_of_ble_eq_true rfl) rfl (k_6_made_0 ⟨_, rfl, ?_⟩)⟩, fun Q hQ => a_digest_15 _ _ ?_⟩
    · dsimp only
      rw [s1.1, lt_nI (by omega) (by omega)]
      refine ⟨fun z => by omega, fun _ => ⟨0, by omega, kc_vc dk (fun m m1 m2 e => ?_) (fun hz => (vno_no hV60 hz v hn.1 hn.2 rfl).elim)⟩⟩
      have e2 : v = m := by rw [eq_nI (by omega) (by omega)] at e; exact e
      subst e2
      refine ⟨Or.inr hH.1, fun z => absurd z (by omega), fun _ => ⟨hH, 2, by omega, KC_of_K rfl (Nat.le_of_ble_eq_true rfl) rfl (k_10_mixInto_0 _ _ (a1 _ _ (c1 _ _ (k_11_digest_51 _ _ _ _ ?_))))⟩⟩
      rw [nI_1]
      exact i1 Q hQ
    · rw [s1.2, lt_nI (by omega) (by omega)]
      exact ⟨fun z => by omega, fun _ => a2 Q (c2 Q (i2 Q hQ))⟩
theorem digest_ok (h : Rr k κ σ) : P2J X MX11_digest MX13_digest [] κ σ (Rr (k + 1)) := by
  refine ⟨10, 10, by decide, by decide, ?_⟩
  rcases h.cases with ⟨p, hR⟩ | ⟨κ0, σ0, b, V, al, S, LT, HT, sp, F0, z, st, fr, pt, w, p0, p, dk, hb, hR⟩
  · exact KC_of_K rfl (Nat.le_of_ble_eq_true rfl) rfl (k_11_digest_0 ⟨fun _ => ⟨_, rfl, AC_of_A rfl (Nat.le_of_ble_eq_true rfl) rfl (a_digest_0 ⟨fun _ => ⟨_, rfl, rfl, hR⟩, fun z => absurd p.2.2.2.2 z⟩)⟩, fun z => absurd p.2.2.2.1 z⟩)
  · obtain ⟨-, -, -, h5, h46⟩ := p
    have hV60 : V ≤ 60 := dk.stg.2.2.2.2.2.2.2.1
    have s1 := dk.stg.1
    have s3 := dk.stg.2.2.1
    have hT := dk.lth
    obtain ⟨⟨g1, p1, p2⟩, ⟨g2, p3, p4⟩, -⟩ := (dk.bn (x := 0)).1.2.2.2.2.1
    obtain ⟨h', i1, i2⟩ := dk.mixV (X := X) V 1 17 (by omega) (Nat.le_refl _)
    refine KC_of_K rfl (Nat.le_of_ble_eq_true rfl) rfl (k_11_digest_0 ⟨fun z => absurd (h5.symm.trans z) (by decide), fun _ => i1 _ (k_11_digest_15 _ _ ⟨0, by omega, KC_of_K rfl (Nat.le_of_ble_eq_true rfl) rfl (k_6_made_0 ⟨_, rfl, ?_⟩)⟩)⟩)
    dsimp only
    rw [s1.1, lt_nI (by omega) (by omega)]
    refine ⟨fun _ => ⟨0, by omega, kc_pmix (Or.inl rfl) p1 ⟨0, by omega, kc_pmix (Or.inr rfl) p3 ⟨0, by omega, KC_of_K rfl (Nat.le_of_ble_eq_true rfl) rfl (k_6_steps_0 ⟨_, rfl, _, rfl, ?_⟩)⟩⟩⟩, fun z => absurd (by omega) z⟩
    refine AC_of_A rfl (Nat.le_of_ble_eq_true rfl) rfl (a_digest_0 ⟨fun z => absurd (h46.symm.trans z) (by decide), fun _ => i2 _ (a_digest_15 _ _ ?_)⟩)
    rw [s1.2, lt_nI (by omega) (by omega)]
    refine ⟨fun _ => ac_lmix p2 hT.1 (fun x => a_digest_190 _ _ (ac_hmix p4 hT.2 (fun x => a_digest_239 _ _ ⟨_, rfl, ?_, hR⟩))), fun z => absurd (by omega) z⟩
    rw [s3.1, s3.2]
end DIGEST
