/-! A CALL OF BOTH: what is silent; voice -/
section VOICES
variable {X : Cx} {d e : Nat} {κ0 κ κ1 κ' : Km} {σ0 σ σ1 σ' : Rm} {b V al S T sp z LT HT F0 n g k s m sc : Nat} {st : Nat → Nat} {fr : Nat → List Frm} {pt : Nat → Nat} {w : Nat → Nat} {x x0 x1 x2 y hi : Int32}
theorem kc_plays0 {F : Int32 → Km → Prop} (h5 : kI κ 64 5 = 0) (q : F 0 κ) : KC' X 1 MX11_plays [vR 64] κ (kRI F) :=
  KC_of_K rfl (Nat.le_of_ble_eq_true rfl) rfl (k_11_plays_0 ⟨fun _ => k_11_plays_21 (k_11_plays_22 _ ⟨Or.inl rfl, _, rfl, q⟩), fun z => absurd h5 z⟩)
theorem kc_isSpent {F : Int32 → Km → Prop} (h17 : kI κ 79 17 = nI z) (hz : z ≤ 1) (q : F (nI z) κ) : KC' X 0 MX6_isSpent [vR 79] κ (kRI F) := by
  refine KC_of_K rfl (Nat.le_of_ble_eq_true rfl) rfl (k_6_isSpent_0 ?_)
  rw [h17]
  refine ⟨?_, _, rfl, q⟩
  have : z = 0 ∨ z = 1 := by omega
  rcases this with rfl | rfl
  · exact Or.inl rfl
  · exact Or.inr rfl
theorem kc_plays1 {F : Int32 → Km → Prop} (h5 : kI κ 64 5 = 1) (h17 : kI κ 79 17 = nI z) (hz : z ≤ 1) (q0 : z = 0 → F 1 κ) (q1 : z = 1 → F 0 κ) : KC' X 1 MX11_plays [vR 64] κ (kRI F) := by
  refine KC_of_K rfl (Nat.le_of_ble_eq_true rfl) rfl (k_11_plays_0 ⟨fun y => absurd (h5.symm.trans y) (by decide), fun _ => ⟨0, by omega, kc_isSpent h17 hz ?_⟩⟩)
  have : z = 0 ∨ z = 1 := by omega
  rcases this with rfl | rfl
  · exact ⟨fun _ => k_11_plays_22 _ ⟨Or.inr rfl, _, rfl, q0 rfl⟩, fun y => absurd rfl y⟩
  · exact ⟨fun y => absurd y (by decide), fun _ => k_11_plays_21 (k_11_plays_22 _ ⟨Or.inl rfl, _, rfl, q1 rfl⟩)⟩
theorem ac_silent0 {F : Int32 → Rm → Prop} (h46 : sI σ 46 = 0) (q : F 1 σ) : AC X 92 0 MX13_isSilent [vR 92] σ (aRI F) :=
  AC_of_A rfl (Nat.le_of_ble_eq_true rfl) rfl (a_isSilent_0 ⟨fun _ => a_isSilent_14 (a_isSilent_19 _ ⟨Or.inr rfl, _, rfl, q⟩), fun z => absurd h46 z⟩)
theorem ac_silent1 {F : Int32 → Rm → Prop} (h46 : sI σ 46 = 1) (h76 : sI σ 76 = nI z) (hz : z ≤ 1) (q0 : z = 0 → F 0 σ) (q1 : z = 1 → F 1 σ) : AC X 92 0 MX13_isSilent [vR 92] σ (aRI F) := by
  refine AC_of_A rfl (Nat.le_of_ble_eq_true rfl) rfl (a_isSilent_0 ⟨fun y => absurd (h46.symm.trans y) (by decide), fun _ => ?_⟩)
  rw [h76]
  have : z = 0 ∨ z = 1 := by omega
  rcases this with rfl | rfl
  · exact ⟨fun _ => a_isSilent_19 _ ⟨Or.inl rfl, _, rfl, q0 rfl⟩, fun y => absurd rfl y⟩
  · exact ⟨fun y => absurd y (by decide), fun _ => a_isSilent_14 (a_isSilent_19 _ ⟨Or.inr rfl, _, rfl, q1 rfl⟩)⟩
/-- both are unread, or both have a story -/
theorem Rr.cases (h : Rr k κ σ) : (Pe κ σ 0 ∧ Rr (k + 1) κ σ) ∨ ∃ κ0 σ0 b V al S LT HT sp F0 z st fr pt w, Pe κ0 σ0 1 ∧ Pe κ σ 1 ∧ Desk κ0 σ0 κ σ b V al S LT HT sp F0 z st fr pt w ∧ HT + 2 * pot V S st fr ≤ 385300000 + 100 * k ∧ Rr (k + 1) κ σ := by
  have h' := h.up (Nat.le_succ k)
  rcases h with ⟨p, -⟩ | ⟨κ0, σ0, b, V, al, S, LT, HT, sp, F0, z, st, fr, pt, w, p, dk, hb⟩
  · exact Or.inl ⟨p, h'⟩
  · exact Or.inr ⟨κ0, σ0, b, V, al, S, LT, HT, sp, F0, z, st, fr, pt, w, p, dk.pe p, dk, hb, h'⟩
/-- a number within, or not -/
theorem ac_inN {F : Int32 → Rm → Prop} (e : hi = nI m) (hm : m < 2147483648) (q1 : ∀ j, j ≤ m → x = nI j → F 1 σ) (q0 : (∀ j, j ≤ m → x ≠ nI j) → F 0 σ) : AC X 92 0 MX13_in [vI x, vI 0, vI hi] σ (aRI F) := by
  refine ac_in _ _ _ ?_
  by_cases c : x < 0
  · rw [if_neg (fun z => z.1 c)]
    exact q0 (fun j hj z => nI_pos (by omega) (z ▸ c))
  · obtain ⟨j, hj, rfl⟩ := nI_of c
    rw [e]
    by_cases c2 : nI m < nI j
    · rw [if_neg (fun z => z.2 c2)]
      rw [lt_nI (by omega) hj] at c2
      exact q0 (fun i hi z => by rw [eq_nI (by omega) (by omega)] at z; omega)
    · rw [if_pos ⟨c, c2⟩]
      rw [lt_nI (by omega) hj] at c2
      exact q1 j (by omega) rfl
theorem kc_satX {F : Nat → Km → Prop} (hn : kI κ 67 2 = nI b) (h12 : b ≤ 12) (hB : b ≤ kB κ) (q1 : ∀ j, j < b → x = nI j → F (1000 + 8 * j) κ) (q0 : (∀ j, j < b → x ≠ nI j) → F 0 κ) : KC' X 0 MX7_at [vR 67, vI x] κ (kRR F) := by
  by_cases c : ∃ j, j < b ∧ x = nI j
  · obtain ⟨j, hj, rfl⟩ := c
    exact kc_sat hn h12 hj hB (q1 j hj rfl)
  · have c' : ∀ j, j < b → x ≠ nI j := fun j hj z => c ⟨j, hj, z⟩
    refine KC_of_K rfl (Nat.le_of_ble_eq_true rfl) rfl (k_7_at_0 _ ⟨fun _ => k_7_at_18 _ (k_7_at_28 _ _ ⟨_, rfl, q0 c'⟩), fun c0 => ?_⟩)
    obtain ⟨j, hj, rfl⟩ := nI_of c0
    rw [hn, le_nI (by omega) hj]
    refine ⟨fun _ => k_7_at_18 _ (k_7_at_28 _ _ ⟨_, rfl, q0 c'⟩), fun z => absurd rfl (c' j (by omega))⟩
/-- what is told of a body, in both -/
theorem Desk.bod (h : Desk κ0 σ0 κ σ b V al S LT HT sp F0 z st fr pt w) : (kI κ 67 2 = nI b ∧ sI σ 18 = nI b ∧ 1 ≤ b ∧ b ≤ 12 ∧ b ≤ kB κ) ∧ ∀ i, i < b → ∃ s n v, s < 2 ∧ n ≤ 4 ∧ v ≤ 12 ∧ (kI κ (1000 + 8 * i) 2 = nI s ∧ kI κ (1000 + 8 * i) 4 = nI n ∧ kI κ (1000 + 8 * i) 5 = nI v ∧ kI κ (1000 + 8 * i) 3 = aI σ 22 i) ∧ (aI σ 19 i = nI s ∧ aI σ 20 i = nI n ∧ aI σ 21 i = nI v) ∧ aI σ0 19 i = nI s := by
  obtain ⟨⟨k1, k2, k3⟩, sta, -⟩ := (h.bn (x := 0)).1.1
  obtain ⟨⟨t1, t2, t3, t4, t5⟩, -, -, tb⟩ := sta
  refine ⟨⟨by rw [(k1 67 (by unfold hCd; omega)).1]; exact t1, (congrFun (k3 18 (by omega) (by omega)).1 0).trans t2, t3, t4, by rw [k2.1]; exact t5⟩, fun i hi => ?_⟩
  obtain ⟨s, n, v, a, j, q1, q2, q3, q4, q5, ⟨w1, w2, w3, w4, w5⟩, ⟨u1, u2, u3, u4⟩, -⟩ := tb i hi
  rw [(k1 (1000 + 8 * i) (by unfold hCd; omega)).1, (k3 19 (by omega) (by omega)).1, (k3 20 (by omega) (by omega)).1, (k3 21 (by omega) (by omega)).1, (k3 22 (by omega) (by omega)).1]
  exact ⟨s, n, v, q1, q2, q5, ⟨w1, w2, w3, w5⟩, ⟨u1, u2, u3⟩, u1⟩
theorem Desk.new (h : Desk κ0 σ0 κ σ b V al S LT HT sp F0 z st fr pt w) (hV : V < 60) (hA : al < 12) (hsc : sc < b) (h19 : aI σ 19 sc = 1) (har : aI σ 20 sc = 0 → y = 0) (mc : MkC κ κ' V al (nI sc) y (nI 0)) : Desk κ0 σ0 κ' (mdR σ V al (nI sc) y (nI 0)) b (V + 1) (al + 1) S LT HT sp F0 z (un st (V + 1) 0) (un fr (V + 1) []) pt w ∧ pot (V + 1) S (un st (V + 1) 0) (un fr (V + 1) []) ≤ pot V S st fr := by
  obtain ⟨a, c, m⟩ := h.bn (x := 0)
  obtain ⟨-, b5, acc, col⟩ := h
  have a2 := a.new hV hA mc hsc h19 (Nat.zero_le _) har
  obtain ⟨n1, n2, n3⟩ := new_sums (S := S) (st := st) (fr := fr) hV
  obtain ⟨ac1, ac2, ac3⟩ := acc
  refine ⟨Desk.of a2 c.new (fun n q1 q2 => ?_) ?_ ⟨by omega, by omega, by omega⟩ ?_, by omega⟩
  · by_cases cV : n = V + 1
    · rw [cV, un_eq, un_eq]
      exact Or.inl ⟨Or.inl rfl, rfl⟩
    · rw [un_ne cV, un_ne cV]
      exact (m n q1 (by omega)).cg (mdR_n (by omega) cV) (Nat.le_refl _)
  · rw [mc.2.2.1 14 (by decide) (by decide)]
    exact b5
  · exact col.new hV (mc.1 84 (by omega) (by omega)).1 (fun h h1 h2 => ⟨(mc.1 h (by omega) (by omega)).1, by rw [mc.2.1]⟩) (fun k h1 h2 => mdR_k (by omega))
theorem voice_ok (h : Rr k κ σ) : P2I X MX11_voice MX13_voice [vI x0, vI x1] κ σ (Rr (k + 1)) := by
  refine ⟨10, 10, by decide, by decide, ?_⟩
  rcases h.cases with ⟨p, hR⟩ | ⟨κ0, σ0, b, V, al, S, LT, HT, sp, F0, z, st, fr, pt, w, p0, p, dk, hb, hR⟩
  · exact KC_of_K rfl (Nat.le_of_ble_eq_true rfl) rfl (k_11_voice_0 _ _ ⟨1, by omega, kc_plays0 p.2.2.2.1 ⟨fun _ => ⟨_, rfl, AC_of_A rfl (Nat.le_of_ble_eq_true rfl) rfl (a_voice_0 _ _ ⟨0, by omega, ac_silent0 p.2.2.2.2 ⟨fun z => absurd z (by decide), fun _ => ⟨_, rfl, rfl, hR⟩⟩⟩)⟩, fun z => absurd rfl z⟩⟩)
  · obtain ⟨-, -, -, h5, h46⟩ := p
    obtain ⟨s1, s2, s3, s4, s5, s6, s7, s8, s9, s10, s11, s12, s13, s14, s15⟩ := (dk.bn (x := 0)).1.2.1
    obtain ⟨⟨t1, t2, t3, t4, t5⟩, tb⟩ := dk.bod
    refine KC_of_K rfl (Nat.le_of_ble_eq_true rfl) rfl (k_11_voice_0 _ _ ⟨1, by omega, kc_plays1 h5 s7.1 s15 (fun z0 => ⟨fun z => absurd z (by decide), fun _ => ⟨0, by omega, ?_⟩⟩) (fun z1 => ⟨fun _ => ⟨_, rfl, AC_of_A rfl (Nat.le_of_ble_eq_true rfl) rfl (a_voice_0 _ _ ⟨0, by omega, ac_silent1 h46 s7.2 s15 (fun z0 => by omega) (fun _ => ⟨fun z => absurd z (by decide), fun _ => ⟨_, rfl, rfl, hR⟩⟩)⟩)⟩, fun z => absurd rfl z⟩)⟩)
    -- the reference, up to its script
    have e18 : sI σ 18 - 1 = nI (b - 1) := by rw [t2, litI 1, nI_sb (by omega)]
    have rf : ∀ F : Int32 → Rm → Prop, (∀ j, j < b → x0 = nI j → (vp_in x0 12) ∧ (((aI σ 19 x0.toNatClampNeg) = 0 → A X 92 10 MX13_voice 33 [(0, vR 92), (1, vI x0), (2, vI x1)] [] σ (aRI F)) ∧ (¬ (aI σ 19 x0.toNatClampNeg) = 0 → (((sI σ 47) = 60 → A X 92 10 MX13_voice 53 [(0, vR 92), (1, vI x0), (2, vI x1)] [] σ (aRI F)) ∧ (¬ (sI σ 47) = 60 → (((sI σ 48) = 12 → A X 92 10 MX13_voice 53 [(0, vR 92), (1, vI x0), (2, vI x1)] [] σ (aRI F)) ∧ (¬ (sI σ 48) = 12 → ∃ e17 : Nat, e17 + 1 ≤ 10 ∧ AC X 92 e17 MX13_made [vR 92, vI x0, vI x1, vI 0] σ (aRI fun y20 s21 => A X 92 10 MX13_voice 65 [(0, vR 92), (1, vI x0), (2, vI x1)] [vI y20] s21 (aRI F))))))))) → ((∀ j, j < b → x0 ≠ nI j) → F (-1) σ) → AC X 92 10 MX13_voice [vR 92, vI x0, vI x1] σ (aRI F) := fun F f1 f0 => by
      refine AC_of_A rfl (Nat.le_of_ble_eq_true rfl) rfl (a_voice_0 _ _ ⟨0, by omega, ac_silent1 h46 s7.2 s15 (fun _ => ⟨fun _ => ⟨0, by omega, ac_inN e18 (by omega) (fun j hj e => ⟨fun z => absurd z (by decide), fun _ => f1 j (by omega) e⟩) (fun hj => ⟨fun _ => a_voice_33 _ _ ⟨_, rfl, f0 (fun j h1 => hj j (by omega))⟩, fun z => absurd rfl z⟩)⟩, fun z => absurd rfl z⟩) (fun z1 => by omega)⟩)
    refine kc_satX t1 t4 t5 (fun j hj e => ?_) (fun hj => ⟨Or.inl rfl, fun _ => k_11_voice_30 _ _ _ ⟨_, rfl, rf _ (fun j h1 h2 => absurd h2 (hj j h1)) (fun _ => ⟨rfl, hR⟩)⟩, fun z => absurd rfl z⟩)
    subst e
    have hH : isH κ (1000 + 8 * j) 0 := isH_body (by omega)
    obtain ⟨s, n, v, q1, q2, q3, ⟨w1, w2, w3, w4⟩, ⟨u1, u2, u3⟩, u4⟩ := tb j hj
    refine ⟨Or.inr hH.1, fun z => absurd z (by omega), fun _ => ⟨hH, ?_⟩⟩
    rw [w1, litI 0, eq_nI (by omega) (by omega)]
    have vj : vp_in (nI j) 12 := by rw [vpn (by omega)]; omega
    refine ⟨fun z0 => k_11_voice_30 _ _ _ ⟨_, rfl, rf _ (fun i h1 h2 => ?_) (fun hz => absurd rfl (hz j hj))⟩, fun z1 => ⟨0, by omega, kc_isFull s1.1 s2.1 s8 s11 (fun full => ?_) (fun hV hA => ?_)⟩⟩
    · rw [cl_nI (by omega), u1, litI 0, eq_nI (by omega) (by omega)]
      exact ⟨vj, fun _ => a_voice_33 _ _ ⟨_, rfl, rfl, hR⟩, fun z => absurd z0 z⟩
    · refine ⟨fun z => absurd z (by decide), fun _ => k_11_voice_68 _ _ _ _ ⟨_, rfl, rf _ (fun i h1 h2 => ?_) (fun hz => absurd rfl (hz j hj))⟩⟩
      rw [cl_nI (by omega), u1, litI 0, eq_nI (by omega) (by omega), s1.2, s2.2, litI 60, eq_nI (by omega) (by omega), litI 12, eq_nI (by omega) (by omega)]
      refine ⟨vj, fun z => absurd z z1, fun _ => ⟨fun _ => a_voice_53 _ _ (a_voice_65 _ _ _ ⟨_, rfl, rfl, hR⟩), fun c => ⟨fun _ => a_voice_53 _ _ (a_voice_65 _ _ _ ⟨_, rfl, rfl, hR⟩), fun c2 => ?_⟩⟩⟩
      omega
    · have es1 : s = 1 := by omega
      subst es1
      have hw : ∀ m, V < m → m ≤ 60 → kW κ (1002 + 8 * m + 1) = 0 := fun m m1 m2 => by
        have := dk.sc.2.2.2.2.1 m m1 m2
        rw [show 1002 + 8 * m + 1 = 1003 + 8 * m by omega]; exact this
      have fin : ∀ ar : Int32, ar = (if 0 < n then x1 else 0) → K X 10 MX11_voice 64 [(0, vR 64), (1, vI (nI j)), (2, vI x1), (3, vR (1000 + 8 * j))] [vI ar, vI (nI j), vR 79] κ (kRI fun y κ' => AC X 92 10 MX13_voice [vR 92, vI (nI j), vI x1] σ (aRI fun y' σ' => y = y' ∧ Rr (k + 1) κ' σ')) := fun ar har => by
        refine k_11_voice_64 _ _ _ _ _ ⟨hH, 2, by omega, kc_make s1.1 s2.1 hV hA s9 s10 hw (by omega) (fun κ' mc => k_11_voice_68 _ _ _ _ ⟨_, rfl, rf _ (fun i h1 h2 => ?_) (fun hz => absurd rfl (hz j hj))⟩)⟩
        rw [cl_nI (by omega), u1, litI 0, eq_nI (by omega) (by omega), s1.2, s2.2, litI 60, eq_nI (by omega) (by omega), litI 12, eq_nI (by omega) (by omega)]
        refine ⟨vj, fun z => absurd z z1, fun _ => ⟨fun z => by omega, fun _ => ⟨fun z => by omega, fun _ => ⟨0, by omega, ac_made (tk := 0) s1.2 s2.2 hV hA (by omega) u2 q2 (a_voice_65 _ _ _ ⟨_, rfl, rfl, ?_⟩)⟩⟩⟩⟩
        rw [← har]
        obtain ⟨dk2, hp⟩ := dk.new hV hA hj u1 (fun z => by
          rw [u2] at z
          rw [har, if_neg (fun z2 => nI_ne (by omega) (by omega) (by omega : n ≠ 0) z)]) mc
        exact Or.inr ⟨κ0, σ0, b, V + 1, al + 1, S, LT, HT, sp, F0, z, _, _, pt, w, p0, dk2, by omega⟩
      refine ⟨fun _ => ?_, fun z => absurd rfl z⟩
      rw [w2, eq_nI (by omega) (by omega)]
      exact ⟨fun n0 => fin _ (by rw [n0]; rfl), fun n1 => fin _ (by rw [if_pos (by omega)])⟩
end VOICES
