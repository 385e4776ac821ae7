/-! sweep, of both -/
section SWEPT
variable {X : Cx} {d e : Nat} {κ0 κ κ1 κ2 κm κ' : Km} {σ0 σ σ1 σ2 σm σ' : Rm} {b V al S T sp z LT HT F0 n k s p o j i x t : Nat} {st : Nat → Nat} {fr : Nat → List Frm} {pt : Nat → Nat} {w m m1 m2 : Nat → Nat} {y hi rd : Int32}
/-- a way that is told of all ends comes to one place -/
theorem a_ex {P : Rm → Prop} {M : MI} {pc1 pc2 : Nat} {lv1 lv2 : Lv} (h : ∀ Q, (∀ σ2, P σ2 → A X 92 d M pc2 lv2 [] σ2 Q) → A X 92 d M pc1 lv1 [] σ Q) : ∃ σ2, P σ2 ∧ ∀ Q, A X 92 d M pc2 lv2 [] σ2 Q → A X 92 d M pc1 lv1 [] σ Q := by
  refine Classical.byContradiction fun hn => ?_
  have hq : ∀ σ2, P σ2 → ∃ Q, A X 92 d M pc2 lv2 [] σ2 Q ∧ ¬ A X 92 d M pc1 lv1 [] σ Q := fun σ2 hp => Classical.byContradiction fun h2 => hn ⟨σ2, hp, fun Q hQ => Classical.byContradiction fun h3 => h2 ⟨Q, hQ, h3⟩⟩
  obtain ⟨r, s, hr, σ2, Q2, h1, h2, h3, h4⟩ := h (fun r s => ∃ σ2 Q2, P σ2 ∧ A X 92 d M pc2 lv2 [] σ2 Q2 ∧ ¬ A X 92 d M pc1 lv1 [] σ Q2 ∧ Q2 r s) (fun σ2 hp => by
    obtain ⟨Q2, a1, a2⟩ := hq σ2 hp
    exact a1.mono (fun r s hh => ⟨σ2, Q2, hp, a1, a2, hh⟩))
  exact h3 ⟨r, s, hr, h4⟩
theorem Rows.cg2 (h : Rows κ σ V al sp st fr pt) (e : kW κ' = kW κ) (e59 : aI σ' 59 = aI σ 59) : Rows κ' σ' V al sp st fr pt := h.cg e e59 (fun _ => rfl)
/-- marks are others: the story begins anew from here -/
theorem Desk.mark (dk : Desk κ0 σ0 κ σ b V al S LT HT sp F0 z st fr pt w) (kk : Kk κ κm) (rk : Rk σ σm) : Desk κm σm κm σm b V al S LT HT sp F0 z st fr pt w := by
  obtain ⟨a, c, m⟩ := dk.bn (x := 0)
  obtain ⟨-, b5, acc, col⟩ := dk
  obtain ⟨⟨⟨k1, k2, k3⟩, sta, rg⟩, a4, a5, a7, a8, a9, a10⟩ := a
  have es : ∀ k, k ≠ 98 → aI σm k = aI σ k := rk.2
  have eh : ∀ g, (g < 1000 ∨ g % 8 ≠ 2) → kI κm g = kI κ g := kk.2.1
  have eB : kB κm = kB κ := by show κm.2.2.2.2.1 = κ.2.2.2.2.1; rw [kk.1]
  have e0 : ∀ h, h = 67 ∨ h = 68 ∨ h = 69 ∨ h = 70 ∨ (1000 ≤ h ∧ h % 8 = 0) → kI κm h = kI κ0 h := fun h hh => by
    rw [eh h (by omega), (k1 h (by unfold hCd; omega)).1]
  have ea0 : ∀ k, 3 ≤ k → k ≤ 45 → aI σm k = aI σ0 k := fun k h1 h2 => by rw [es k (by omega), (k3 k (by omega) (by omega)).1]
  have sta' : Sta b κm σm := sta.same e0 ⟨by rw [kk.kw, (k1 69 (by unfold hCd; omega)).2.2], by rw [kk.kw, (k1 70 (by unfold hCd; omega)).2.2]⟩ (eB.trans k2.1) ea0
  have ce : CdE κ0 σ0 κm σm := ⟨e0 69 (by omega), e0 70 (by omega), by rw [e0 68 (by omega)], fun k hk => ea0 k (by omega) (by omega)⟩
  have arz : ArZ σm := k2.2.2.2.2.1.cg (fun k hk => es k (by omega))
  refine Desk.of ⟨⟨⟨fun _ _ => ⟨rfl, rfl, rfl⟩, ⟨rfl, Mkd.refl arz⟩, fun _ _ _ => ⟨rfl, rfl⟩⟩, sta', RG.refl⟩, a4.cg (fun k _ => by rw [eh 79 (by decide)]) kk.kv (fun k hk => congrFun (es k (by omega)) 0), fun n n1 n2 => (a5 n n1 n2).cg (fun k hk => kk.2.2 n k (by omega)) (fun k h1 h2 => by rw [es k (by omega)]) (es 19 (by decide)), a7.cg2 kk.kw (es 59 (by decide)), a8.cg (fun g hg => ⟨eh g (by omega), by rw [kk.kw]⟩) (by rw [eh 79 (by decide)]) (fun k h1 h2 => es k (by omega)), a9.fr (by rw [eh 84 (by decide)]) (eh 85 (by decide)) (by rw [kk.kw]) (fun k h1 h2 => es k (by omega)), fun n n1 n2 => (a10 n n1 n2).cg (fun k hk => kk.2.2 n k (by omega)) (eh _ (by omega)) (by rw [kk.kw]) (by rw [kk.kv]; exact Nat.le_refl _) (fun k h1 h2 => es k (by omega))⟩ (c.cg (es 54 (by decide)) (es 56 (by decide)) (es 57 (by decide))) (fun n n1 n2 => Md.cong ce (m n n1 n2) (congrFun (es 56 (by decide)) n)) (by rw [eh 79 (by decide)]; exact b5) acc (col.cg (eh 84 (by decide)) (fun h h1 h2 => ⟨eh h (by omega), by rw [kk.kw]⟩) (fun k h1 h2 => es k (by omega)))
theorem Pe.kk (h : Pe κ σ rd) (kk : Kk κ κm) (rk : Rk σ σm) : Pe κm σm rd := by
  obtain ⟨⟨n, t1, t2, t3⟩, ⟨h1, h2, h3, h4⟩, ⟨h5, κ1, h6, h7, h8⟩, h9, h10⟩ := h
  have es : ∀ k, k ≠ 98 → aI σm k = aI σ k := rk.2
  have eh : ∀ g, (g < 1000 ∨ g % 8 ≠ 2) → kI κm g = kI κ g := kk.2.1
  have ew := kk.kw
  have eL : kL κm = kL κ := by show κm.2.1 = κ.2.1; rw [kk.1]
  have eB : kB κm = kB κ := by show κm.2.2.2.2.1 = κ.2.2.2.2.1; rw [kk.1]
  have eT : kT κm = kT κ := by show κm.2.2.2.2.2.2.1 = κ.2.2.2.2.2.2.1; rw [kk.1]
  have eZ : kZ κm = kZ κ := by show κm.2.2.2.2.2.2.2 = κ.2.2.2.2.2.2.2; rw [kk.1]
  refine ⟨⟨n, ?_, (rk.si (by decide)).trans t2, fun i hi => ?_⟩, ⟨h1.fr ⟨by rw [ew], by rw [ew], by rw [ew]⟩, ?_, ?_, h4.fr (fun k hk => es k (by omega))⟩, ⟨by rw [ew]; exact h5, κ1, h6.trans (RG.same ew kk.kv eB eT eZ), h7, h8⟩, by rw [eh 64 (by decide)]; exact h9, (rk.si (by decide)).trans h10⟩
  · unfold Tp at *
    rw [eh 65 (by decide), eh 66 (by decide), ew]; exact t1
  · rw [es 1 (by decide), eh 66 (by decide)]; exact t3 i hi
  · unfold Ky at *
    rw [eL, ew]; exact h2
  · unfold ClW at *
    rw [ew, eB]
    exact h3
theorem kc_isLost {F : Int32 → Km → Prop} {c : Nat} (hH : isH κ (1002 + 8 * n) 10) (h10 : kI κ (1002 + 8 * n) 10 = nI c) (hc : c ≤ 2) (v1 : kI κ (1002 + 8 * n) 1 = nI s) (v6 : s ≤ 6) (q1 : c = 0 → s < 4 → F 1 κ) (q0 : ¬ (c = 0 ∧ s < 4) → F 0 κ) : KC' X 1 MX10_isLost [vR (1002 + 8 * n)] κ (kRI F) := by
  refine KC_of_K rfl (Nat.le_of_ble_eq_true rfl) rfl (k_10_isLost_0 _ ⟨hH, ?_⟩)
  rw [h10, litI 0, eq_nI (by omega) (by omega)]
  exact ⟨fun c0 => ⟨0, by omega, kc_isOver hH v1 v6 (fun c4 => ⟨fun z => absurd z (by decide), fun _ => k_10_isLost_18 _ (k_10_isLost_19 _ _ ⟨Or.inl rfl, _, rfl, q0 (fun z => by omega)⟩)⟩) (fun c4 => ⟨fun _ => k_10_isLost_19 _ _ ⟨Or.inr rfl, _, rfl, q1 c0 (by omega)⟩, fun z => absurd rfl z⟩)⟩, fun c0 => k_10_isLost_18 _ (k_10_isLost_19 _ _ ⟨Or.inl rfl, _, rfl, q0 (fun z => c0 z.1)⟩)⟩
/-- both sweep, from the marks on -/
theorem sweep_loop {G : Int32 → Km → Prop} {mc mr : Nat → Nat} {st0 : Nat → Nat} {bnd : Nat} (hV60 : V ≤ 60) (hbnd : bnd + 60 ≤ 386000000) (hkV : V ≤ kV κm) (m10 : kI κm 79 10 = nI V) (mst : ∀ x, 1 ≤ x → x ≤ V → kI κm (1002 + 8 * x) 1 = nI (st0 x) ∧ st0 x ≤ 6) (mk : Mk κm V mc) (rk : Mr σm V mr) (eq : ∀ x, 1 ≤ x → x ≤ V → (mr x = 0 ↔ mc x = 0 ∧ st0 x < 4))
    (fin : ∀ κ' σ' V' al' S' LT' HT' sp' F0' z' st' fr' pt' w' u, Desk κm σm κ' σ' b V' al' S' LT' HT' sp' F0' z' st' fr' pt' w' → HT' + 2 * pot V' S' st' fr' ≤ bnd + 60 → (∀ H : Int32 → Rm → Prop, H (nI u) σ' → A X 92 80 MX13_sweep 150 [(0, vR 92), (1, vI (nI V)), (2, vI 0), (3, vI 1)] [] σm (aRI H)) → G (nI u) κ') :
    ∀ r i u κ' σ' V' al' S' LT' HT' sp' F0' z' st' fr' pt' w', i + r = V + 1 → 1 ≤ i → u < i → Desk κm σm κ' σ' b V' al' S' LT' HT' sp' F0' z' st' fr' pt' w' → HT' + 2 * pot V' S' st' fr' ≤ bnd + (i - 1) → (∀ H : Int32 → Rm → Prop, A X 92 80 MX13_sweep 150 [(0, vR 92), (1, vI (nI V)), (2, vI (nI u)), (3, vI (nI i))] [] σ' (aRI H) → A X 92 80 MX13_sweep 150 [(0, vR 92), (1, vI (nI V)), (2, vI 0), (3, vI 1)] [] σm (aRI H)) → K X 20 MX11_sweep 22 [(0, vR 64), (1, vI (nI V)), (2, vI (nI u)), (3, vI (nI i))] [] κ' (kRI G) := by
  intro r
  induction r with
  | zero =>
    intro i u κ' σ' V' al' S' LT' HT' sp' F0' z' st' fr' pt' w' hi i1 hu dk hb adv
    have ei : i = V + 1 := hi
    subst ei
    refine k_11_sweep_22 _ _ _ ?_
    rw [lt_nI (by omega) (by omega)]
    refine ⟨fun _ => k_11_sweep_85 _ _ _ ⟨_, rfl, fin _ _ _ _ _ _ _ _ _ _ _ _ _ _ u dk (by omega) (fun H hH => adv H (a_sweep_150 _ _ _ ?_))⟩, fun z => absurd (by omega) z⟩
    rw [lt_nI (by omega) (by omega)]
    exact ⟨fun _ => a_sweep_196 _ _ _ ⟨_, rfl, hH⟩, fun z => absurd (by omega) z⟩
  | succ r ih =>
    intro i u κ' σ' V' al' S' LT' HT' sp' F0' z' st' fr' pt' w' hi i1 hu dk hb adv
    have hV60' : V' ≤ 60 := dk.stg.2.2.2.2.2.2.2.1
    have s7 := dk.stg.2.2.2.2.2.2.1
    have s15 := dk.stg.2.2.2.2.2.2.2.2.2.2.2.2.2.2
    obtain ⟨-, g1, g2, g3, -, g5⟩ := (dk.bn (x := 0)).1.1.1.2.1
    obtain ⟨hVV, ov⟩ := g5 V V' m10 hV60 dk.stg.1.1 hV60'
    have hn : 1 ≤ i ∧ i ≤ V' := ⟨i1, by omega⟩
    obtain ⟨hH, v0, v1, v49, v6, v4⟩ := dk.vst i hn.1 hn.2
    obtain ⟨mk1, mk2⟩ := mk i i1 (by omega)
    obtain ⟨rk1, rk2⟩ := rk i i1 (by omega)
    have e10 : kI κ' (1002 + 8 * i) 10 = nI (mc i) := (g2 i (by omega)).trans mk1
    have e98 : aI σ' 98 i = nI (mr i) := by rw [g3]; exact rk1
    obtain ⟨ms1, ms2⟩ := mst i i1 (by omega)
    have over : 4 ≤ st0 i → 4 ≤ st' i := fun h => by
      obtain ⟨s, ⟨s3, s4⟩, s5⟩ := ov i (st0 i) i1 (by omega) h ms2 ms1
      have := (nI_eq (by omega) (by omega)).mp (v1.symm.trans s5)
      omega
    have hq := eq i i1 (by omega)
    refine k_11_sweep_22 _ _ _ ?_
    rw [lt_nI (by omega) (by omega)]
    refine ⟨fun z => by omega, fun _ => ⟨0, by omega, kc_isSpent s7.1 s15 ?_⟩⟩
    have hz : z' = 0 ∨ z' = 1 := by omega
    rcases hz with rfl | rfl
    · refine ⟨fun _ => ⟨0, by omega, kc_vc dk (fun n n1 n2 e => ?_) (fun hz => (vno_no hV60' hz i hn.1 hn.2 rfl).elim)⟩, fun z => absurd rfl z⟩
      have en : i = n := (nI_eq (by omega) (by omega)).mp e
      subst en
      -- the reference at this voice
      have rf : ∀ (H : Int32 → Rm → Prop), ((mr i = 0 → ∃ e5 : Nat, e5 + 1 ≤ 80 ∧ AC X 92 e5 MX13_isOver [vR 92, vI (nI i)] σ' (aRI fun y8 s9 => ((y8 = 0 → ∃ e11 : Nat, e11 + 1 ≤ 80 ∧ AC X 92 e11 MX13_closes_ [vR 92, vI (nI i), vI 0] s9 (aRI fun y14 s15 => A X 92 80 MX13_sweep 150 [(0, vR 92), (1, vI (nI V)), (2, vI (nI (u + 1))), (3, vI (nI (i + 1)))] [] s15 (aRI H))) ∧ (¬ y8 = 0 → A X 92 80 MX13_sweep 150 [(0, vR 92), (1, vI (nI V)), (2, vI (nI u)), (3, vI (nI (i + 1)))] [] s9 (aRI H))))) ∧ (¬ mr i = 0 → A X 92 80 MX13_sweep 150 [(0, vR 92), (1, vI (nI V)), (2, vI (nI u)), (3, vI (nI (i + 1)))] [] σ' (aRI H))) → A X 92 80 MX13_sweep 150 [(0, vR 92), (1, vI (nI V)), (2, vI 0), (3, vI 1)] [] σm (aRI H) := fun H hh => by
        refine adv H (a_sweep_150 _ _ _ ?_)
        rw [lt_nI (by omega) (by omega), s7.2, vpn (by omega), cl_nI (by omega), e98, show (nI (mr i) = 0) = (mr i = 0) from by rw [litI 0, eq_nI (by omega) (by omega)]]
        refine ⟨fun z => by omega, fun _ => ⟨fun _ => ⟨by omega, fun m0 => ?_, fun m0 => a_sweep_190 _ _ _ (by rw [nI_1]; exact hh.2 m0)⟩, fun z => absurd rfl z⟩⟩
        obtain ⟨e5, he5, h5⟩ := hh.1 m0
        refine ⟨e5, he5, h5.mono ?_⟩
        rintro r0 s0 ⟨y0, rfl, q1, q2⟩
        refine ⟨y0, rfl, fun z => ?_, fun z => a_sweep_190 _ _ _ (by rw [nI_1]; exact q2 z)⟩
        obtain ⟨e11, he11, h11⟩ := q1 z
        refine ⟨e11, he11, h11.mono ?_⟩
        rintro r1 s1 ⟨y1, rfl, q3⟩
        refine ⟨y1, rfl, a_sweep_190 _ _ _ ?_⟩
        rw [nI_1, nI_1]
        exact q3
      refine ⟨Or.inr hH.1, fun z => absurd z (by omega), fun _ => ⟨hH, 1, by omega, kc_isLost hH e10 mk2 v1 v6 (fun c0 c4 => ?_) (fun hno => ?_)⟩⟩
      · -- it is closed
        have hs0 : st0 i < 4 := by
          by_cases c : 4 ≤ st0 i
          · have := over c; omega
          · omega
        obtain ⟨κ1, f1, f3⟩ := dk.close2 (X := X) hn (v4 c4) (by omega) (by omega)
        refine ⟨fun z => absurd z (by decide), fun _ => ⟨9, by omega, f1 _ ⟨11, by omega, f3 _ (fun κ'' σ'' V'' al'' S'' LT'' HT'' sp'' F0'' z'' st'' fr'' pt'' w'' dk'' hb'' adv'' => k_11_sweep_79 _ _ _ _ ?_)⟩⟩⟩
        rw [nI_1, nI_1]
        refine ih (i + 1) (u + 1) κ'' σ'' V'' al'' S'' LT'' HT'' sp'' F0'' z'' st'' fr'' pt'' w'' (by omega) (by omega) (by omega) dk'' (by omega) (fun H hh => rf H ⟨fun _ => ⟨0, by omega, ac_isOver (by omega) v49 v6 (fun z => by omega) (fun _ => ⟨fun _ => ⟨76, by omega, adv'' 0 _ hh⟩, fun z => absurd rfl z⟩)⟩, fun z => absurd (hq.mpr ⟨c0, hs0⟩) z⟩)
      · refine ⟨fun _ => k_11_sweep_79 _ _ _ _ ?_, fun z => absurd rfl z⟩
        rw [nI_1]
        refine ih (i + 1) u κ' σ' V' al' S' LT' HT' sp' F0' 0 st' fr' pt' w' (by omega) (by omega) (by omega) dk (by omega) (fun H hh => rf H ⟨fun m0 => ⟨0, by omega, ac_isOver (by omega) v49 v6 (fun _ => ⟨fun z => absurd z (by decide), fun _ => hh⟩) (fun c4 => ?_)⟩, fun _ => hh⟩)
        exact absurd ⟨(hq.mp m0).1, by omega⟩ hno
    · refine ⟨fun z => absurd z (by decide), fun _ => k_11_sweep_85 _ _ _ ⟨_, rfl, fin _ _ _ _ _ _ _ _ _ _ _ _ _ _ u dk (by omega) (fun H hH => adv H (a_sweep_150 _ _ _ ?_))⟩⟩
      rw [lt_nI (by omega) (by omega), s7.2]
      exact ⟨fun z => by omega, fun _ => ⟨fun z => absurd z (by decide), fun _ => a_sweep_196 _ _ _ ⟨_, rfl, hH⟩⟩⟩
theorem sweep_ok (h : Rr k κ σ) (hk : k ≤ 1000) : P2I X MX11_sweep MX13_sweep [] κ σ (Rr (k + 1)) := by
  refine ⟨20, 80, by decide, by decide, ?_⟩
  rcases h.cases with ⟨p, hR⟩ | ⟨κ0, σ0, b, V, al, S, LT, HT, sp, F0, z, st, fr, pt, w, p0, p, dk, hb, hR⟩
  · exact KC_of_K rfl (Nat.le_of_ble_eq_true rfl) rfl (k_11_sweep_0 ⟨1, by omega, kc_plays0 p.2.2.2.1 ⟨fun _ => ⟨_, rfl, AC_of_A rfl (Nat.le_of_ble_eq_true rfl) rfl (a_sweep_0 ⟨0, by omega, ac_silent0 p.2.2.2.2 ⟨fun z => absurd z (by decide), fun _ => ⟨_, rfl, rfl, hR⟩⟩⟩)⟩, fun z => absurd rfl z⟩⟩)
  · have pp := p
    obtain ⟨-, -, -, h5, h46⟩ := p
    have s7 := dk.stg.2.2.2.2.2.2.1
    have s15 := dk.stg.2.2.2.2.2.2.2.2.2.2.2.2.2.2
    have hV60 : V ≤ 60 := dk.stg.2.2.2.2.2.2.2.1
    have hkV : V ≤ kV κ := dk.stg.2.2.2.2.2.2.2.2.1
    refine KC_of_K rfl (Nat.le_of_ble_eq_true rfl) rfl (k_11_sweep_0 ⟨1, by omega, kc_plays1 h5 s7.1 s15 (fun z0 => ⟨fun z => absurd z (by decide), fun _ => ⟨4, by omega, ?_⟩⟩) (fun z1 => ⟨fun _ => ⟨_, rfl, AC_of_A rfl (Nat.le_of_ble_eq_true rfl) rfl (a_sweep_0 ⟨0, by omega, ac_silent1 h46 s7.2 s15 (fun z0 => by omega) (fun _ => ⟨fun z => absurd z (by decide), fun _ => ⟨_, rfl, rfl, hR⟩⟩)⟩)⟩, fun z => absurd rfl z⟩)⟩)
    subst z0
    refine dk.found (fun κm mc kk mk bi dn => ?_)
    -- the reference, from its start on
    have rf : ∀ H : Int32 → Rm → Prop, A X 92 80 MX13_sweep 12 [(0, vR 92), (1, vI 1)] [] σ (aRI H) → AC X 92 80 MX13_sweep [vR 92] σ (aRI H) := fun H hh => AC_of_A rfl (Nat.le_of_ble_eq_true rfl) rfl (a_sweep_0 ⟨0, by omega, ac_silent1 h46 s7.2 s15 (fun _ => ⟨fun _ => hh, fun z => absurd rfl z⟩) (fun z1 => by omega)⟩)
    have hcl : Clo V (Ovv st) (Mn σ st fr pt) mc := fun x y x1 x2 y1 y2 hx ho hm => bi.2.1 x y x1 x2 y1 y2 (by
      have h2 := (mk x x1 x2).2
      have h3 := dn x x1 x2
      have ho : ¬ 4 ≤ st x := ho
      omega) hm
    -- where the reference's marks end
    obtain ⟨σm, ⟨rk, m, mr, ⟨r1, l1⟩, cl, mr1, mr2⟩, adv⟩ := a_ex (X := X) (P := fun σm => Rk σ σm ∧ MrE σm σ V st fr pt) (fun Q hQ => dk.rfound (fun σ2 r m => hQ σ2 ⟨r, m⟩))
    have dm := dk.mark kk rk
    have heq : ∀ x, 1 ≤ x → x ≤ V → (mr x = 0 ↔ mc x = 0 ∧ st x < 4) := fun x x1 x2 => by
      have a1 := lst_one l1 hcl bi.1 x x1 x2
      have a2 := lst_one bi.2.2 cl r1 x x1 x2
      have a3 := mr2 x x1 x2
      by_cases c1 : m x = 0
      · by_cases c2 : mc x = 0
        · rw [a3]; exact ⟨fun z => ⟨c2, z.2⟩, fun z => ⟨c1, z.2⟩⟩
        · exact absurd c1 (a2 c2)
      · rw [a3]
        exact ⟨fun z => absurd z.1 c1, fun z => absurd z.1 (a1 c1)⟩
    have h10 : kI κm 79 10 = nI V := by rw [kk.2.1 79 (by decide)]; exact dk.stg.1.1
    refine sweep_loop (bnd := 385300000 + 100 * k) (st0 := st) (mc := mc) (mr := mr) (V := V) hV60 (by omega) (by rw [kk.kv]; exact hkV) h10 (fun x x1 x2 => ?_) mk mr1 heq (fun κ' σ' V' al' S' LT' HT' sp' F0' z' st' fr' pt' w' u dk' hb' adv' => ?_) V 1 0 κm σm V al S LT HT sp F0 0 st fr pt w (by omega) (Nat.le_refl _) (by omega) dm (by omega) (fun H hh => hh)
    · obtain ⟨-, -, v1, -, v6, -⟩ := dk.vst x x1 x2
      exact ⟨by rw [kk.2.2 x 1 (by decide)]; exact v1, v6⟩
    · exact rf _ (adv _ (adv' _ ⟨rfl, Or.inr ⟨κm, σm, b, V', al', S', LT', HT', sp', F0', z', st', fr', pt', w', pp.kk kk rk, dk', by omega⟩⟩))
end SWEPT
