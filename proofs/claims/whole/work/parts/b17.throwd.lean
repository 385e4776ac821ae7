/-! inject and close, from the desk -/
section THROWD
variable {X : Cx} {d e : Nat} {κ0 κ κb κh κ1 κ' : Km} {σ0 σ σ1 σ' : Rm} {b V al S T sp z LT HT F0 n g k s m p : Nat} {st : Nat → Nat} {fr : Nat → List Frm} {pt : Nat → Nat} {w : Nat → Nat} {fs : List Frm} {x x0 x1 x2 y val : Int32}
/-- outcomes alone are others -/
theorem Desk.k15 (h : Desk κ0 σ0 κ σ b V al S LT HT sp F0 z st fr pt w) : Desk κ0 σ0 (cI κ 79 15 y) σ b V al S LT HT sp F0 z st fr pt w := by
  obtain ⟨a, c, m⟩ := h.bn (x := 0)
  obtain ⟨-, b5, acc, col⟩ := h
  exact Desk.of (a.kx (g := 79) (k := 15) (y := y) (Or.inl ⟨rfl, Or.inr rfl⟩)) c m (by rw [kI_nk (by decide)]; exact b5) acc (col.cg (kI_ne (by decide)) (fun h h1 h2 => ⟨kI_ne (by omega), rfl⟩) (fun _ _ _ => rfl))
/-- a failure is thrown into one that is not begun, by the desk: it comes out -/
theorem Desk.injN {k : Nat} (h : Desk κ0 σ0 κ σ b V al S LT HT sp F0 0 st fr pt w) (hn : 1 ≤ n ∧ n ≤ V) (hs : st n = 0) (hk : k ≤ 14) (fc : FmC κ κb F0 (nI k) val 0 (-9) 0) :
    Bn κ0 σ0 (cI κb 79 14 (nI (F0 + 1))) (flS σ F0 (nI k) val 0 (-9) (-9)) b V al S 0 sp 0 LT HT (F0 + 1) st fr pt 0 ∧ ∃ w', Desk κ0 σ0 (cI (cI (cI (cI (cI (enK (cI κb 79 14 (nI (F0 + 1))) n sp 5) 79 13 0) 79 15 2) 84 2 (nI (F0 + 1))) 84 3 0) 79 14 0) (wS (enR (flS σ F0 (nI k) val 0 (-9) (-9)) n al 5) 97 (nI F0)) b V (al - 1) S LT HT sp (F0 + 1) 0 (un st n 5) fr pt w' ∧ pot V S (un st n 5) fr ≤ pot V S st fr := by
  obtain ⟨f88, hF, fl, sta⟩ := h.f88
  obtain ⟨a, c, m⟩ := h.bn (x := 0)
  obtain ⟨-, b5, acc, col⟩ := h
  have hf : fr n = [] := by
    rcases m n hn.1 hn.2 with ⟨-, z⟩ | ⟨z, -⟩
    · exact z
    · omega
  have a1 : Bn κ0 σ0 (cI κb 79 14 (nI (F0 + 1))) (flS σ F0 (nI k) val 0 (-9) (-9)) b V al S 0 sp 0 LT HT (F0 + 1) st fr pt 0 := (a.fmk (by omega) hk (Or.inl rfl) fc).kx (g := 79) (k := 14) (y := nI (F0 + 1)) (Or.inl ⟨rfl, Or.inl rfl⟩)
  refine ⟨a1, ?_⟩
  have e1 := a1.end (x' := 0) (s := 5) hn (by omega) (by omega) (Or.inl rfl)
  have efr : un fr n [] = fr := by
    have := un_self (f := fr) (n := n)
    rw [hf] at this
    exact this
  rw [efr, hasF_nil hf] at e1
  have e1 : Bn κ0 σ0 (enK (cI κb 79 14 (nI (F0 + 1))) n sp 5) (enR (flS σ F0 (nI k) val 0 (-9) (-9)) n al 5) b V (al - 1) S 0 sp 0 LT HT (F0 + 1) (un st n 5) fr pt 0 := e1
  have e13 : cI (enK (cI κb 79 14 (nI (F0 + 1))) n sp 5) 79 13 0 = enK (cI κb 79 14 (nI (F0 + 1))) n sp 5 := cI_sm e1.2.1.2.2.2.1.1
  rw [e13]
  have e2 := (((((e1.kx (g := 79) (k := 15) (y := 2) (Or.inl ⟨rfl, Or.inr rfl⟩)).kx (g := 84) (k := 2) (y := nI (F0 + 1)) (Or.inr (Or.inl ⟨rfl, by decide⟩))).kx (g := 84) (k := 3) (y := 0) (Or.inr (Or.inl ⟨rfl, by decide⟩))).rx (k := 97) (i := 0) (y := nI F0) (Or.inr (Or.inr (Or.inl rfl)))).kx (g := 79) (k := 14) (y := 0) (Or.inl ⟨rfl, Or.inl rfl⟩))
  have es : ∀ k', k' ≠ 48 → k' ≠ 49 → k' ≠ 58 → k' ≠ 59 → (k' < 88 ∨ 97 < k') → aI (wS (enR (flS σ F0 (nI k) val 0 (-9) (-9)) n al 5) 97 (nI F0)) k' = aI σ k' := fun k' k1 k2 k3 k4 k5 => by rw [aI_ne (by omega), enR_k k1 k2 k3 k4, flS_ne (by omega)]
  obtain ⟨ac1, ac2, ac3⟩ := acc.endN (s := 5) hn hs hf (by omega)
  have fcf := fc.1
  have allI : AllI F0 V fr := fun m' q1 q2 f0 hf it hi => (m m' q1 q2).items f0 hf it hi
  have col2 := col.make (num := nI k) (val := val) (vo := 0) (pl := -9) (κ' := cI κb 79 14 (nI (F0 + 1))) fl (by omega) allI (fun q hq => by rw [kI_ne (by decide)]; exact fcf.2.2 q hq) (fun h h1 h2 => ⟨(kI_ne (by omega)).trans (fcf.1.1 h (by omega)).1, (fcf.1.1 h (by omega)).2.2⟩) (Or.inl rfl)
  have ek : ∀ g, 80 ≤ g → g ≤ 91 → kI (enK (cI κb 79 14 (nI (F0 + 1))) n sp 5) g = kI (cI κb 79 14 (nI (F0 + 1))) g ∧ kW (enK (cI κb 79 14 (nI (F0 + 1))) n sp 5) g = kW (cI κb 79 14 (nI (F0 + 1))) g := fun g g1 g2 => ⟨(enK_h (by omega) (by omega) (by omega)).1, enK_w (by omega) (by omega)⟩
  have col3 := col2.out (g := F0) (fr' := fr) (rz' := fun _ => 0) (κ' := cI (cI (cI (cI (enK (cI κb 79 14 (nI (F0 + 1))) n sp 5) 79 15 2) 84 2 (nI (F0 + 1))) 84 3 0) 79 14 0) (σ' := wS (enR (flS σ F0 (nI k) val 0 (-9) (-9)) n al 5) 97 (nI F0)) (by omega) (if_pos rfl) (by omega) (by rw [kI_ne (by decide), kI_nk (by decide), kI_eq]) (by rw [kI_ne (by decide), kI_eq]) (fun h h1 h2 => ⟨by rw [kI_ne (by omega), kI_ne (by omega), kI_ne (by omega), kI_ne (by omega), (ek h (by omega) (by omega)).1], (ek h (by omega) (by omega)).2⟩) (fun k' k1 k2 => by rw [aI_ne (by omega), enR_k (by omega) (by omega) (by omega) (by omega)]) sI_eq (fun y _ => Nat.le_add_right _ _) (fun n' f x n1 n2 hf hx _ _ => Or.inr ⟨n', f, n1, n2, hf, hx⟩)
  refine ⟨_, Desk.of e2 (c.side List.not_mem_nil (Or.inr (Or.inr (by omega))) (fun z => by omega) (es 54 (by decide) (by decide) (by decide) (by decide) (by decide)) (es 56 (by decide) (by decide) (by decide) (by decide) (by decide)) (es 57 (by decide) (by decide) (by decide) (by decide) (by decide))) (fun n' q1 q2 => ?_) kI_eq ⟨by omega, ac1.2.1, ac1.2.2⟩ col3, by omega⟩
  by_cases cn' : n' = n
  · rw [cn', un_eq, hf]
    exact Or.inl ⟨Or.inr (by omega), rfl⟩
  · rw [un_ne cn']
    exact (m n' q1 q2).cg (congrFun (es 56 (by decide) (by decide) (by decide) (by decide) (by decide)) n') (by omega)
theorem kc_throwN0 {F : Km → Prop} (a : Bn κ0 σ0 (cI κ 79 14 y) σ b V al S T sp z LT HT F0 st fr pt 0) (hn : 1 ≤ n ∧ n ≤ V) (hs : st n = 0) (q : F (cI (cI (cI (cI (cI (enK (cI κ 79 14 y) n sp 5) 79 13 0) 79 15 2) 84 2 y) 84 3 0) 79 14 0)) : KC' X 5 MX6_throwInto [vR 79, vR (1002 + 8 * n), vI 0, vI y] κ (kRV F) := by
  refine KC_of_K rfl (Nat.le_of_ble_eq_true rfl) rfl (k_6_throwInto_0 _ _ _ ?_)
  rintro κ1 rfl
  have hkV : V ≤ kV κ := a.2.1.2.2.2.2.2.2.2.2.1
  obtain ⟨-, ⟨h1, -, -⟩, -⟩ := a.2.2.1 n hn.1 hn.2
  rw [h1, hs]
  refine ⟨isH_voice hn.1 (show n ≤ kV κ by omega), fun _ => ⟨2, by omega, kc_end a hn ⟨fun _ => ⟨1, by omega, KC_of_K rfl (Nat.le_of_ble_eq_true rfl) rfl (k_6_comeOut_0 ?_)⟩, fun z => absurd rfl z⟩⟩, fun z => absurd rfl z⟩
  rintro κ2 rfl κ3 rfl
  rw [kI_nk (by decide), kI_nk (by decide), enK_79 (by decide) (by decide), kI_eq]
  refine ⟨0, by omega, KC_of_K rfl (Nat.le_of_ble_eq_true rfl) rfl (k_2_comeOut_0 _ ?_)⟩
  rintro κ4 rfl κ5 rfl
  refine ⟨rfl, ?_⟩
  rintro κ8 rfl
  exact ⟨rfl, k_6_throwInto_26 _ _ _ ⟨rfl, q⟩⟩
/-- the desk has the turn: run is over at once -/
theorem kc_run0 {F : Km → Prop} (h13 : kI κ 79 13 = 0) (q : F κ) : KC' X 11 MX6_run [vR 79] κ (kRV F) :=
  KC_of_K rfl (Nat.le_of_ble_eq_true rfl) rfl (k_6_run_0 (run_desk (x := 0) h13 (by decide) ⟨rfl, q⟩))
theorem kc_outcome {F : Int32 → Km → Prop} (q : F (kI κ 79 15) κ) : KC' X 0 MX6_outcome [vR 79] κ (kRI F) :=
  KC_of_K rfl (Nat.le_of_ble_eq_true rfl) rfl (k_6_outcome_0 ⟨_, rfl, q⟩)
/-- both close a voice that isn't over, from the desk -/
theorem Desk.close2 (dk : Desk κ0 σ0 κ σ b V al S LT HT sp F0 0 st fr pt w) (hn : 1 ≤ n ∧ n ≤ V) (hs : st n ≤ 1) (hB : HT + 1 + 2 * pot V S st fr ≤ 400000000) (hx : pot V S st fr ≤ 199000000) :
    ∃ κ1, (∀ F : Km → Prop, F κ1 → KC' X 9 MX6_deskCloses [vR 79, vR (1002 + 8 * n)] κ (kRV F)) ∧ ∀ F : Km → Prop, (∀ κ' σ' V' al' S' LT' HT' sp' F0' z' st' fr' pt' w', Desk κ0 σ0 κ' σ' b V' al' S' LT' HT' sp' F0' z' st' fr' pt' w' → HT' + 2 * pot V' S' st' fr' ≤ HT + 1 + 2 * pot V S st fr → (∀ (x2 : Int32) (G : Int32 → Rm → Prop), G (kI κ' 79 15) σ' → AC X 92 76 MX13_closes_ [vR 92, vI (nI n), vI x2] σ (aRI G)) → F κ') → KC' X 11 MX6_run [vR 79] κ1 (kRV F) := by
  obtain ⟨hH, v0, v1, v49, v6, v4⟩ := dk.vst n hn.1 hn.2
  obtain ⟨f88, hF, fl, sta⟩ := dk.f88
  have hV60 : V ≤ 60 := dk.stg.2.2.2.2.2.2.2.1
  have dk1 : Desk κ0 σ0 (cI κ 79 15 1) σ b V al S LT HT sp F0 0 st fr pt w := dk.k15
  obtain ⟨abn, ac, am⟩ := dk1.bn (x := 0)
  have hH1 : isH (cI κ 79 15 1) (1002 + 8 * n) 10 := (dk1.vst n hn.1 hn.2).1
  have v11 : kI (cI κ 79 15 1) (1002 + 8 * n) 1 = nI (st n) := (dk1.vst n hn.1 hn.2).2.2.1
  have hT : HT < 2000000000 := by omega
  by_cases c0 : st n = 0
  · -- it is not begun
    obtain ⟨dk2, hp, -⟩ := dk1.endN (s := 6) hn c0 (by omega)
    have hfn : fr n = [] := by
      rcases am n hn.1 hn.2 with ⟨-, z⟩ | ⟨z, -⟩
      · exact z
      · omega
    have h58 : aI σ 58 n = -9 := ((abn.2.2.2.2.2.2 n hn.1 hn.2).wid.1 hfn).2
    have hA := abn.al1 hn (by omega)
    refine ⟨enK (cI κ 79 15 1) n sp 6, fun F hF => KC_of_K rfl (Nat.le_of_ble_eq_true rfl) rfl (k_6_deskCloses_0 _ ?_), fun F hF => kc_run0 dk2.stg.2.2.2.1.1 (hF _ _ _ _ _ _ _ _ _ _ _ _ _ _ dk2 (by omega) (fun x2 G hG => ?_))⟩
    · rintro κ1 rfl
      rw [v11, c0]
      exact ⟨hH1, fun _ => ⟨2, by omega, kc_end abn hn (k_6_deskCloses_47 _ ⟨rfl, hF⟩)⟩, fun z => absurd rfl z⟩
    · rw [enK_79 (by decide) (by decide), kI_eq] at hG
      refine AC_of_A rfl (Nat.le_of_ble_eq_true rfl) rfl (a_closes__0 _ _ ⟨0, by omega, ac_isOver (by omega) v49 v6 (fun z => by omega) (fun _ => ⟨fun _ => ?_, fun z => absurd rfl z⟩)⟩)
      rw [vpn (by omega), cl_nI (by omega), v49, c0]
      refine ⟨by omega, fun _ => ⟨0, by omega, ac_over9 (al := al) (by omega) h58 abn.2.1.2.1.2 hA ⟨_, rfl, ?_⟩⟩, fun z => absurd rfl z⟩
      have e : enR σ n al (nI 6) = wS (wI σ 49 n 6) 48 (nI (al - 1)) := if_pos h58
      rw [← e]
      exact hG
  · -- at its yield
    have c1 : st n = 1 := by omega
    have hfn : fr n ≠ [] := fun y0 => by
      rcases am n hn.1 hn.2 with ⟨q1, -⟩ | ⟨-, mm', q2, -⟩
      · omega
      · exact q2.ne y0
    obtain ⟨-, -, -, hpn, h58⟩ := (abn.2.2.2.2.2.2 n hn.1 hn.2).wid.2 hfn
    obtain ⟨gg, pp1, pp2⟩ := abn.hp
    have fl1 : FRl (cI κ 79 15 1) σ F0 := abn.2.2.2.2.2.1
    -- the class makes the failure, throws it
    have kmake : KC' X 3 MX2_make [vR 84, vI 14, vI 0, vI 0, vI (-9), vI 0] (cI (cI κ 79 15 1) (1002 + 8 * n) 11 1) (kRI fun y κb => y = nI (F0 + 1) ∧ FmC (cI (cI κ 79 15 1) (1002 + 8 * n) 11 1) κb F0 (nI 14) 0 0 (-9) 0) := kc_fmake (by rw [kI_ne (by omega)]; exact fl1.1.1) (by omega) fl1.2.1 (fun κb fc => ⟨rfl, fc⟩)
    obtain ⟨r1, κb, hcm, y1, rfl, rfl, fc⟩ := kmake
    have ebn : ∀ k, k ≠ 11 → kI κb (1002 + 8 * n) k = kI (cI κ 79 15 1) (1002 + 8 * n) k := fun k hk => by
      rw [(fc.1.1.1 (1002 + 8 * n) (by omega)).1, kI_nk hk]
    have eb : ∀ g, g ≠ 84 → g ≠ 85 → g ≠ 1002 + 8 * n → kI κb g = kI (cI κ 79 15 1) g ∧ kW κb g = kW (cI κ 79 15 1) g := fun g g1 g2 g3 => by
      obtain ⟨y1, y2, y3⟩ := fc.1.1.1 g (by omega)
      exact ⟨by rw [y1, kI_ne g3], y3⟩
    have kthr : KC' X 5 MX6_throwInto [vR 79, vR (1002 + 8 * n), vI 0, vI (nI (F0 + 1))] κb (kRV fun κ' => ∃ κh, HdC (cI κb 79 14 (nI (F0 + 1))) κh HT 0 (nI n) ∧ κ' = cI (cI (cI κh 79 13 (nI n)) (1002 + 8 * n) 5 0) (1002 + 8 * n) 1 2) := by
      refine kc_throwY (HT := HT) (g := gg) hn.1 (by rw [fc.1.1.2.2.2]; exact (by have := dk.stg.2.2.2.2.2.2.2.2.1; show n ≤ kV κ; omega)) (by rw [ebn 0 (by decide)]; exact (dk1.vst n hn.1 hn.2).2.1) (by rw [ebn 1 (by decide), v11, c1]; rfl) (pp1.fr ?_ ?_ ?_) hT (fun κh hd => ⟨κh, hd, rfl⟩)
      · rw [(eb 82 (by omega) (by omega) (by omega)).1]
      · rw [(eb 83 (by omega) (by omega) (by omega)).1]
      · rw [(eb 83 (by omega) (by omega) (by omega)).2]
    obtain ⟨r2, κ1, hct, rfl, κh, hd, rfl⟩ := kthr
    -- the reference throws it
    have es : ∀ k, k ≠ 57 → k < 88 → aI (flS (wI σ 57 n 1) F0 (nI 14) 0 0 (-9) (-9)) k = aI σ k := fun k k1 k3 => by rw [flS_ne (Or.inl k3), aI_ne k1]
    obtain ⟨σh, hdr, hh⟩ := ac_thrownInto (X := X) (n := n) (p := pt n) (q := F0) (u := 0) (HT := HT) (g := gg) (σ := flS (wI σ 57 n 1) F0 (nI 14) 0 0 (-9) (-9)) ⟨hn.1, by omega⟩ hpn (by rw [es 58 (by decide) (by decide)]; exact h58) (by omega) (pp2.fr (es 83 (by decide) (by decide)) (es 84 (by decide) (by decide)) (es 85 (by decide) (by decide))) hT
    obtain ⟨fr', f', r', hR, hp⟩ := dk1.thrownY (k := 14) (val := 0) (pl := -9) hn c1 (Or.inr ⟨rfl, rfl⟩) (by omega) hB fc hd hdr
    refine ⟨_, fun F hF => KC_of_K rfl (Nat.le_of_ble_eq_true rfl) rfl (k_6_deskCloses_0 _ ?_), fun F hF => run_bothX hR (by omega) (fun κ' σ' V' al' S' LT' HT' sp' F0' z' st' fr'' pt' w' dk' e15 hb adv => hF κ' σ' V' al' S' LT' HT' sp' F0' z' st' fr'' pt' w' dk' (by omega) (fun x2 G hG => ?_))⟩
    · rintro κ1 rfl
      rw [v11, c1]
      refine ⟨hH1, fun z => absurd z (by decide), fun _ => ?_⟩
      rintro κ9 rfl
      exact ⟨3, by omega, _, κb, hcm, _, rfl, 5, by omega, _, _, hct, rfl, k_6_deskCloses_47 _ ⟨rfl, hF⟩⟩
    · rw [e15] at hG
      refine AC_of_A rfl (Nat.le_of_ble_eq_true rfl) rfl (a_closes__0 _ _ ⟨0, by omega, ac_isOver (by omega) v49 v6 (fun z => by omega) (fun _ => ⟨fun _ => ?_, fun z => absurd rfl z⟩)⟩)
      rw [vpn (by omega), cl_nI (by omega), v49, c1]
      refine ⟨by omega, fun z => absurd z (by decide), fun _ => ⟨by omega, ?_⟩⟩
      rintro s14 rfl
      refine ⟨0, by omega, ac_failure (F0 := F0) (by rw [sI_ne (by decide)]; exact f88) (by omega) ⟨62, by omega, (hh _ (adv G hG)).mono ?_⟩⟩
      rintro r0 s0 ⟨rfl, hg⟩
      refine ⟨rfl, 72, by omega, hg.mono ?_⟩
      rintro r3 s3 ⟨x3, rfl, hg3⟩
      exact ⟨x3, rfl, _, rfl, hg3⟩
end THROWD
