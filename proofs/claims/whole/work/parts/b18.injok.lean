/-! inject and close, of both -/
section INJOK
variable {X : Cx} {d e : Nat} {κ0 κ κb κh κ1 κ' : Km} {σ0 σ σ1 σ' : Rm} {b V al S T sp z LT HT F0 n g k s m p kd : Nat} {st : Nat → Nat} {fr : Nat → List Frm} {pt : Nat → Nat} {w : Nat → Nat} {fs : List Frm} {x x0 x1 x2 y val : Int32}
/-- the reference: the failure is made, and thrown in -/
def RfI (X : Cx) (σf : Rm) (n F0 : Nat) (out : Int32) (σ' : Rm) : Prop := (aI σf 49 n = 0 ∧ AC X 92 0 MX13_over [vR 92, vI (nI n), vI 5] σf (aRV fun s => wS s 97 (nI F0) = σ' ∧ out = 2)) ∨ (¬ aI σf 49 n = 0 ∧ AC X 92 62 MX13_thrownInto [vR 92, vI 0, vI (nI n), vI (nI F0)] σf (aRV fun s => AC X 92 72 MX13_goes [vR 92] s (aRI fun y s' => y = out ∧ s' = σ')))
/-- both throw a failure into a voice that isn't over, from the desk -/
theorem Desk.inject2 (dk : Desk κ0 σ0 κ σ b V al S LT HT sp F0 0 st fr pt w) (hn : 1 ≤ n ∧ n ≤ V) (hs : st n ≤ 1) (hk : kd ≤ 14) (hB : HT + 1 + 2 * pot V S st fr ≤ 400000000) (hx : pot V S st fr ≤ 199000000) :
    ∃ κ1, (∀ F : Km → Prop, F κ1 → KC' X 9 MX6_deskInjects [vR 79, vR (1002 + 8 * n), vI (nI kd), vI x2] κ (kRV F)) ∧ ∀ F : Km → Prop, (∀ κ' σ' V' al' S' LT' HT' sp' F0' z' st' fr' pt' w', Desk κ0 σ0 κ' σ' b V' al' S' LT' HT' sp' F0' z' st' fr' pt' w' → HT' + 2 * pot V' S' st' fr' ≤ HT + 1 + 2 * pot V S st fr → RfI X (flS σ F0 (nI kd) x2 0 (-9) (-9)) n F0 (kI κ' 79 15) σ' → F κ') → KC' X 11 MX6_run [vR 79] κ1 (kRV F) := by
  obtain ⟨hH, v0, v1, v49, v6, v4⟩ := dk.vst n hn.1 hn.2
  obtain ⟨f88, hF, fl, sta⟩ := dk.f88
  have hV60 : V ≤ 60 := dk.stg.2.2.2.2.2.2.2.1
  obtain ⟨abn, ac, am⟩ := dk.bn (x := 0)
  have hT : HT < 2000000000 := by omega
  have kmake : KC' X 3 MX2_make [vR 84, vI (nI kd), vI x2, vI 0, vI (-9), vI 0] κ (kRI fun y κb => y = nI (F0 + 1) ∧ FmC κ κb F0 (nI kd) x2 0 (-9) 0) := kc_fmake fl.1.1 (by omega) fl.2.1 (fun κb fc => ⟨rfl, fc⟩)
  obtain ⟨r1, κb, hcm, y1, rfl, rfl, fc⟩ := kmake
  have e49 : aI (flS σ F0 (nI kd) x2 0 (-9) (-9)) 49 n = nI (st n) := by rw [flS_ne (by decide)]; exact v49
  by_cases c0 : st n = 0
  · obtain ⟨a1, w', dk2, hp⟩ := dk.injN (k := kd) (val := x2) hn c0 hk fc
    have hfn : fr n = [] := by
      rcases am n hn.1 hn.2 with ⟨-, z⟩ | ⟨z, -⟩
      · exact z
      · omega
    have h58 : aI (flS σ F0 (nI kd) x2 0 (-9) (-9)) 58 n = -9 := by rw [flS_ne (by decide)]; exact ((abn.2.2.2.2.2.2 n hn.1 hn.2).wid.1 hfn).2
    have hA := abn.al1 hn (by omega)
    refine ⟨_, fun F hF => KC_of_K rfl (Nat.le_of_ble_eq_true rfl) rfl (k_6_deskInjects_0 _ _ _ ⟨hH, 3, by omega, _, κb, hcm, _, rfl, 5, by omega, kc_throwN0 a1 hn c0 ⟨rfl, hF⟩⟩), fun F hF => kc_run0 dk2.stg.2.2.2.1.1 (hF _ _ _ _ _ _ _ _ _ _ _ _ _ _ dk2 (by omega) (Or.inl ⟨by rw [e49, c0]; rfl, ?_⟩))⟩
    refine ac_over9 (al := al) (by omega) h58 (by rw [show sI (flS σ F0 (nI kd) x2 0 (-9) (-9)) 48 = sI σ 48 from congrFun (flS_ne (by decide)) 0]; exact abn.2.1.2.1.2) hA ⟨?_, ?_⟩
    · have e : enR (flS σ F0 (nI kd) x2 0 (-9) (-9)) n al 5 = wS (wI (flS σ F0 (nI kd) x2 0 (-9) (-9)) 49 n 5) 48 (nI (al - 1)) := if_pos h58
      rw [e]
    · rw [kI_nk (by decide), kI_ne (by decide), kI_ne (by decide), kI_eq]
  · have c1 : st n = 1 := by omega
    have hfn : fr n ≠ [] := fun y0 => by
      rcases am n hn.1 hn.2 with ⟨q1, -⟩ | ⟨-, mm', q2, -⟩
      · omega
      · exact q2.ne y0
    obtain ⟨-, -, -, hpn, h58⟩ := (abn.2.2.2.2.2.2 n hn.1 hn.2).wid.2 hfn
    obtain ⟨gg, pp1, pp2⟩ := abn.hp
    have eb : ∀ g, g ≠ 84 → g ≠ 85 → kI κb g = kI κ g ∧ kW κb g = kW κ g := fun g g1 g2 => by
      obtain ⟨y1, y2, y3⟩ := fc.1.1.1 g (by omega)
      exact ⟨y1, y3⟩
    have kthr : KC' X 5 MX6_throwInto [vR 79, vR (1002 + 8 * n), vI 0, vI (nI (F0 + 1))] κb (kRV fun κ' => ∃ κh, HdC (cI κb 79 14 (nI (F0 + 1))) κh HT 0 (nI n) ∧ κ' = cI (cI (cI κh 79 13 (nI n)) (1002 + 8 * n) 5 0) (1002 + 8 * n) 1 2) := by
      refine kc_throwY (HT := HT) (g := gg) hn.1 (by rw [fc.1.1.2.2.2]; have := dk.stg.2.2.2.2.2.2.2.2.1; show n ≤ kV κ; omega) (by rw [(eb _ (by omega) (by omega)).1]; exact v0) (by rw [(eb _ (by omega) (by omega)).1, v1, c1]; rfl) (pp1.fr ?_ ?_ ?_) hT (fun κh hd => ⟨κh, hd, rfl⟩)
      · rw [(eb 82 (by omega) (by omega)).1]
      · rw [(eb 83 (by omega) (by omega)).1]
      · rw [(eb 83 (by omega) (by omega)).2]
    obtain ⟨r2, κ1, hct, rfl, κh, hd, rfl⟩ := kthr
    have es : ∀ k, k < 88 → aI (flS σ F0 (nI kd) x2 0 (-9) (-9)) k = aI σ k := fun k k3 => flS_ne (Or.inl k3)
    obtain ⟨σh, hdr, hh⟩ := ac_thrownInto (X := X) (n := n) (p := pt n) (q := F0) (u := 0) (HT := HT) (g := gg) (σ := flS σ F0 (nI kd) x2 0 (-9) (-9)) ⟨hn.1, by omega⟩ hpn (by rw [es 58 (by decide)]; exact h58) (by omega) (pp2.fr (es 83 (by decide)) (es 84 (by decide)) (es 85 (by decide))) hT
    obtain ⟨fr', f', r', hR, hp⟩ := dk.thrownY (k := kd) (val := x2) (pl := -9) hn c1 (Or.inl ⟨rfl, rfl⟩) (by omega) hB fc hd hdr
    refine ⟨_, fun F hF => KC_of_K rfl (Nat.le_of_ble_eq_true rfl) rfl (k_6_deskInjects_0 _ _ _ ⟨hH, 3, by omega, _, κb, hcm, _, rfl, 5, by omega, _, _, hct, rfl, rfl, hF⟩), fun F hF => run_bothX hR (by omega) (fun κ' σ' V' al' S' LT' HT' sp' F0' z' st' fr'' pt' w' dk' e15 hb adv => hF κ' σ' V' al' S' LT' HT' sp' F0' z' st' fr'' pt' w' dk' (by omega) (Or.inr ⟨by rw [e49, c1]; decide, hh _ (adv _ ⟨e15.symm, rfl⟩)⟩))⟩
theorem inject_ok (h : Rr k κ σ) (hk : k ≤ 1000) : P2I X MX11_inject MX13_inject [vI x0, vI x1, vI x2] κ σ (Rr (k + 1)) := by
  refine ⟨20, 80, by decide, by decide, ?_⟩
  rcases h.cases with ⟨p, hR⟩ | ⟨κ0, σ0, b, V, al, S, LT, HT, sp, F0, z, st, fr, pt, w, p0, p, dk, hb, hR⟩
  · exact KC_of_K rfl (Nat.le_of_ble_eq_true rfl) rfl (k_11_inject_0 _ _ _ ⟨1, by omega, kc_plays0 p.2.2.2.1 ⟨fun _ => ⟨_, rfl, AC_of_A rfl (Nat.le_of_ble_eq_true rfl) rfl (a_inject_0 _ _ _ ⟨0, by omega, ac_silent0 p.2.2.2.2 ⟨fun z => absurd z (by decide), fun _ => ⟨_, rfl, rfl, hR⟩⟩⟩)⟩, fun z => absurd rfl z⟩⟩)
  · obtain ⟨-, -, -, h5, h46⟩ := p
    have s7 := dk.stg.2.2.2.2.2.2.1
    have s15 := dk.stg.2.2.2.2.2.2.2.2.2.2.2.2.2.2
    have hV60 : V ≤ 60 := dk.stg.2.2.2.2.2.2.2.1
    refine KC_of_K rfl (Nat.le_of_ble_eq_true rfl) rfl (k_11_inject_0 _ _ _ ⟨1, by omega, kc_plays1 h5 s7.1 s15 (fun z0 => ⟨fun z => absurd z (by decide), fun _ => ⟨0, by omega, ?_⟩⟩) (fun z1 => ⟨fun _ => ⟨_, rfl, AC_of_A rfl (Nat.le_of_ble_eq_true rfl) rfl (a_inject_0 _ _ _ ⟨0, by omega, ac_silent1 h46 s7.2 s15 (fun z0 => by omega) (fun _ => ⟨fun z => absurd z (by decide), fun _ => ⟨_, rfl, rfl, hR⟩⟩)⟩)⟩, fun z => absurd rfl z⟩)⟩)
    subst z0
    -- the reference answers BAD
    have bad : (∀ n, 1 ≤ n → n ≤ V → x0 = nI n → ∀ j, j ≤ 9 → x1 ≠ nI j) → AC X 92 80 MX13_inject [vR 92, vI x0, vI x1, vI x2] σ (aRI fun y' σ' => (-1 : Int32) = y' ∧ Rr (k + 1) κ σ') := fun hb => AC_of_A rfl (Nat.le_of_ble_eq_true rfl) rfl (a_inject_0 _ _ _ ⟨0, by omega, ac_silent1 h46 s7.2 s15 (fun _ => ⟨fun _ => ⟨1, by omega, ac_vc dk (fun n n1 n2 e => ⟨fun z => absurd z (by decide), fun _ => ⟨0, by omega, ac_inN (m := 9) rfl (by omega) (fun j hj e2 => (hb n n1 n2 e j hj e2).elim) (fun _ => ⟨fun _ => a_inject_28 _ _ _ ⟨_, rfl, rfl, hR⟩, fun z => absurd rfl z⟩)⟩⟩) (fun _ => ⟨fun _ => a_inject_28 _ _ _ ⟨_, rfl, rfl, hR⟩, fun z => absurd rfl z⟩)⟩, fun z => absurd rfl z⟩) (fun z1 => by omega)⟩)
    refine kc_vc dk (fun n n1 n2 e => ?_) (fun hz => ⟨Or.inl rfl, fun _ => k_11_inject_35 _ _ _ _ ⟨_, rfl, bad (fun n n1 n2 e => (vno_no hV60 hz n n1 n2 e).elim)⟩, fun z => absurd rfl z⟩)
    subst e
    obtain ⟨hH, v0, v1, v49, v6, v4⟩ := dk.vst n n1 n2
    refine ⟨Or.inr hH.1, fun z => absurd z (by omega), fun _ => ?_⟩
    by_cases cj : ∃ j, j ≤ 9 ∧ x1 = nI j
    · obtain ⟨j, hj, rfl⟩ := cj
      rw [n0_lt (by omega), show ((9 : Int32)) = nI 9 from rfl, le_nI (by omega) (by omega)]
      -- the reference, up to whether it is over
      have rf : ∀ F : Int32 → Rm → Prop, AC X 92 0 MX13_isOver [vR 92, vI (nI n)] σ (aRI fun y22 s23 => ((y22 = 0 → ∃ e25 : Nat, e25 + 1 ≤ 80 ∧ AC X 92 e25 MX13_failure [vR 92, vI (nI j), vI x2, vI 0, vI (-9), vI (-9)] s23 (aRI fun y28 s29 => (vp_in (nI n) 61) ∧ (((aI s29 49 ((nI n) : Int32).toNatClampNeg) = 0 → ∃ e32 : Nat, e32 + 1 ≤ 80 ∧ AC X 92 e32 MX13_over [vR 92, vI (nI n), vI 5] s29 (aRV fun s35 => ∀ s36 : Rm, s36 = wS s35 97 y28 → F 2 s36)) ∧ (¬ (aI s29 49 ((nI n) : Int32).toNatClampNeg) = 0 → ∃ e37 : Nat, e37 + 1 ≤ 80 ∧ AC X 92 e37 MX13_thrownInto [vR 92, vI 0, vI (nI n), vI y28] s29 (aRV fun s40 => ∃ e41 : Nat, e41 + 1 ≤ 80 ∧ AC X 92 e41 MX13_goes [vR 92] s40 (aRI fun y44 s45 => F y44 s45)))))) ∧ (¬ y22 = 0 → F 3 s23))) → AC X 92 80 MX13_inject [vR 92, vI (nI n), vI (nI j), vI x2] σ (aRI F) := fun F hF => by
        refine AC_of_A rfl (Nat.le_of_ble_eq_true rfl) rfl (a_inject_0 _ _ _ ⟨0, by omega, ac_silent1 h46 s7.2 s15 (fun _ => ⟨fun _ => ⟨1, by omega, ac_vc dk (fun n' _ _ _ => ⟨fun z => absurd z (by decide), fun _ => ⟨0, by omega, ac_inN (m := 9) rfl (by omega) (fun j' _ _ => ⟨fun z => absurd z (by decide), fun _ => ⟨0, by omega, hF.mono ?_⟩⟩) (fun hj' => (hj' j hj rfl).elim)⟩⟩) (fun hz => (vno_no hV60 hz n n1 n2 rfl).elim)⟩, fun z => absurd rfl z⟩) (fun z1 => by omega)⟩)
        rintro r0 s0 ⟨y0, rfl, h1, h2⟩
        refine ⟨y0, rfl, fun z => ?_, fun z => ⟨_, rfl, h2 z⟩⟩
        obtain ⟨e25, he, hf⟩ := h1 z
        refine ⟨e25, he, hf.mono ?_⟩
        rintro r1 s1 ⟨y1, rfl, g0, g1, g2⟩
        refine ⟨y1, rfl, g0, fun z2 => ?_, fun z2 => ?_⟩
        · obtain ⟨e32, he2, hf2⟩ := g1 z2
          refine ⟨e32, he2, hf2.mono ?_⟩
          rintro r2 s2 ⟨rfl, h3⟩
          exact ⟨rfl, fun s36 e36 => ⟨_, rfl, h3 s36 e36⟩⟩
        · obtain ⟨e37, he2, hf2⟩ := g2 z2
          refine ⟨e37, he2, hf2.mono ?_⟩
          rintro r2 s2 ⟨rfl, e41, he3, hf3⟩
          refine ⟨rfl, e41, he3, hf3.mono ?_⟩
          rintro r3 s3 ⟨y3, rfl, h4⟩
          exact ⟨y3, rfl, _, rfl, h4⟩
      refine ⟨fun z => z.elim, fun _ => ⟨fun _ => ⟨hH, 0, by omega, kc_isOver hH v1 v6 (fun c4 => ⟨fun z => absurd z (by decide), fun _ => ⟨_, rfl, ?_⟩⟩) (fun c4 => ⟨fun _ => ?_, fun z => absurd rfl z⟩)⟩, fun z => absurd hj z⟩⟩
      · exact rf _ (ac_isOver (by omega) v49 v6 (fun _ => ⟨fun z => absurd z (by decide), fun _ => ⟨rfl, hR⟩⟩) (fun z => by omega))
      · obtain ⟨κ1, g1, g3⟩ := dk.inject2 (X := X) (x2 := x2) (kd := j) ⟨n1, n2⟩ (v4 c4) (by omega) (by omega) (by omega)
        refine ⟨9, by omega, g1 _ ⟨11, by omega, g3 _ (fun κ' σ' V' al' S' LT' HT' sp' F0' z' st' fr' pt' w' dk' hb' rfi => ⟨0, by omega, kc_outcome ⟨_, rfl, rf _ ?_⟩⟩)⟩⟩
        have hR' : Rr (k + 1) κ' σ' := Or.inr ⟨κ0, σ0, b, V', al', S', LT', HT', sp', F0', z', st', fr', pt', w', p0, dk', by omega⟩
        refine ac_isOver (by omega) v49 v6 (fun z => by omega) (fun _ => ⟨fun _ => ⟨0, by omega, ac_failure (F0 := F0) dk.f88.1 (by have := dk.f88.2.1; omega) ?_⟩, fun z => absurd rfl z⟩)
        rw [vpn (by omega), cl_nI (by omega)]
        rcases rfi with ⟨z1, z2⟩ | ⟨z1, z2⟩
        · refine ⟨by omega, fun _ => ⟨0, by omega, z2.mono ?_⟩, fun z => absurd z1 z⟩
          rintro r0 s0 ⟨rfl, e1, e2⟩
          refine ⟨rfl, ?_⟩
          rintro s36 rfl
          exact ⟨e2, by rw [e1]; exact hR'⟩
        · refine ⟨by omega, fun z => absurd z z1, fun _ => ⟨62, by omega, z2.mono ?_⟩⟩
          rintro r0 s0 ⟨rfl, hg⟩
          refine ⟨rfl, 72, by omega, hg.mono ?_⟩
          rintro r1 s1 ⟨y1, rfl, e1, e2⟩
          exact ⟨y1, rfl, e1.symm, by rw [e2]; exact hR'⟩
    · have cj' : ∀ j, j ≤ 9 → x1 ≠ nI j := fun j hj e => cj ⟨j, hj, e⟩
      have out : K X 20 MX11_inject 35 [(0, vR 64), (1, vI (nI n)), (2, vI x1), (3, vI x2), (4, vR (1002 + 8 * n))] [] κ (kRI fun y κ' => AC X 92 80 MX13_inject [vR 92, vI (nI n), vI x1, vI x2] σ (aRI fun y' σ' => y = y' ∧ Rr (k + 1) κ' σ')) := k_11_inject_35 _ _ _ _ ⟨_, rfl, bad (fun _ _ _ _ => cj')⟩
      refine ⟨fun _ => out, fun c0 => ⟨fun c9 => ?_, fun _ => out⟩⟩
      obtain ⟨j, hj, rfl⟩ := nI_of c0
      rw [show ((9 : Int32)) = nI 9 from rfl, le_nI hj (by omega)] at c9
      exact absurd rfl (cj' j c9)
theorem close_ok (h : Rr k κ σ) (hk : k ≤ 1000) : P2I X MX11_close MX13_close [vI x0] κ σ (Rr (k + 1)) := by
  refine ⟨20, 80, by decide, by decide, ?_⟩
  rcases h.cases with ⟨p, hR⟩ | ⟨κ0, σ0, b, V, al, S, LT, HT, sp, F0, z, st, fr, pt, w, p0, p, dk, hb, hR⟩
  · exact KC_of_K rfl (Nat.le_of_ble_eq_true rfl) rfl (k_11_close_0 _ ⟨1, by omega, kc_plays0 p.2.2.2.1 ⟨fun _ => ⟨_, rfl, AC_of_A rfl (Nat.le_of_ble_eq_true rfl) rfl (a_close_0 _ ⟨0, by omega, ac_silent0 p.2.2.2.2 ⟨fun z => absurd z (by decide), fun _ => a_close_30 _ _ ⟨_, rfl, rfl, hR⟩⟩⟩)⟩, fun z => absurd rfl z⟩⟩)
  · obtain ⟨-, -, -, h5, h46⟩ := p
    have s7 := dk.stg.2.2.2.2.2.2.1
    have s15 := dk.stg.2.2.2.2.2.2.2.2.2.2.2.2.2.2
    have hV60 : V ≤ 60 := dk.stg.2.2.2.2.2.2.2.1
    refine KC_of_K rfl (Nat.le_of_ble_eq_true rfl) rfl (k_11_close_0 _ ⟨1, by omega, kc_plays1 h5 s7.1 s15 (fun z0 => ⟨fun z => absurd z (by decide), fun _ => ⟨0, by omega, ?_⟩⟩) (fun z1 => ⟨fun _ => ⟨_, rfl, AC_of_A rfl (Nat.le_of_ble_eq_true rfl) rfl (a_close_0 _ ⟨0, by omega, ac_silent1 h46 s7.2 s15 (fun z0 => by omega) (fun _ => ⟨fun z => absurd z (by decide), fun _ => a_close_30 _ _ ⟨_, rfl, rfl, hR⟩⟩)⟩)⟩, fun z => absurd rfl z⟩)⟩)
    subst z0
    refine kc_vc dk (fun n n1 n2 e => ?_) (fun hz => ⟨Or.inl rfl, fun _ => ⟨_, rfl, AC_of_A rfl (Nat.le_of_ble_eq_true rfl) rfl (a_close_0 _ ⟨0, by omega, ac_silent1 h46 s7.2 s15 (fun _ => ⟨fun _ => ⟨1, by omega, ac_vc dk (fun n n1 n2 e => (vno_no hV60 hz n n1 n2 e).elim) (fun _ => ⟨fun _ => a_close_30 _ _ ⟨_, rfl, rfl, hR⟩, fun z => absurd rfl z⟩)⟩, fun z => absurd rfl z⟩) (fun z1 => by omega)⟩)⟩, fun z => absurd rfl z⟩)
    subst e
    obtain ⟨hH, v0, v1, v49, v6, v4⟩ := dk.vst n n1 n2
    have rf : ∀ F : Int32 → Rm → Prop, (∃ e : Nat, e + 1 ≤ 80 ∧ AC X 92 e MX13_closes_ [vR 92, vI (nI n), vI 1] σ (aRI F)) → AC X 92 80 MX13_close [vR 92, vI (nI n)] σ (aRI F) := fun F hF => by
      obtain ⟨e, he, hF⟩ := hF
      refine AC_of_A rfl (Nat.le_of_ble_eq_true rfl) rfl (a_close_0 _ ⟨0, by omega, ac_silent1 h46 s7.2 s15 (fun _ => ⟨fun _ => ⟨1, by omega, ac_vc dk (fun n' _ _ _ => ⟨fun z => absurd z (by decide), fun _ => ⟨e, he, hF.mono ?_⟩⟩) (fun hz => (vno_no hV60 hz n n1 n2 rfl).elim)⟩, fun z => absurd rfl z⟩) (fun z1 => by omega)⟩)
      rintro r0 s0 ⟨y0, rfl, h0⟩
      exact ⟨y0, rfl, a_close_30 _ _ ⟨_, rfl, h0⟩⟩
    refine ⟨Or.inr hH.1, fun z => absurd z (by omega), fun _ => ⟨hH, 0, by omega, kc_isOver hH v1 v6 (fun c4 => ⟨fun z => absurd z (by decide), fun _ => ⟨_, rfl, rf _ ⟨1, by omega, ?_⟩⟩⟩) (fun c4 => ⟨fun _ => ?_, fun z => absurd rfl z⟩)⟩⟩
    · exact AC_of_A rfl (Nat.le_of_ble_eq_true rfl) rfl (a_closes__0 _ _ ⟨0, by omega, ac_isOver (by omega) v49 v6 (fun _ => ⟨fun z => absurd z (by decide), fun _ => ⟨_, rfl, rfl, hR⟩⟩) (fun z => by omega)⟩)
    · obtain ⟨κ1, g1, g3⟩ := dk.close2 (X := X) ⟨n1, n2⟩ (v4 c4) (by omega) (by omega)
      exact ⟨9, by omega, g1 _ ⟨11, by omega, g3 _ (fun κ' σ' V' al' S' LT' HT' sp' F0' z' st' fr' pt' w' dk' hb' adv => ⟨0, by omega, kc_outcome ⟨_, rfl, rf _ ⟨76, by omega, adv 1 _ ⟨rfl, Or.inr ⟨κ0, σ0, b, V', al', S', LT', HT', sp', F0', z', st', fr', pt', w', p0, dk', by omega⟩⟩⟩⟩⟩)⟩⟩
end INJOK
