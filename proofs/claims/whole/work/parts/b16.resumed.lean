/-! resume, of both -/
section RESUMED
variable {X : Cx} {d e : Nat} {κ0 κ κ1 κ' : Km} {σ0 σ σ1 σ' : Rm} {b V al S T sp z LT HT F0 n g k s m sc kn nw a0 j2 p : Nat} {st : Nat → Nat} {fr : Nat → List Frm} {pt : Nat → Nat} {w : Nat → Nat} {fs : List Frm} {x x0 x1 x2 y hi arg : Int32}
/-- the stage of a story that goes on -/
theorem Desk.stg (h : Desk κ0 σ0 κ σ b V al S LT HT sp F0 z st fr pt w) : Stg κ σ V al S 0 sp z := (h.bn (x := 0)).1.2.1
theorem Desk.vst (h : Desk κ0 σ0 κ σ b V al S LT HT sp F0 z st fr pt w) : ∀ n, 1 ≤ n → n ≤ V → isH κ (1002 + 8 * n) 10 ∧ kI κ (1002 + 8 * n) 0 = nI n ∧ kI κ (1002 + 8 * n) 1 = nI (st n) ∧ aI σ 49 n = nI (st n) ∧ st n ≤ 6 ∧ (st n < 4 → st n ≤ 1) := fun n n1 n2 => by
  obtain ⟨a, -, -⟩ := h.bn (x := 0)
  obtain ⟨v1, ⟨v2, v3, v4⟩, -⟩ := a.2.2.1 n n1 n2
  obtain ⟨h2, h3, -⟩ := h.hal.2 n n1 n2
  exact ⟨isH_voice n1 (by have := h.stg.2.2.2.2.2.2.2.2.1; omega), v1, v2, v3, v4, fun z => by omega⟩
/-- the reference finds the voice that is asked for -/
theorem ac_vc {F : Int32 → Rm → Prop} (dk : Desk κ0 σ0 κ σ b V al S LT HT sp F0 z st fr pt w) (q1 : ∀ n, 1 ≤ n → n ≤ V → x = nI n → F 1 σ) (q0 : (x < 1 ∨ nI V < x) → F 0 σ) : AC X 92 1 MX13_isVoice [vR 92, vI x] σ (aRI F) := ac_isVoice dk.stg.1.2 dk.stg.2.2.2.2.2.2.2.1 q1 q0
theorem kc_vc {F : Nat → Km → Prop} (dk : Desk κ0 σ0 κ σ b V al S LT HT sp F0 z st fr pt w) (q1 : ∀ n, 1 ≤ n → n ≤ V → x = nI n → F (1002 + 8 * n) κ) (q0 : (x < 1 ∨ nI V < x) → F 0 κ) : KC' X 0 MX6_find [vR 79, vI x] κ (kRR F) := kc_vfind dk.stg.1.1 dk.stg.2.2.2.2.2.2.2.1 dk.stg.2.2.2.2.2.2.2.2.1 q1 q0
theorem vno_no (hV : V ≤ 60) (hz : x < 1 ∨ nI V < x) : ∀ n, 1 ≤ n → n ≤ V → x = nI n → False := fun n n1 n2 e => by
  rw [e, litI 1, lt_nI (by omega) (by omega), lt_nI (by omega) (by omega)] at hz
  omega
/-- both give the turn to a voice that is ready -/
theorem Desk.res2 (dk : Desk κ0 σ0 κ σ b V al S LT HT sp F0 0 st fr pt w) (hn : 1 ≤ n ∧ n ≤ V) (hs : st n ≤ 1) (hB : HT + 1 + 2 * pot V S st fr ≤ 400000000) (hx : pot V S st fr ≤ 199000000) :
    ∃ κ1 σ1, (∀ F : Km → Prop, F κ1 → KC' X 7 MX6_deskResumes [vR 79, vR (1002 + 8 * n), vI x1] κ (kRV F)) ∧ (∀ P : Rm → Prop, P σ1 → AC X 92 3 MX13_goesTo [vR 92, vI 0, vI (nI n), vI x1] (wI σ 54 n 0) (aRV P)) ∧ ∀ F : Km → Prop, (∀ κ' σ' V' al' S' LT' HT' sp' F0' z' st' fr' pt' w', Desk κ0 σ0 κ' σ' b V' al' S' LT' HT' sp' F0' z' st' fr' pt' w' → kI κ' 79 15 = sI σ' 78 → HT' + 2 * pot V' S' st' fr' ≤ HT + 1 + 2 * pot V S st fr → (∀ G : Int32 → Rm → Prop, G (sI σ' 78) σ' → AC X 92 72 MX13_goes [vR 92] σ1 (aRI G)) → F κ') → KC' X 11 MX6_run [vR 79] κ1 (kRV F) := by
  obtain ⟨abn, ac, am⟩ := dk.bn (x := 0)
  obtain ⟨sc, arg, kn, nw, a0, j2, p, gk, gr, gb, gf, gp1, gp0⟩ := giv_of abn hn hs dk.hal.1 (am n hn.1 hn.2)
  obtain ⟨fs, gf1, gn⟩ := gf x1
  have hT : HT < 2000000000 := by omega
  have hV60 : V ≤ 60 := dk.stg.2.2.2.2.2.2.2.1
  have hH := (dk.vst n hn.1 hn.2).1
  have gk' : GivK κ0 (cI κ (1002 + 8 * n) 5 0) b HT n sp (st n) sc arg (fr n) := gk.tr (v := n + 1) (by omega) (fun g g1 g2 g3 g4 => kI_ne g4) (fun g _ _ => rfl) (by rw [kI_ne (by omega)]) (fun k k1 k2 => kI_nk k1) ⟨rfl, rfl⟩
  have gr' : GivR σ0 (wI σ 54 n 0) HT n p (st n) sc arg (fr n) := gr.tr (fun k k1 k2 k3 k4 k5 => aI_ne k2) (by rw [aI_ne (by decide)]) (fun z => (gr.2.2.2.1 z).cg1 (fun k k1 k2 => aI_ne (by omega)))
  obtain ⟨σ1, hgr, hgo⟩ := ac_exV (ac_goesTo (X := X) (fm0 := 0) (P := fun s => GvR (wI σ 54 n 0) s HT n p (st n) 0 fs) ⟨hn.1, by omega⟩ gr' gb gf1 hT (fun σ' hg => hg))
  have kg : KC' X 6 MX6_give [vR 79, vI 0, vR (1002 + 8 * n), vI x1] (cI κ (1002 + 8 * n) 5 0) (kRV fun κ' => GvC (cI κ (1002 + 8 * n) 5 0) κ' HT n sp (st n) 0 fs) := kc_give gk' gb gf1 hT (fun κ' hg => hg)
  obtain ⟨r1, κ1, hcr, rfl, hgc⟩ := kg
  refine ⟨κ1, σ1, fun F hF => KC_of_K rfl (Nat.le_of_ble_eq_true rfl) rfl (k_6_deskResumes_0 _ _ ⟨hH, ?_⟩), fun P hP => hgo P hP, fun F hF => ?_⟩
  · rintro κ2 rfl
    exact ⟨6, by omega, _, κ1, hcr, rfl, rfl, hF⟩
  · obtain ⟨sp', st', fr', pt', f', r', hR, hp⟩ := dk.turnTo hn hs gn gp1 (fun z => ⟨gp0 z, (gr.2.2.2.2 z).1, (gr.2.2.2.2 z).2.1⟩) hB hgc hgr
    exact run_both hR (by omega) (fun κ' σ' V' al' S' LT' HT' sp' F0' z' st'' fr'' pt'' w' dk' e15 hb adv => hF κ' σ' V' al' S' LT' HT' sp' F0' z' st'' fr'' pt'' w' dk' e15 (by omega) adv)
theorem resume_ok (h : Rr k κ σ) (hk : k ≤ 1000) : P2I X MX11_resume MX13_resume [vI x0, vI x1] κ σ (Rr (k + 1)) := by
  refine ⟨20, 80, by decide, by decide, ?_⟩
  rcases h.cases with ⟨p, hR⟩ | ⟨κ0, σ0, b, V, al, S, LT, HT, sp, F0, z, st, fr, pt, w, p0, p, dk, hb, hR⟩
  · exact KC_of_K rfl (Nat.le_of_ble_eq_true rfl) rfl (k_11_resume_0 _ _ ⟨1, by omega, kc_plays0 p.2.2.2.1 ⟨fun _ => ⟨_, rfl, AC_of_A rfl (Nat.le_of_ble_eq_true rfl) rfl (a_resume_0 _ _ ⟨0, by omega, ac_silent0 p.2.2.2.2 ⟨fun z => absurd z (by decide), fun _ => ⟨_, rfl, rfl, hR⟩⟩⟩)⟩, fun z => absurd rfl z⟩⟩)
  · obtain ⟨-, -, -, h5, h46⟩ := p
    have s7 := dk.stg.2.2.2.2.2.2.1
    have s15 := dk.stg.2.2.2.2.2.2.2.2.2.2.2.2.2.2
    have hV60 : V ≤ 60 := dk.stg.2.2.2.2.2.2.2.1
    refine KC_of_K rfl (Nat.le_of_ble_eq_true rfl) rfl (k_11_resume_0 _ _ ⟨1, by omega, kc_plays1 h5 s7.1 s15 (fun z0 => ⟨fun z => absurd z (by decide), fun _ => ⟨0, by omega, ?_⟩⟩) (fun z1 => ⟨fun _ => ⟨_, rfl, AC_of_A rfl (Nat.le_of_ble_eq_true rfl) rfl (a_resume_0 _ _ ⟨0, by omega, ac_silent1 h46 s7.2 s15 (fun z0 => by omega) (fun _ => ⟨fun z => absurd z (by decide), fun _ => ⟨_, rfl, rfl, hR⟩⟩)⟩)⟩, fun z => absurd rfl z⟩)⟩)
    subst z0
    refine kc_vc dk (fun n n1 n2 e => ?_) (fun hz => ⟨Or.inl rfl, fun _ => ⟨_, rfl, AC_of_A rfl (Nat.le_of_ble_eq_true rfl) rfl (a_resume_0 _ _ ⟨0, by omega, ac_silent1 h46 s7.2 s15 (fun _ => ⟨fun _ => ⟨1, by omega, ac_vc dk (fun n n1 n2 e => (vno_no hV60 hz n n1 n2 e).elim) (fun _ => ⟨fun _ => ⟨_, rfl, rfl, hR⟩, fun z => absurd rfl z⟩)⟩, fun z => absurd rfl z⟩) (fun z1 => by omega)⟩)⟩, fun z => absurd rfl z⟩)
    subst e
    obtain ⟨hH, v0, v1, v49, v6, v4⟩ := dk.vst n n1 n2
    refine ⟨Or.inr hH.1, fun z => absurd z (by omega), fun _ => ⟨hH, 0, by omega, kc_isOver hH v1 v6 (fun c4 => ⟨fun z => absurd z (by decide), fun _ => ⟨_, rfl, ?_⟩⟩) (fun c4 => ⟨fun _ => ?_, fun z => absurd rfl z⟩)⟩⟩
    · refine AC_of_A rfl (Nat.le_of_ble_eq_true rfl) rfl (a_resume_0 _ _ ⟨0, by omega, ac_silent1 h46 s7.2 s15 (fun _ => ⟨fun _ => ⟨1, by omega, ac_vc dk (fun n' _ _ _ => ⟨fun z => absurd z (by decide), fun _ => ⟨0, by omega, ac_isOver (by omega) v49 v6 (fun _ => ⟨fun z => absurd z (by decide), fun _ => ⟨_, rfl, rfl, hR⟩⟩) (fun z => by omega)⟩⟩) (fun hz => (vno_no hV60 hz n n1 n2 rfl).elim)⟩, fun z => absurd rfl z⟩) (fun z1 => by omega)⟩)
    · obtain ⟨κ1, σ1, g1, g2, g3⟩ := dk.res2 (X := X) (x1 := x1) ⟨n1, n2⟩ (v4 c4) (by omega) (by omega)
      refine ⟨7, by omega, g1 _ ⟨11, by omega, g3 _ (fun κ' σ' V' al' S' LT' HT' sp' F0' z' st' fr' pt' w' dk' e15 hb' adv => ⟨0, by omega, KC_of_K rfl (Nat.le_of_ble_eq_true rfl) rfl (k_6_outcome_0 ⟨_, rfl, ⟨_, rfl, ?_⟩⟩)⟩)⟩⟩
      refine AC_of_A rfl (Nat.le_of_ble_eq_true rfl) rfl (a_resume_0 _ _ ⟨0, by omega, ac_silent1 h46 s7.2 s15 (fun _ => ⟨fun _ => ⟨1, by omega, ac_vc dk (fun n' _ _ _ => ⟨fun z => absurd z (by decide), fun _ => ⟨0, by omega, ac_isOver (by omega) v49 v6 (fun z => by omega) (fun _ => ⟨fun _ => ?_, fun z => absurd rfl z⟩)⟩⟩) (fun hz => (vno_no hV60 hz n n1 n2 rfl).elim)⟩, fun z => absurd rfl z⟩) (fun z1 => by omega)⟩)
      rw [vpn (by omega), cl_nI (by omega)]
      refine ⟨by omega, ?_⟩
      rintro s20 rfl
      exact ⟨3, by omega, g2 _ ⟨72, by omega, adv _ ⟨_, rfl, e15, Or.inr ⟨κ0, σ0, b, V', al', S', LT', HT', sp', F0', z', st', fr', pt', w', p0, dk', by omega⟩⟩⟩⟩
end RESUMED
