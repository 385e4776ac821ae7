/-! a failure is thrown into another voice -/
section THROWN
variable {X : Cx} {d e er : Nat} {κ0 κ κa κb κh κ1 κ' : Km} {σ0 σ σa σh σr σ1 σ' : Rm} {b V al S T sp z LT HT F0 v p n x q g k s by0 : Nat} {st : Nat → Nat} {fr fr' : Nat → List Frm} {pt : Nat → Nat} {fs fs0 r rr : List Frm} {ch cr : List Nat} {w rz : Nat → Nat} {y y' u a num val vo pl ca : Int32} {f f1 f' : Frm} {C : Km → Prop} {P : Rm → Prop}
theorem wI_cm {k k' i i' : Nat} (h : k ≠ k') : wI (wI σ k i y) k' i' y' = wI (wI σ k' i' y') k i y := by
  refine Prod.ext ?_ rfl
  funext j l
  show (if j = k' ∧ l = i' then y' else if j = k ∧ l = i then y else σ.1 j l) = (if j = k ∧ l = i then y else if j = k' ∧ l = i' then y' else σ.1 j l)
  by_cases c : j = k' ∧ l = i'
  · rw [if_pos c, if_neg (fun z => h (z.1.symm.trans c.1)), if_pos c]
  · rw [if_neg c, if_neg c]
theorem cI_cm {h h' k k' : Nat} (c : h ≠ h') : cI (cI κ h k y) h' k' y' = cI (cI κ h' k' y') h k y := by
  refine Prod.ext ?_ rfl
  funext j l
  show (if j = h' ∧ l = k' then y' else if j = h ∧ l = k then y else κ.1 j l) = (if j = h ∧ l = k then y else if j = h' ∧ l = k' then y' else κ.1 j l)
  by_cases d : j = h' ∧ l = k'
  · rw [if_pos d, if_neg (fun z => c (z.1.symm.trans d.1)), if_pos d]
  · rw [if_neg d, if_neg d]
theorem flS_wI {k i : Nat} (hk : k < 88) : flS (wI σ k i y) F0 num val vo pl ca = wI (flS σ F0 num val vo pl ca) k i y := by
  unfold flS
  show wI (wI (wI (wI (wI (wI (wI (wI (wI (wI σ k i y) 88 0 (nI (F0 + 1))) 89 F0 num) 90 F0 val) 91 F0 vo) 92 F0 pl) 93 F0 ca) 94 F0 (-9)) 95 F0 (-9)) 96 F0 (-9) = wI (wI (wI (wI (wI (wI (wI (wI (wI (wI σ 88 0 (nI (F0 + 1))) 89 F0 num) 90 F0 val) 91 F0 vo) 92 F0 pl) 93 F0 ca) 94 F0 (-9)) 95 F0 (-9)) 96 F0 (-9)) k i y
  rw [wI_cm (k := k) (k' := 88) (by omega), wI_cm (k := k) (k' := 89) (by omega), wI_cm (k := k) (k' := 90) (by omega), wI_cm (k := k) (k' := 91) (by omega), wI_cm (k := k) (k' := 92) (by omega), wI_cm (k := k) (k' := 93) (by omega), wI_cm (k := k) (k' := 94) (by omega), wI_cm (k := k) (k' := 95) (by omega), wI_cm (k := k) (k' := 96) (by omega)]
/-- both throw a failure into n -/
theorem Bn.thrown {k : Nat} (h : Bn κ0 σ0 κ σ b V al S T sp z LT HT F0 st fr pt 0) (hn : 1 ≤ n ∧ n ≤ V) (hs : st n = 1) (hF : F0 < 7900) (hk : k ≤ 14) (hby : by0 ≤ V) (fc : FmC κ κb F0 (nI k) val vo pl (fm (-9))) (hd : HdC (cI κb 79 14 (nI (F0 + 1))) κh HT (nI by0) (nI n)) (hr : HdR (wI (flS σ F0 (nI k) val vo pl (-9)) 54 n (nI by0)) σh HT (nI by0) (nI n)) :
    Bn κ0 σ0 (cI (cI (cI κh 79 13 (nI n)) (1002 + 8 * n) 5 (nI by0)) (1002 + 8 * n) 1 2) (wI (wS σh 77 (nI n)) 49 n 2) b V al S n sp z LT (HT + 1) (F0 + 1) (un st n 2) fr pt 0 := by
  have a1 := (h.fmk hF hk (Or.inl rfl) fc).kx (g := 79) (k := 14) (y := nI (F0 + 1)) (Or.inl ⟨rfl, Or.inl rfl⟩)
  have a2 := a1.res (n := n) (y := nI by0) (Or.inr ⟨by0, hby, rfl⟩)
  have a3 := ((a2.hand (HdC.par (g := 1002 + 8 * n) (k := 5) (y := nI by0) (by omega) hd) hr).turn (T' := n) hn.2).sst (n := n) (s := 2) (by omega) (by omega)
  rw [cI_cm (show 1002 + 8 * n ≠ 79 by omega)] at a3
  exact a3
/-- the class: one at its yield -/
theorem kc_throwY {F : Km → Prop} {g : Nat → Int32} (hn : 1 ≤ n) (hkV : n ≤ kV κ) (h0 : kI κ (1002 + 8 * n) 0 = nI n) (h1 : kI κ (1002 + 8 * n) 1 = 1) (p : PrC κ 82 HT g) (hT : HT < 2000000000) (q : ∀ κh, HdC (cI κ 79 14 y) κh HT u (nI n) → F (cI (cI (cI κh 79 13 (nI n)) (1002 + 8 * n) 5 u) (1002 + 8 * n) 1 2)) : KC' X 5 MX6_throwInto [vR 79, vR (1002 + 8 * n), vI u, vI y] κ (kRV F) := by
  refine KC_of_K rfl (Nat.le_of_ble_eq_true rfl) rfl (k_6_throwInto_0 _ _ _ ?_)
  rintro κ1 rfl
  have e1 : kI (cI κ 79 14 y) (1002 + 8 * n) = kI κ (1002 + 8 * n) := kI_ne (by omega)
  rw [e1, h1, h0]
  refine ⟨isH_voice hn hkV, fun z => absurd z (by decide), fun _ => ⟨3, by omega, kc_hand (p.fr (kI_ne (by omega)) (kI_ne (by omega)) rfl) hT (fun κh hd => ?_)⟩⟩
  rw [(hd.1.1.1 (1002 + 8 * n) (by omega)).1, e1, h0]
  rintro κ20 rfl κ21 rfl κ22 rfl
  exact ⟨rfl, q κh hd⟩
/-- the class: one that is not begun, by a voice -/
theorem kc_throwN {F : Km → Prop} (a : Bn κ0 σ0 (cI κ 79 14 y) σ b V al S T sp z LT HT F0 st fr pt 0) (hn : 1 ≤ n ∧ n ≤ V) (hs : st n = 0) (hu : u ≠ 0) (q : F (enK (cI κ 79 14 y) n sp 5)) : KC' X 5 MX6_throwInto [vR 79, vR (1002 + 8 * n), vI u, vI y] κ (kRV F) := by
  refine KC_of_K rfl (Nat.le_of_ble_eq_true rfl) rfl (k_6_throwInto_0 _ _ _ ?_)
  rintro κ1 rfl
  have hkV : V ≤ kV κ := a.2.1.2.2.2.2.2.2.2.2.1
  obtain ⟨-, ⟨h1, -, -⟩, -⟩ := a.2.2.1 n hn.1 hn.2
  rw [h1, hs]
  refine ⟨isH_voice hn.1 (show n ≤ kV κ by omega), fun _ => ⟨2, by omega, kc_end a hn ⟨fun z => absurd z hu, fun _ => k_6_throwInto_26 _ _ _ ⟨rfl, q⟩⟩⟩, fun z => absurd rfl z⟩
/-- the reference -/
theorem ac_thrownInto {g : Nat → Int32} (hn : 1 ≤ n ∧ n ≤ 60) (hp : p < 12) (h58 : aI σ 58 n = nI p) (hf : q < 8000) (pr : PRr σ 83 84 85 HT g) (hT : HT < 2000000000) : ∃ σh, HdR (wI σ 54 n u) σh HT u (nI n) ∧ ∀ G, RaG X 60 n q p (wI (wS σh 77 (nI n)) 49 n 2) G → AC X 92 62 MX13_thrownInto [vR 92, vI u, vI (nI n), vI (nI q)] σ (aRV G) := by
  obtain ⟨σh, hd, hh⟩ := ac_exV (ac_hand (X := X) (F := fun s => HdR (wI σ 54 n u) s HT u (nI n)) (pr.fr (aI_ne (by decide)) (aI_ne (by decide)) (aI_ne (by decide))) hT (fun s hs => hs))
  refine ⟨σh, hd, fun G hG => AC_of_A rfl (Nat.le_of_ble_eq_true rfl) rfl (a_thrownInto_0 _ _ _ ?_)⟩
  rw [vpn (by omega), cl_nI (by omega)]
  refine ⟨by omega, ?_⟩
  rintro s2 rfl
  refine ⟨0, by omega, hh _ ?_⟩
  rintro s7 rfl
  refine ⟨by omega, ?_⟩
  rintro s9 rfl
  refine ⟨61, by omega, (ac_raise (X := X) (e := 60) (v := n) (g := q) (p := p) (d := 61) (G := G) hn ?_ (by omega) hG).mono ?_⟩
  · rw [aI_ne (by decide), aI_ne (by decide), (hd.1 58 (by decide)).1, aI_ne (by decide)]
    exact h58
  · rintro r0 s0 ⟨rfl, h⟩
    exact ⟨rfl, rfl, h⟩
end THROWN
