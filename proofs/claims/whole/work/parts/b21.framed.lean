/-! the calls of a voice, looked at from the desk; local -/
section FRAMED
variable {X : Cx} {d e : Nat} {κ0 κ κ1 κ' : Km} {σ0 σ σ1 σ' : Rm} {b V al S T sp z LT HT F0 n k s m p o j i sc : Nat} {st : Nat → Nat} {fr : Nat → List Frm} {pt : Nat → Nat} {w : Nat → Nat} {x x0 x1 x2 y hi : Int32} {c : Nat → Int32}
/-- a call within others -/
theorem drop_at : ∀ (fs : List Frm) (j : Nat) (f : Frm) (r : List Frm), fs.drop j = f :: r → fs.drop (j + 1) = r ∧ f ∈ fs ∧ r.length + j + 1 = fs.length ∧ (FsC c o fs → FsC c o (f :: r)) ∧ tsz o (f :: r) ≤ tsz o fs ∧ (FsR σ p fs → FrR σ p r.length (gcs r) (ocs r) f) := by
  intro fs
  induction fs with
  | nil =>
    intro j f r h
    have h0 : ([] : List Frm).drop j = [] := List.drop_nil
    rw [h0] at h
    exact absurd h (by intro h; cases h)
  | cons g t ih =>
    intro j f r h
    cases j with
    | zero =>
      have h : g :: t = f :: r := h
      obtain ⟨rfl, rfl⟩ := List.cons.inj h
      exact ⟨rfl, List.mem_cons_self .., rfl, fun h => h, Nat.le_refl _, fun h => h.2⟩
    | succ k =>
      have h : t.drop k = f :: r := h
      obtain ⟨h1, h2, h3, h4, h5, h6⟩ := ih k f r h
      refine ⟨h1, List.mem_cons_of_mem _ h2, ?_, fun q => h4 q.1, ?_, fun q => h6 q.1⟩
      · show r.length + (k + 1) + 1 = t.length + 1
        omega
      · show tsz o (f :: r) ≤ tsz o t + fsz g
        omega
theorem drop_ex (fs : List Frm) (hj : j < fs.length) : ∃ f r, fs.drop j = f :: r := by
  cases h : fs.drop j with
  | nil =>
    have := congrArg List.length h
    rw [List.length_drop] at this
    have : fs.length - j = 0 := this
    omega
  | cons f r => exact ⟨f, r, rfl⟩
/-- the calls of a voice in both -/
theorem Desk.frames (dk : Desk κ0 σ0 κ σ b V al S LT HT sp F0 z st fr pt w) (hn : 1 ≤ n ∧ n ≤ V) (hne : fr n ≠ []) : ∃ B : Nat → Nat, kI κ (1002 + 8 * n) 14 = nI (B 0) ∧ (pt n < 12 ∧ aI σ 58 n = nI (pt n) ∧ aI σ 60 (pt n) = nI (fr n).length ∧ (fr n).length ≤ 60) ∧ ∀ j, j < (fr n).length → B j ≤ 40000 ∧ ∃ f : Frm, (frN f ≤ 12 ∧ frB f < 12 ∧ aI σ 21 (frB f) = nI (frN f)) ∧ ((∀ F : Int32 → Km → Prop, F (nI (frN f)) κ → KC' X 0 MX10_cell [vR (1002 + 8 * n), vI (nI (B j))] κ (kRI F)) ∧ (∀ F : Int32 → Km → Prop, F (nI (B (j + 1))) κ → KC' X 0 MX10_cell [vR (1002 + 8 * n), vI (nI (B j + 2))] κ (kRI F)) ∧ ∀ i, i < frN f → ∀ F : Int32 → Km → Prop, F (frV f i) κ → KC' X 0 MX10_cell [vR (1002 + 8 * n), vI (nI (B j + 4 + i))] κ (kRI F)) ∧ aI σ 61 (60 * pt n + ((fr n).length - 1 - j)) = nI (frB f) ∧ ∀ i, i < frN f → aI σ 66 (40 * (60 * pt n + ((fr n).length - 1 - j)) + i) = frV f i := by
  obtain ⟨a, -, md⟩ := dk.bn (x := 0)
  rcases a.2.2.2.2.2.2 n hn.1 hn.2 with ⟨h1, -⟩ | ⟨h1, h2, h3, h4⟩
  · exact absurd h1 hne
  have vr : VR σ n (pt n) (fr n) := h3.elim id (fun z => absurd z.1 (by omega))
  obtain ⟨⟨q1, q2, q3, q4⟩, q5, ⟨q6, -, -⟩, q8⟩ := vr
  obtain ⟨c, o, o1, fc, vc⟩ := h2
  have fo : ∀ f, f ∈ fr n → frB f < b ∧ aI σ0 21 (frB f) = nI (frN f) := by
    rcases md n hn.1 hn.2 with ⟨-, z⟩ | ⟨-, m, mf, -⟩
    · exact absurd z hne
    · intro f hf
      cases hfs : fr n with
      | nil => exact absurd hfs hne
      | cons g t =>
        rw [hfs] at mf hf
        rcases List.mem_cons.mp hf with e | hf
        · rw [e]; exact ⟨mf.2.1.1, mf.2.1.2.1⟩
        · exact ⟨(mf.2.2 f hf).2.1, (mf.2.2 f hf).2.2.1⟩
  have hb12 : b ≤ 12 := dk.bod.1.2.2.2.1
  have e21 : ∀ i, aI σ 21 i = aI σ0 21 i := fun i => by rw [(a.1.1.2.2 21 (by omega) (by omega)).1]
  have wid := (a.2.2.2.2.2.2 n hn.1 hn.2).wid.2 hne
  have ht : tsz o (fr n) ≤ 40000 := by
    have := vc.2.2.1.1
    rw [← cel3] at this
    omega
  refine ⟨fun j => bse o ((fr n).drop j), vc.2.1.2.1, ⟨q1, q5, q6, q4⟩, fun j hj => ?_⟩
  obtain ⟨f, r, hd⟩ := drop_ex (fr n) hj
  obtain ⟨d1, d2, d3, d4, d5, d6⟩ := drop_at (c := c) (o := o) (σ := σ) (p := pt n) (fr n) j f r hd
  obtain ⟨fc1, ⟨y1, y2, y3, y4⟩, y5, y6, y7⟩ := d4 fc
  obtain ⟨⟨z1, z2, z3, z4, z5⟩, ⟨w1, w2, w3, w4, w5⟩, w6, w7, w8⟩ := d6 q8
  have eB : bse o ((fr n).drop j) = tsz o r := by rw [hd]; rfl
  have eB1 : bse o ((fr n).drop (j + 1)) = bse o r := by rw [d1]
  have ef : fsz f = 4 + frN f + psz (frL f) + (frO f).length := rfl
  have et : tsz o (f :: r) = tsz o r + fsz f := rfl
  have el : (fr n).length - 1 - j = r.length := by omega
  dsimp only
  rw [eB, eB1, el]
  refine ⟨by omega, f, ⟨z1, by have := (fo f d2).1; omega, by rw [e21]; exact (fo f d2).2⟩, ⟨fun F hF => ?_, fun F hF => ?_, fun i hi F hF => ?_⟩, w1, w6⟩
  · exact kc_vcell vc (by omega) (by rw [y1]; exact hF)
  · exact kc_vcell vc (by omega) (by rw [y3]; exact hF)
  · exact kc_vcell vc (by omega) (by rw [y5 i hi]; exact hF)
/-- the class finds the frame of a call -/
theorem kc_frameOf {F : Int32 → Km → Prop} {B : Nat → Nat} (hH : isH κ (1002 + 8 * n) 10) (h8 : kI κ (1002 + 8 * n) 8 = nI m) (hm : m ≤ 60) (h14 : m ≠ 0 → kI κ (1002 + 8 * n) 14 = nI (B 0)) (hB : ∀ j, j < m → B j ≤ 40000 ∧ ∀ F : Int32 → Km → Prop, F (nI (B (j + 1))) κ → KC' X 0 MX10_cell [vR (1002 + 8 * n), vI (nI (B j + 2))] κ (kRI F)) (q1 : ∀ j, j < m → x = nI j → F (nI (B j)) κ) (q0 : (∀ j, j < m → x ≠ nI j) → F (-9) κ) : KC' X 1 MX10_frameOf [vR (1002 + 8 * n), vI x] κ (kRI F) := by
  have no : (∀ j, j < m → x ≠ nI j) → K X 1 MX10_frameOf 12 [(0, vR (1002 + 8 * n)), (1, vI x)] [] κ (kRI F) := fun h => k_10_frameOf_12 _ _ ⟨_, rfl, q0 h⟩
  refine KC_of_K rfl (Nat.le_of_ble_eq_true rfl) rfl (k_10_frameOf_0 _ _ ⟨fun c => no (fun j hj e => nI_pos (by omega) (e ▸ c)), fun c => ⟨hH, ?_⟩⟩)
  obtain ⟨t, ht, rfl⟩ := nI_of c
  rw [h8, lt_nI ht (by omega)]
  refine ⟨fun c1 => ?_, fun c1 => no (fun j hj e => by rw [eq_nI ht (by omega)] at e; omega)⟩
  rw [h14 (by omega)]
  have loop : ∀ r i, i + r = t → K X 1 MX10_frameOf 22 [(0, vR (1002 + 8 * n)), (1, vI (nI t)), (2, vI (nI (B i))), (3, vI (nI i))] [] κ (kRI F) := by
    intro r
    induction r with
    | zero =>
      intro i hi
      have e : i = t := by omega
      subst e
      refine k_10_frameOf_22 _ _ _ _ ⟨fun _ => ⟨_, rfl, q1 i c1 rfl⟩, fun z => absurd (Int32.le_refl _) z⟩
    | succ r ih =>
      intro i hi
      refine k_10_frameOf_22 _ _ _ _ ?_
      rw [le_nI (by omega) (by omega), litI 2, nI_add, nI_1]
      exact ⟨fun z => absurd z (by omega), fun _ => ⟨hH, 0, by omega, (hB i (by omega)).2 _ (ih (i + 1) (by omega))⟩⟩
  exact loop t 0 (by omega)
theorem local_ok (h : Rr k κ σ) : P2I X MX11_local MX13_local [vI x0, vI x1, vI x2] κ σ (Rr (k + 1)) := by
  refine ⟨10, 10, by decide, by decide, ?_⟩
  rcases h.cases with ⟨p, hR⟩ | ⟨κ0, σ0, b, V, al, S, LT, HT, sp, F0, z, st, fr, pt, w, p0, p, dk, hb, hR⟩
  · exact KC_of_K rfl (Nat.le_of_ble_eq_true rfl) rfl (k_11_local_0 _ _ _ ⟨fun _ => ⟨_, rfl, AC_of_A rfl (Nat.le_of_ble_eq_true rfl) rfl (a_local_0 _ _ _ ⟨fun _ => ⟨_, rfl, rfl, hR⟩, fun z => absurd p.2.2.2.2 z⟩)⟩, fun z => absurd p.2.2.2.1 z⟩)
  · obtain ⟨-, -, -, h5, h46⟩ := p
    have hV60 : V ≤ 60 := dk.stg.2.2.2.2.2.2.2.1
    refine KC_of_K rfl (Nat.le_of_ble_eq_true rfl) rfl (k_11_local_0 _ _ _ ⟨fun z => absurd (h5.symm.trans z) (by decide), fun _ => ⟨0, by omega, kc_vc dk (fun n n1 n2 e => ?_) (fun hz => ⟨Or.inl rfl, fun _ => ⟨_, rfl, AC_of_A rfl (Nat.le_of_ble_eq_true rfl) rfl (a_local_0 _ _ _ ⟨fun z => absurd (h46.symm.trans z) (by decide), fun _ => ⟨1, by omega, ac_vc dk (fun n n1 n2 e => (vno_no hV60 hz n n1 n2 e).elim) (fun _ => ⟨fun _ => ⟨_, rfl, rfl, hR⟩, fun z => absurd rfl z⟩)⟩⟩)⟩, fun z => absurd rfl z⟩)⟩⟩)
    subst e
    obtain ⟨hH, v0, v1, v49, v6, v4⟩ := dk.vst n n1 n2
    obtain ⟨-, -, ⟨sc, c1, c2, c3, c4⟩, v3, -⟩ := (dk.bn (x := 0)).1.2.2.1 n n1 n2
    obtain ⟨⟨t1, t2, t3, t4, t5⟩, tb⟩ := dk.bod
    obtain ⟨s, kn, nv, q1, q2, q3, ⟨w1, w2, w3, w4⟩, ⟨u1, u2, u3⟩, u4⟩ := tb sc c1
    have vj : vp_in (nI n) 61 := by rw [vpn (by omega)]; omega
    refine ⟨Or.inr hH.1, fun z => absurd z (by omega), fun _ => ⟨hH, ?_⟩⟩
    rw [v1, litI 0, eq_nI (by omega) (by omega)]
    refine ⟨fun s0 => ?_, fun s1 => ?_⟩
    · -- it is not begun
      have rf : ∀ F : Int32 → Rm → Prop, (x1 = 0 → x2 = 0 → 0 < kn → F (aI σ 51 n) σ) → (¬ (x1 = 0 ∧ x2 = 0 ∧ 0 < kn) → F (-1) σ) → AC X 92 10 MX13_local [vR 92, vI (nI n), vI x1, vI x2] σ (aRI F) := fun F f1 f0 => by
        have no : ¬ (x1 = 0 ∧ x2 = 0 ∧ 0 < kn) → A X 92 10 MX13_local 60 [(0, vR 92), (1, vI (nI n)), (2, vI x1), (3, vI x2)] [] σ (aRI F) := fun hz => a_local_60 _ _ _ (a_local_61 _ _ _ _ ⟨_, rfl, f0 hz⟩)
        refine AC_of_A rfl (Nat.le_of_ble_eq_true rfl) rfl (a_local_0 _ _ _ ⟨fun z => absurd (h46.symm.trans z) (by decide), fun _ => ⟨1, by omega, ac_vc dk (fun n' _ _ _ => ⟨fun z => absurd z (by decide), fun _ => ?_⟩) (fun hz => (vno_no hV60 hz n n1 n2 rfl).elim)⟩⟩)
        rw [cl_nI (by omega), v49, c3, cl_nI (by omega), u2, vpn (a := sc) (by omega)]
        refine ⟨vj, fun _ => ⟨fun a1 => ⟨fun a2 => ⟨vj, by omega, fun a3 => no (fun z => ?_), fun a3 => ⟨vj, a_local_61 _ _ _ _ ⟨_, rfl, f1 a1 a2 ?_⟩⟩⟩, fun a2 => no (fun z => a2 z.2.1)⟩, fun a1 => no (fun z => a1 z.1)⟩, fun z => absurd (by rw [s0]; rfl) z⟩
        · rw [litI 0, le_nI (by omega) (by omega)] at a3
          omega
        · rw [litI 0, le_nI (by omega) (by omega)] at a3
          omega
      have no : ¬ (x1 = 0 ∧ x2 = 0 ∧ 0 < kn) → K X 10 MX11_local 60 [(0, vR 64), (1, vI (nI n)), (2, vI x1), (3, vI x2), (4, vR (1002 + 8 * n))] [] κ (kRI fun y κ' => AC X 92 10 MX13_local [vR 92, vI (nI n), vI x1, vI x2] σ (aRI fun y' σ' => y = y' ∧ Rr (k + 1) κ' σ')) := fun hz => k_11_local_60 _ _ _ _ (k_11_local_61 _ _ _ _ _ ⟨_, rfl, rf _ (fun a1 a2 a3 => absurd ⟨a1, a2, a3⟩ hz) (fun _ => ⟨rfl, hR⟩)⟩)
      refine ⟨fun a1 => ⟨fun a2 => ⟨2, by omega, KC_of_K rfl (Nat.le_of_ble_eq_true rfl) rfl (k_11_hasArgument_0 _ ⟨hH, 0, by omega, ?_⟩)⟩, fun a2 => no (fun z => a2 z.2.1)⟩, fun a1 => no (fun z => a1 z.1)⟩
      rw [c2]
      have hbd : isH κ (1000 + 8 * sc) 0 := isH_body (by omega)
      refine kc_sat t1 t4 c1 t5 ⟨Or.inr hbd.1, fun z => absurd z (by omega), fun _ => ⟨hbd, ?_⟩⟩
      rw [w2, litI 0, le_nI (by omega) (by omega)]
      refine ⟨fun a3 => k_11_hasArgument_27 _ _ (k_11_hasArgument_28 _ _ _ ⟨Or.inl rfl, _, rfl, fun _ => no (fun z => by omega), fun z => absurd rfl z⟩), fun a3 => k_11_hasArgument_28 _ _ _ ⟨Or.inr rfl, _, rfl, fun z => absurd z (by decide), fun _ => k_11_local_61 _ _ _ _ _ ⟨_, rfl, rf _ (fun _ _ _ => ⟨v3, hR⟩) (fun z => absurd ⟨a1, a2, by omega⟩ z)⟩⟩⟩
    · -- its calls
      obtain ⟨d1, d2, d3⟩ := dk.many (X := X) ⟨n1, n2⟩
      have bad : (∀ j, j < (fr n).length → x1 ≠ nI j) → AC X 92 10 MX13_local [vR 92, vI (nI n), vI x1, vI x2] σ (aRI fun y' σ' => (-1 : Int32) = y' ∧ Rr (k + 1) κ σ') := fun hj => by
        refine AC_of_A rfl (Nat.le_of_ble_eq_true rfl) rfl (a_local_0 _ _ _ ⟨fun z => absurd (h46.symm.trans z) (by decide), fun _ => ⟨1, by omega, ac_vc dk (fun n' _ _ _ => ⟨fun z => absurd z (by decide), fun _ => ?_⟩) (fun hz => (vno_no hV60 hz n n1 n2 rfl).elim)⟩⟩)
        rw [cl_nI (by omega), v49, litI 0, eq_nI (by omega) (by omega)]
        exact ⟨vj, fun z => absurd z s1, fun _ => ⟨0, by omega, d3 _ ⟨0, by omega, ac_inC rfl (by omega) (fun j hj' e => absurd e (hj j hj')) (fun _ => ⟨fun _ => ⟨_, rfl, rfl, hR⟩, fun z => absurd rfl z⟩)⟩⟩⟩
      have out : ∀ y24 : Int32, AC X 92 10 MX13_local [vR 92, vI (nI n), vI x1, vI x2] σ (aRI fun y' σ' => (-1 : Int32) = y' ∧ Rr (k + 1) κ σ') → K X 10 MX11_local 85 [(0, vR 64), (1, vI (nI n)), (2, vI x1), (3, vI x2), (4, vR (1002 + 8 * n)), (5, vI y24)] [] κ (kRI fun y κ' => AC X 92 10 MX13_local [vR 92, vI (nI n), vI x1, vI x2] σ (aRI fun y' σ' => y = y' ∧ Rr (k + 1) κ' σ')) := fun y24 hbad => k_11_local_85 _ _ _ _ _ (k_11_local_97 _ _ _ _ _ _ ⟨_, rfl, hbad⟩)
      -- none such
      have none : (∀ j, j < (fr n).length → x1 ≠ nI j) → (x2 < 0 → K X 10 MX11_local 85 [(0, vR 64), (1, vI (nI n)), (2, vI x1), (3, vI x2), (4, vR (1002 + 8 * n)), (5, vI (-9))] [] κ (kRI fun y κ' => AC X 92 10 MX13_local [vR 92, vI (nI n), vI x1, vI x2] σ (aRI fun y' σ' => y = y' ∧ Rr (k + 1) κ' σ'))) ∧ (¬ x2 < 0 → ∃ e28 : Nat, e28 + 1 ≤ 10 ∧ KC' X e28 MX10_variablesOf [vR (1002 + 8 * n), vI (-9)] κ (kRI fun y31 κ32 => ((x2 < y31 → ∃ e35 : Nat, e35 + 1 ≤ 10 ∧ KC' X e35 MX10_variable [vR (1002 + 8 * n), vI (-9), vI x2] κ32 (kRI fun y38 κ39 => K X 10 MX11_local 97 [(0, vR 64), (1, vI (nI n)), (2, vI x1), (3, vI x2), (4, vR (1002 + 8 * n)), (5, vI (-9))] [vI y38] κ39 (kRI fun y κ' => AC X 92 10 MX13_local [vR 92, vI (nI n), vI x1, vI x2] σ (aRI fun y' σ' => y = y' ∧ Rr (k + 1) κ' σ')))) ∧ (¬ x2 < y31 → K X 10 MX11_local 85 [(0, vR 64), (1, vI (nI n)), (2, vI x1), (3, vI x2), (4, vR (1002 + 8 * n)), (5, vI (-9))] [] κ32 (kRI fun y κ' => AC X 92 10 MX13_local [vR 92, vI (nI n), vI x1, vI x2] σ (aRI fun y' σ' => y = y' ∧ Rr (k + 1) κ' σ')))))) := fun hj => ⟨fun _ => out _ (bad hj), fun c0 => ⟨0, by omega, KC_of_K rfl (Nat.le_of_ble_eq_true rfl) rfl (k_10_variablesOf_0 _ _ ⟨fun z => absurd z (by decide), fun _ => k_10_variablesOf_13 _ _ _ ⟨_, rfl, fun z => absurd z c0, fun _ => out _ (bad hj)⟩⟩)⟩⟩
      by_cases hne : fr n = []
      · have hl : ∀ j, j < (fr n).length → x1 ≠ nI j := fun j hj => by rw [hne] at hj; exact absurd hj (Nat.not_lt_zero _)
        exact ⟨1, by omega, kc_frameOf (B := fun _ => 0) hH d1 d2 (fun z => absurd (by rw [hne]; rfl) z) (fun j hj => by rw [hne] at hj; exact absurd hj (Nat.not_lt_zero _)) (fun j hj e => absurd e (hl j hj)) (fun _ => none hl)⟩
      · obtain ⟨B, b1, ⟨b2, b3, b4, b5⟩, fb⟩ := dk.frames (X := X) ⟨n1, n2⟩ hne
        refine ⟨1, by omega, kc_frameOf (B := B) hH d1 d2 (fun _ => b1) (fun j hj => by
          obtain ⟨g1, f, -, ⟨-, g2, -⟩, -⟩ := fb j hj
          exact ⟨g1, g2⟩) (fun j hj e => ?_) (fun hl => none hl)⟩
        subst e
        obtain ⟨g1, f, ⟨f1, f2, f3⟩, ⟨g2, g3, g4⟩, g5, g6⟩ := fb j hj
        -- the reference, up to its variables
        have e1 : ((60 : Int32) * nI (pt n) + nI (fr n).length) - 1 - nI j = nI (60 * pt n + ((fr n).length - 1 - j)) := by
          rw [litI 60, pk_mul, nI_add, litI 1, nI_sb (by omega), nI_sb (by omega)]
          congr 1
          omega
        have rf : ∀ F : Int32 → Rm → Prop, (∀ i, i < frN f → x2 = nI i → F (frV f i) σ) → ((∀ i, i < frN f → x2 ≠ nI i) → F (-1) σ) → AC X 92 10 MX13_local [vR 92, vI (nI n), vI (nI j), vI x2] σ (aRI F) := fun F h1 h0 => by
          refine AC_of_A rfl (Nat.le_of_ble_eq_true rfl) rfl (a_local_0 _ _ _ ⟨fun z => absurd (h46.symm.trans z) (by decide), fun _ => ⟨1, by omega, ac_vc dk (fun n' _ _ _ => ⟨fun z => absurd z (by decide), fun _ => ?_⟩) (fun hz => (vno_no hV60 hz n n1 n2 rfl).elim)⟩⟩)
          rw [cl_nI (by omega), v49, litI 0, eq_nI (by omega) (by omega)]
          refine ⟨vj, fun z => absurd z s1, fun _ => ⟨0, by omega, d3 _ ⟨0, by omega, ac_inC rfl (by omega) (fun j' hj' e' => ⟨fun z => absurd z (by decide), fun _ => ?_⟩) (fun hz => (hz j hj rfl).elim)⟩⟩⟩
          rw [b3, cl_nI (n := pt n) (by omega), b4, e1, vpn (a := pt n) (by omega), vpn (a := 60 * pt n + ((fr n).length - 1 - j)) (by omega), cl_nI (n := 60 * pt n + ((fr n).length - 1 - j)) (by omega), g5, vpn (a := frB f) (by omega), cl_nI (n := frB f) (by omega), f3]
          refine ⟨vj, vj, b2, by omega, f2, 0, by omega, ac_inC rfl (by omega) (fun i hi e2 => ⟨fun z => absurd z (by decide), fun _ => ?_⟩) (fun hz => ⟨fun _ => a_local_144 _ _ _ _ _ ⟨_, rfl, h0 hz⟩, fun z => absurd rfl z⟩)⟩
          subst e2
          have e40 : (40 : Int32) * nI (60 * pt n + ((fr n).length - 1 - j)) + nI i = nI (40 * (60 * pt n + ((fr n).length - 1 - j)) + i) := by rw [litI 40, pk_mul, nI_add]
          rw [e40, vpn (by omega), cl_nI (by omega), g6 i hi]
          exact ⟨by omega, a_local_144 _ _ _ _ _ ⟨_, rfl, h1 i hi rfl⟩⟩
        refine ⟨fun c0 => out _ (rf _ (fun i hi e => absurd (e ▸ c0) (nI_pos (by omega))) (fun _ => ⟨rfl, hR⟩)), fun c0 => ⟨1, by omega, KC_of_K rfl (Nat.le_of_ble_eq_true rfl) rfl (k_10_variablesOf_0 _ _ ⟨fun _ => ⟨hH, 0, by omega, g2 _ (k_10_variablesOf_13 _ _ _ ⟨_, rfl, ?_⟩)⟩, fun z => absurd (nI_pos' (by omega)) z⟩)⟩⟩
        obtain ⟨i, hi, rfl⟩ := nI_of c0
        rw [lt_nI hi (by omega)]
        refine ⟨fun c1 => ⟨1, by omega, KC_of_K rfl (Nat.le_of_ble_eq_true rfl) rfl (k_10_variable_0 _ _ _ ⟨hH, 0, by omega, ?_⟩)⟩, fun c1 => out _ (rf _ (fun i' hi' e => by rw [eq_nI hi (by omega)] at e; omega) (fun _ => ⟨rfl, hR⟩))⟩
        rw [litI 4, nI_add, nI_add]
        refine g4 i c1 _ ⟨_, rfl, k_11_local_97 _ _ _ _ _ _ ⟨_, rfl, rf _ (fun i' hi' e => ?_) (fun hz => (hz i c1 rfl).elim)⟩⟩
        have ei : i = i' := by rw [eq_nI hi (by omega)] at e; exact e
        rw [ei]
        exact ⟨rfl, hR⟩
end FRAMED
