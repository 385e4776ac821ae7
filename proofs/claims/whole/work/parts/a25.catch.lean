/-! catches: which one takes a failure, in both -/
/-- a catch takes a number -/
def Mt (σ : Rm) (N : Int32) (c : Nat) : Prop := N ≠ 14 ∧ (aI σ 30 c = -9 ∨ aI σ 30 c = N)
section CATCH
variable {X : Cx} {κ κ0 : Km} {σ σ0 σ' : Rm} {n p b i j nv s md b' i' j' s' md' t t' h h0 ph m : Nat} {pl x x' N : Int32} {vs : Nat → Int32} {L0 Es : List Ite} {O : List Int32} {r : List Frm} {W : Pt → Prop} {L : List Itm}
/-- the reference looks at all catches; one takes it -/
theorem caught_loop {F : Int32 → Rm → Prop} {g f C cn v cc jc d : Nat} (h34 : sI σ 34 = nI C) (hC : C ≤ 1000) (hg : g < 18000) (h69 : aI σ 69 g = nI t) (ht : t < 1000) (hf : f < 8000) (hd : d < 720) (hcn : cn < C) (h45 : aI σ 45 cn = nI t) (hm : Mt σ (aI σ 89 f) cn) (hn : ∀ k, k < cn → aI σ 45 k = nI t → ¬ Mt σ (aI σ 89 f) k) (h31 : aI σ 31 cn = nI v) (hv : v < 40) (h33 : aI σ 33 cn = nI cc) (hcc : cc < 25) (h32 : aI σ 32 cn = nI jc) (h58 : aI σ 58 n = nI p) (hp : p < 12) (hn60 : n ≤ 60)
    (q : F 1 (wI (wI (wI (wI (wI σ 70 g 1) 66 (40 * d + v) (aI σ 90 f)) 67 (25 * d + cc) (nI f)) 62 d (nI jc)) 73 p (aI σ 65 d))) : ∀ (r k : Nat), k + r = cn → A X 92 0 MX13_isCaught 3 [(0, vR 92), (1, vI (nI n)), (2, vI (nI d)), (3, vI (nI g)), (4, vI (nI f)), (5, vI (nI k))] [] σ (aRI F) := by
  intro r
  induction r with
  | zero =>
    intro k hk
    have e : k = cn := by omega
    subst e
    refine a_isCaught_3 _ _ _ _ _ ?_
    rw [h34, le_nI (by omega) (by omega), vpn (by omega), vpn (by omega), vpn (by omega), cl_nI (by omega), cl_nI (by omega), cl_nI (by omega), h45, h69]
    have fin : A X 92 0 MX13_isCaught 69 [(0, vR 92), (1, vI (nI n)), (2, vI (nI d)), (3, vI (nI g)), (4, vI (nI f)), (5, vI (nI k))] [] σ (aRI F) := by
      refine a_isCaught_69 _ _ _ _ _ (a_isCaught_74 _ _ _ _ _ _ ⟨fun z => absurd z (by decide), fun _ => ?_⟩)
      rw [vpn (by omega), cl_nI (by omega)]
      refine ⟨hg, ?_⟩
      rintro s3 rfl
      rw [vpn (by omega), vpn (by omega), cl_nI (by omega), aI_ne (by decide), h31, litI 40, pk_mul, nI_add, vpn (by omega)]
      refine ⟨by omega, hf, by omega, ?_⟩
      rintro s7 rfl
      rw [cl_nI (by omega), cl_nI (by omega), aI_ne (k := 70) (k' := 90) (by decide), aI_ne (by decide), aI_ne (by decide), h33, litI 25, pk_mul, nI_add, vpn (by omega), cl_nI (by omega)]
      refine ⟨by omega, by omega, ?_⟩
      rintro s10 rfl
      rw [vpn (by omega), cl_nI (by omega), aI_ne (by decide), aI_ne (by decide), aI_ne (by decide), h32]
      refine ⟨by omega, hd, ?_⟩
      rintro s13 rfl
      rw [vpn (by omega), cl_nI (by omega), aI_ne (by decide), aI_ne (by decide), aI_ne (by decide), aI_ne (by decide), h58, vpn (by omega), cl_nI (by omega), aI_ne (by decide), aI_ne (by decide), aI_ne (by decide), aI_ne (by decide)]
      refine ⟨by omega, hd, hp, ?_⟩
      rintro s17 rfl
      exact ⟨_, rfl, q⟩
    refine ⟨fun z => absurd z (by omega), fun _ => ⟨by omega, hg, fun _ => ⟨hf, fun z => absurd z hm.1, fun _ => ⟨by omega, fun _ => fin, fun z => ⟨by omega, hf, fun _ => fin, fun z2 => ?_⟩⟩⟩, fun z => absurd rfl z⟩⟩
    exact absurd hm.2 (by rintro (y | y); exact z y; exact z2 y)
  | succ r ih =>
    intro k hk
    refine a_isCaught_3 _ _ _ _ _ ?_
    rw [h34, le_nI (by omega) (by omega), vpn (by omega), vpn (by omega), vpn (by omega), cl_nI (by omega), cl_nI (by omega), cl_nI (by omega), h69]
    have go : A X 92 0 MX13_isCaught 73 [(0, vR 92), (1, vI (nI n)), (2, vI (nI d)), (3, vI (nI g)), (4, vI (nI f)), (5, vI (nI k))] [] σ (aRI F) := a_isCaught_73 _ _ _ _ _ (a_isCaught_74 _ _ _ _ _ _ ⟨fun _ => by rw [nI_1]; exact ih (k + 1) (by omega), fun z => absurd rfl z⟩)
    refine ⟨fun z => absurd z (by omega), fun _ => ⟨by omega, hg, fun e => ⟨hf, fun _ => go, fun z => ⟨by omega, fun z2 => absurd ⟨z, Or.inl z2⟩ (hn k (by omega) e), fun _ => ⟨by omega, hf, fun z2 => absurd ⟨z, Or.inr z2⟩ (hn k (by omega) e), fun _ => go⟩⟩⟩, fun _ => go⟩⟩
/-- none takes it -/
theorem caught_none {F : Int32 → Rm → Prop} {g f C d : Nat} (h34 : sI σ 34 = nI C) (hC : C ≤ 1000) (hg : g < 18000) (h69 : aI σ 69 g = nI t) (hf : f < 8000) (hn : ∀ k, k < C → aI σ 45 k = nI t → ¬ Mt σ (aI σ 89 f) k) (q : F 0 σ) : ∀ (r k : Nat), k + r = C → A X 92 0 MX13_isCaught 3 [(0, vR 92), (1, vI (nI n)), (2, vI (nI d)), (3, vI (nI g)), (4, vI (nI f)), (5, vI (nI k))] [] σ (aRI F) := by
  intro r
  induction r with
  | zero =>
    intro k hk
    refine a_isCaught_3 _ _ _ _ _ ?_
    rw [h34, le_nI (by omega) (by omega)]
    exact ⟨fun _ => ⟨_, rfl, q⟩, fun z => absurd (by omega) z⟩
  | succ r ih =>
    intro k hk
    refine a_isCaught_3 _ _ _ _ _ ?_
    rw [h34, le_nI (by omega) (by omega), vpn (by omega), vpn (by omega), vpn (by omega), cl_nI (by omega), cl_nI (by omega), cl_nI (by omega), h69]
    have go : A X 92 0 MX13_isCaught 73 [(0, vR 92), (1, vI (nI n)), (2, vI (nI d)), (3, vI (nI g)), (4, vI (nI f)), (5, vI (nI k))] [] σ (aRI F) := a_isCaught_73 _ _ _ _ _ (a_isCaught_74 _ _ _ _ _ _ ⟨fun _ => by rw [nI_1]; exact ih (k + 1) (by omega), fun z => absurd rfl z⟩)
    refine ⟨fun z => absurd z (by omega), fun _ => ⟨by omega, hg, fun e => ⟨hf, fun _ => go, fun z => ⟨by omega, fun z2 => absurd ⟨z, Or.inl z2⟩ (hn k (by omega) e), fun _ => ⟨by omega, hf, fun z2 => absurd ⟨z, Or.inr z2⟩ (hn k (by omega) e), fun _ => go⟩⟩⟩, fun _ => go⟩⟩
/-- a catch begins, in the reference -/
theorem VRx.caught {f v jc : Nat} {val : Int32} (hk : VRx σ n p ((b, i, j, pl, nv, vs, L0 ++ (1, t, h, ph, x) :: Es, O, s, md) :: r)) (he : noG Es) (hv : v < nv) (hj : jc < 12000) (hi : i' < 20000) (hf : x' - 1 = nI f) : VR (wI (wI (wI (wI (wI σ 70 (1500 * p + (gcs r + gcn L0)) 1) 66 (40 * (60 * p + r.length) + v) val) 67 (25 * (60 * p + r.length) + ccI L0) (nI f)) 62 (60 * p + r.length) (nI jc)) 73 p (aI σ 65 (60 * p + r.length))) n p ((b, i', jc, pl, nv, ud vs v val, L0 ++ [(1, t, t', 1, x')], [], s', md') :: r) ∧ Ro p σ (wI (wI (wI (wI (wI σ 70 (1500 * p + (gcs r + gcn L0)) 1) 66 (40 * (60 * p + r.length) + v) val) 67 (25 * (60 * p + r.length) + ccI L0) (nI f)) 62 (60 * p + r.length) (nI jc)) 73 p (aI σ 65 (60 * p + r.length))) := by
  have hbd := hk.bd
  have hgd := hk.gd he
  obtain ⟨⟨h1, h2, h3, h4⟩, h5, ⟨h6, h7⟩, h8, ⟨f1, f2, f3, f4, f5, f6⟩, ⟨a1, a2, a3, a4, a5⟩, g2, g3, g4⟩ := id hk
  have h4 : r.length + 1 ≤ 60 := h4
  have f1 : nv ≤ 12 := f1
  have f2 : (L0 ++ ((1, t, h, ph, x) : Ite) :: Es).length ≤ 24 := f2
  rw [len_last] at f2
  have eg : gcs ((b, i, j, pl, nv, vs, L0 ++ (1, t, h, ph, x) :: Es, O, s, md) :: r) = gcs r + (gcn L0 + 1) := by
    show gcs r + gcn (L0 ++ (1, t, h, ph, x) :: Es) = _
    rw [gcn_last he]
  rw [a5]
  have gl := gcn_le L0
  have cl := ccI_le L0
  have el := ecI_le L0
  have g0 := ((ItsR_app _ _ _ _ _).mp g3).1
  have w1 := ItsR.w (g0 := 0) (L := L0) (k := 70) (q := 1500 * p + (gcs r + gcn L0)) (v := 1) (by omega) g0 (by omega) (by omega) (fun _ _ i hi => by omega)
  have w2 := ItsR.w (g0 := 0) (L := L0) (k := 66) (q := 40 * (60 * p + r.length) + v) (v := val) (by omega) w1 (fun _ i hi => by omega) (by omega) (by omega)
  have w3 := ItsR.w (g0 := 0) (L := L0) (k := 67) (q := 25 * (60 * p + r.length) + ccI L0) (v := nI f) (by omega) w2 (by omega) (fun _ i hi => by omega) (by omega)
  have w4 := ItsR.w (g0 := 0) (L := L0) (k := 62) (q := 60 * p + r.length) (v := nI jc) (by omega) w3 (by omega) (by omega) (by omega)
  have w5 := ItsR.w (g0 := 0) (L := L0) (k := 73) (q := p) (v := nI (ocs r)) (by omega) w4 (by omega) (by omega) (by omega)
  have ag : AgR σ (wI (wI (wI (wI (wI σ 70 (1500 * p + (gcs r + gcn L0)) 1) 66 (40 * (60 * p + r.length) + v) val) 67 (25 * (60 * p + r.length) + ccI L0) (nI f)) 62 (60 * p + r.length) (nI jc)) 73 p (nI (ocs r))) p r.length (gcs r) (ocs r) := ((((AgR.w (fun _ _ => by omega) (fun z => by omega) (fun z => by omega) (fun _ _ i hi => by omega) (fun z => by omega)).trans (AgR.w (fun _ _ => by omega) (fun _ i hi => by omega) (fun z => by omega) (fun z _ => by omega) (fun z => by omega))).trans (AgR.w (fun _ _ => by omega) (fun z => by omega) (fun _ i hi => by omega) (fun z _ => by omega) (fun z => by omega))).trans (AgR.w (fun _ _ i hi => by omega) (fun z => by omega) (fun z => by omega) (fun z _ => by omega) (fun z => by omega))).trans (AgR.w (fun _ _ => by omega) (fun z => by omega) (fun z => by omega) (fun z _ => by omega) (fun z => by omega))
  refine ⟨VRx.vr (hk.head ?_ ?_ ?_ ag ⟨⟨f1, ?_, Nat.zero_le _, f4, hi, Nat.lt_succ_of_lt hj⟩, ⟨?_, ?_, ?_, ?_, ?_⟩, fun k hk => ?_, (ItsR_app _ _ _ _ _).mpr ⟨w5, ⟨fun z => absurd z (show (1 : Nat) ≠ 0 by decide), fun _ => ⟨?_, ?_, fun _ => ?_, fun z => absurd z (show (1 : Nat) ≠ 2 by decide), fun z => absurd z (show (1 : Nat) ≠ 3 by decide), fun z => absurd z (show (1 : Nat) ≠ 4 by decide)⟩⟩, trivial⟩, fun k hk => absurd hk (Nat.not_lt_zero _)⟩) ?_, ((((Ro.w (by decide) (by decide) (by show 1500 * p ≤ _; omega) (by show _ < 1500 * (p + 1); omega)).trans (Ro.w (by decide) (by decide) (by show 2400 * p ≤ _; omega) (by show _ < 2400 * (p + 1); omega))).trans (Ro.w (by decide) (by decide) (by show 1500 * p ≤ _; omega) (by show _ < 1500 * (p + 1); omega))).trans (Ro.w (by decide) (by decide) (by show 60 * p ≤ _; omega) (by show _ < 60 * (p + 1); omega))).trans (Ro.w (by decide) (by decide) (by show 1 * p ≤ p; omega) (by show p < 1 * (p + 1); omega))⟩
  · rw [aI_ne (by decide), aI_ne (by decide), aI_ne (by decide), aI_ne (by decide), aI_ne (by decide)]
  · rw [aI_ne (by decide), aI_ne (by decide), aI_ne (by decide), aI_ne (by decide), aI_ne (by decide)]
  · rw [aI_ne (by decide), aI_ne (by decide), aI_ne (by decide), aI_ne (by decide), aI_ne (by decide), h7, eg]
    show _ = nI (gcs r + gcn (L0 ++ [(1, t, t', 1, x')]))
    rw [gcn_app]
    rfl
  · show (L0 ++ [((1, t, t', 1, x') : Ite)]).length ≤ 24
    rw [List.length_append]
    simp
    omega
  · rw [aI_ne (by decide), aI_ne (by decide), aI_ne (by decide), aI_ne (by decide), aI_ne (by decide)]; exact a1
  · rw [aI_ne (by decide), aI_eq]
  · rw [aI_ne (by decide), aI_ne (by decide), aI_ne (by decide), aI_ne (by decide), aI_ne (by decide)]; exact a3
  · rw [aI_ne (by decide), aI_ne (by decide), aI_ne (by decide), aI_ne (by decide), aI_ne (by decide)]; exact a4
  · rw [aI_ne (by decide), aI_ne (by decide), aI_ne (by decide), aI_ne (by decide), aI_ne (by decide)]; exact a5
  · have hk : k < nv := hk
    rw [aI_ne (by decide), aI_ne (by decide), aI_ne (by decide)]
    show _ = ud vs v val k
    by_cases c : k = v
    · rw [c, aI_eq, ud_eq]
    · rw [aI_ni (by omega), aI_ne (by decide), ud_ne c]; exact g2 k hk
  · rw [aI_ne (by decide), aI_ne (by decide), aI_ne (by decide), aI_ne (by decide), aI_ne (by decide)]
    exact hgd.2.2.1
  · rw [aI_ne (by decide), aI_ne (by decide), aI_ne (by decide), aI_ne (by decide), aI_eq]
    rfl
  · rw [Nat.zero_add, aI_ne (by decide), aI_ne (by decide), aI_eq]
    exact hf.symm
  · rw [aI_eq]
    rfl
theorem neg1 {a : Nat} (h : a < 2147483648) : ¬ nI a = -1 := fun z => by
  rw [show (-1 : Int32) = -nI 1 by decide, neg_eq (a := a) (b := 1) h (by decide) (by decide)] at z
  exact z
/-- beyond the acts -/
theorem kc_actO {F : Int32 → Km → Prop} {k : Nat} (cd : CdW κ m) (hk : m ≤ k) (hk2 : k < 2147483648) (q : F 0 κ) : KC' X 0 MX1_act [vR 68, vI (nI k)] κ (kRI F) := by
  obtain ⟨h1, h2, h3, h4⟩ := cd
  refine KC_of_K rfl (Nat.le_of_ble_eq_true rfl) rfl (k_1_act_0 _ ?_)
  rw [n0_lt (by omega), h1, lt_nI (by omega) (by omega)]
  exact ⟨fun z => z.elim, fun _ => ⟨fun z => absurd z (by omega), fun _ => k_1_act_12 _ (k_1_act_22 _ _ ⟨_, rfl, q⟩)⟩⟩
theorem kc_actN {F : Int32 → Km → Prop} (q : F 0 κ) : KC' X 0 MX1_act [vR 68, vI (-9)] κ (kRI F) :=
  KC_of_K rfl (Nat.le_of_ble_eq_true rfl) rfl (k_1_act_0 _ ⟨fun _ => k_1_act_12 _ (k_1_act_22 _ _ ⟨_, rfl, q⟩), fun z => absurd (by decide) z⟩)
theorem good_lt {i j : Nat} {L : List Itm} {n s : Nat} (e68 : kI κ0 68 2 = nI m) (hm : m ≤ 9500) (h : Good2 κ0 σ0 (fun _ => False) (b, i, j, L, n, s)) : i < m := by
  have l := h.loc
  have l2 : i + 1 < 20000 := l.2.1
  have l3 : nI i < kI κ0 68 2 := l.2.2.1
  rw [e68, lt_nI (by omega) (by omega)] at l3
  exact l3
theorem Chn.lt {cs : List Nat} {g : Nat} (e68 : kI κ0 68 2 = nI m) (hm : m ≤ 9500) (h : Chn κ0 σ0 (Good2 κ0 σ0 (fun _ => False)) b L t h0 cs g) : g < 2147483648 := by
  cases cs with
  | nil =>
    rcases h with ⟨_, jf, _, w⟩ | ⟨_, _, w⟩
    · have := good_lt e68 hm w; omega
    · exact w
  | cons c cs =>
    obtain ⟨_, _, _, ⟨jc, _, w⟩, _⟩ := h
    have := good_lt e68 hm w
    omega
/-- the class walks along the handlers of a try: the first catch that takes the number, or the end -/
theorem handlerOf_loop {F : Int32 → Km → Prop} {hx : Int32} (cd : CdW κ m) (hm : m ≤ 9500) (e68 : kI κ0 68 2 = nI m) (e69 : kI κ 69 = kI κ0 69) (e70 : kI κ 70 = kI κ0 70) (hN : N ≠ -1 ∧ N ≠ -9) : ∀ (cs : List Nat) (g u : Nat), u + cs.length ≤ 2999 → Chn κ0 σ0 (Good2 κ0 σ0 (fun _ => False)) b L t h0 cs g →
    (∀ c hc v jc pre post, cs = pre ++ c :: post → (∀ y, y ∈ pre → ¬ Mt σ0 N y) → Mt σ0 N c → hc + 3 < m → kI κ0 69 hc = 41 → v < nvB σ0 b → aI σ0 31 c = nI v → kI κ0 69 (hc + 2) = 3 → kI κ0 70 (hc + 2) = nI v → aI σ0 32 c = nI jc → Good2 κ0 σ0 (fun _ => False) (b, hc + 3, jc, L ++ [(1, t, h0, 1)], 0, 0) → aI σ0 33 c = nI (ccn L) → F (nI hc) κ) →
    (∀ he, (∀ y, y ∈ cs → ¬ Mt σ0 N y) → he < 2147483648 → ((he + 1 < m ∧ kI κ0 69 he = 43 ∧ ∃ jf, aI σ0 27 t = nI jf ∧ Good2 κ0 σ0 (fun _ => False) (b, he + 1, jf, L ++ [(1, t, h0, 2)], 0, 0)) ∨ ((m ≤ he ∨ kI κ0 69 he = 44) ∧ aI σ0 27 t = -9)) → F (nI he) κ) → K X 1 MX6_handlerOf 5 [(0, vR 79), (1, vI hx), (2, vI N), (3, vI (nI g)), (4, vI (nI u))] [] κ (kRI F) := by
  intro cs
  induction cs with
  | nil =>
    intro g u hu hc q1 q0
    have hu : u + 0 ≤ 2999 := hu
    refine k_6_handlerOf_5 _ _ _ _ ?_
    rw [litI 3000, le_nI (by omega) (by omega)]
    refine ⟨fun z => absurd z (by omega), fun _ => ⟨0, by omega, ?_⟩⟩
    have fin : ((g + 1 < m ∧ kI κ0 69 g = 43 ∧ ∃ jf, aI σ0 27 t = nI jf ∧ Good2 κ0 σ0 (fun _ => False) (b, g + 1, jf, L ++ [(1, t, h0, 2)], 0, 0)) ∨ ((m ≤ g ∨ kI κ0 69 g = 44) ∧ aI σ0 27 t = -9)) → K X 1 MX6_handlerOf 73 [(0, vR 79), (1, vI hx), (2, vI N), (3, vI (nI g)), (4, vI (nI u))] [] κ (kRI F) := fun e => k_6_handlerOf_73 _ _ _ _ ⟨_, rfl, q0 g (fun y hy => absurd hy List.not_mem_nil) (hc.lt e68 hm) e⟩
    rcases hc with ⟨a, jf, b1, b2⟩ | ⟨a, b1, b2⟩
    · have hg := good_lt e68 hm b2
      refine kc_actC cd (by omega) ?_
      rw [e69, a]
      exact ⟨fun z => absurd z (by decide), fun _ => fin (Or.inl ⟨hg, a, jf, b1, b2⟩)⟩
    · by_cases c : g < m
      · refine kc_actC cd c ?_
        rw [e69, a]
        exact ⟨fun z => absurd z (by decide), fun _ => fin (Or.inr ⟨Or.inr a, b1⟩)⟩
      · exact kc_actO cd (by omega) b2 ⟨fun z => absurd z (by decide), fun _ => fin (Or.inr ⟨Or.inl (by omega), b1⟩)⟩
  | cons c cs ih =>
    intro g u hu hc q1 q0
    have hu : u + (cs.length + 1) ≤ 2999 := hu
    obtain ⟨a1, a2, ⟨v, v1, v2, v3, v4⟩, ⟨jc, a4, a5⟩, a6, g', a7, a8, a9⟩ := hc
    have hg := good_lt e68 hm a5
    refine k_6_handlerOf_5 _ _ _ _ ?_
    rw [litI 3000, le_nI (by omega) (by omega)]
    refine ⟨fun z => absurd z (by omega), fun _ => ⟨0, by omega, kc_actC cd (by omega) ?_⟩⟩
    rw [e69, a1]
    refine ⟨fun _ => ⟨0, by omega, kc_argC cd (by omega) ?_⟩, fun z => absurd rfl z⟩
    rw [e70]
    have take : Mt σ0 N c → K X 1 MX6_handlerOf 54 [(0, vR 79), (1, vI hx), (2, vI N), (3, vI (nI g)), (4, vI (nI u)), (5, vI (kI κ0 70 g))] [] κ (kRI F) := fun mt => k_6_handlerOf_54 _ _ _ _ _ ⟨_, rfl, q1 c g v jc [] cs rfl (fun y hy => absurd hy List.not_mem_nil) mt hg a1 v1 v2 v3 v4 a4 a5 a6⟩
    have next : ¬ Mt σ0 N c → K X 1 MX6_handlerOf 56 [(0, vR 79), (1, vI hx), (2, vI N), (3, vI (nI g)), (4, vI (nI u)), (5, vI (kI κ0 70 g))] [] κ (kRI F) := fun nm => k_6_handlerOf_56 _ _ _ _ _ ⟨0, by omega, by
      rw [nI_1]
      refine kc_argC cd (by omega) ?_
      rw [e70, a7, nI_1]
      exact ih g' (u + 1) (by omega) a9 (fun c' hc v jc pre post e n1 => q1 c' hc v jc (c :: pre) post (by rw [e]; rfl) (fun y hy => by
        rcases List.mem_cons.mp hy with z | z
        · rw [z]; exact nm
        · exact n1 y z)) (fun he n0 => q0 he (fun y hy => by
        rcases List.mem_cons.mp hy with z | z
        · rw [z]; exact nm
        · exact n0 y z))⟩
    refine ⟨fun z => next (fun mt => mt.1 z), fun z14 => ⟨fun z => take ⟨z14, ?_⟩, fun z => ⟨fun z1 => take ⟨z14, ?_⟩, fun z1 => next (fun mt => ?_)⟩⟩⟩
    · rcases a2 with ⟨b1, b2⟩ | ⟨x, x1, x2, x3⟩
      · exact Or.inl b2
      · exact Or.inr (x3.trans (x2.symm.trans z))
    · rcases a2 with ⟨b1, b2⟩ | ⟨x, x1, x2, x3⟩
      · exact Or.inl b2
      · rw [x2] at z1
        exact absurd z1 (neg1 (by omega))
    · rcases a2 with ⟨b1, b2⟩ | ⟨x, x1, x2, x3⟩
      · exact z1 b1
      · rcases mt.2 with y | y
        · rw [x3] at y
          exact absurd y (neg9 (by omega))
        · exact z (x2.trans (x3.symm.trans y))
theorem kc_handlerOf {F : Int32 → Km → Prop} {g : Nat} {cs : List Nat} (cd : CdW κ m) (hm : m ≤ 9500) (e68 : kI κ0 68 2 = nI m) (e69 : kI κ 69 = kI κ0 69) (e70 : kI κ 70 = kI κ0 70) (hN : N ≠ -1 ∧ N ≠ -9) (hl : cs.length ≤ 1000) (hc : Chn κ0 σ0 (Good2 κ0 σ0 (fun _ => False)) b L t h0 cs g)
    (q1 : ∀ c hc v jc pre post, cs = pre ++ c :: post → (∀ y, y ∈ pre → ¬ Mt σ0 N y) → Mt σ0 N c → hc + 3 < m → kI κ0 69 hc = 41 → v < nvB σ0 b → aI σ0 31 c = nI v → kI κ0 69 (hc + 2) = 3 → kI κ0 70 (hc + 2) = nI v → aI σ0 32 c = nI jc → Good2 κ0 σ0 (fun _ => False) (b, hc + 3, jc, L ++ [(1, t, h0, 1)], 0, 0) → aI σ0 33 c = nI (ccn L) → F (nI hc) κ)
    (q0 : ∀ he, (∀ y, y ∈ cs → ¬ Mt σ0 N y) → he < 2147483648 → ((he + 1 < m ∧ kI κ0 69 he = 43 ∧ ∃ jf, aI σ0 27 t = nI jf ∧ Good2 κ0 σ0 (fun _ => False) (b, he + 1, jf, L ++ [(1, t, h0, 2)], 0, 0)) ∨ ((m ≤ he ∨ kI κ0 69 he = 44) ∧ aI σ0 27 t = -9)) → F (nI he) κ) : KC' X 1 MX6_handlerOf [vR 79, vI (nI g), vI N] κ (kRI F) :=
  KC_of_K rfl (Nat.le_of_ble_eq_true rfl) rfl (k_6_handlerOf_0 _ _ (handlerOf_loop (κ0 := κ0) (σ0 := σ0) cd hm e68 e69 e70 hN cs g 0 (by omega) hc q1 q0))
end CATCH
