/-! the reference's calls: guards, catches, calls that begin and end -/
section ROPS2
variable {X : Cx} {σ σ' σ1 σ2 : Rm} {n p b i j nv s md b' i' j' s' md' t t' h ph : Nat} {pl x x' : Int32} {vs : Nat → Int32} {L L0 Es : List Ite} {O : List Int32} {r : List Frm}
theorem gcn_noG : ∀ L : List Ite, noG L → gcn L = 0 := by
  intro L
  induction L with
  | nil => intro _; rfl
  | cons y r ih =>
    intro hn
    show gct y + gcn r = 0
    rw [ih (fun z hz => hn z (List.mem_cons_of_mem _ hz)), show gct y = 0 from if_pos (hn y (List.mem_cons_self ..))]
theorem gcn_last (he : noG Es) : gcn (L0 ++ (1, t, h, ph, x) :: Es) = gcn L0 + 1 := by
  rw [gcn_app]
  show gcn L0 + (1 + gcn Es) = _
  rw [gcn_noG Es he]
theorem len_last : (L0 ++ ((1, t, h, ph, x) : Ite) :: Es).length = L0.length + (Es.length + 1) := by rw [List.length_append]; rfl
/-- the innermost guard of the reference -/
theorem VRx.gd (hk : VRx σ n p ((b, i, j, pl, nv, vs, L0 ++ (1, t, h, ph, x) :: Es, O, s, md) :: r)) (he : noG Es) : aI σ 68 p = nI (gcs r + gcn L0 + 1) ∧ aI σ 64 (60 * p + r.length) = nI (gcs r) ∧ aI σ 69 (1500 * p + (gcs r + gcn L0)) = nI t ∧ aI σ 70 (1500 * p + (gcs r + gcn L0)) = nI (min ph 2) ∧ (ph = 1 → aI σ 67 (25 * (60 * p + r.length) + ccI L0) = x - 1) ∧ (ph = 2 → aI σ 71 (1500 * p + (gcs r + gcn L0)) = 0) ∧ (ph = 3 → aI σ 71 (1500 * p + (gcs r + gcn L0)) = 1 ∧ aI σ 72 (1500 * p + (gcs r + gcn L0)) = x - 1) ∧ (ph = 4 → aI σ 71 (1500 * p + (gcs r + gcn L0)) = 2 ∧ aI σ 72 (1500 * p + (gcs r + gcn L0)) = x) := by
  have g3 := hk.2.2.2.2.2.2.2.1
  have h1 := ((ItsR_app _ _ _ _ _).mp g3).2.1.2 (show (1 : Nat) ≠ 0 by decide)
  rw [Nat.zero_add] at h1
  refine ⟨?_, hk.2.2.2.2.2.1.2.2.2.1, h1⟩
  rw [hk.2.2.1.2]
  show nI (gcs r + gcn (L0 ++ (1, t, h, ph, x) :: Es)) = _
  rw [gcn_last he]
  rfl
/-- a guard is left -/
theorem VRx.drop (hk : VRx σ n p ((b, i, j, pl, nv, vs, L0 ++ (1, t, h, ph, x) :: Es, O, s, md) :: r)) (he : noG Es) (hi : i' < 20000) : VRx (wI σ 68 p (nI (gcs r + gcn L0))) n p ((b, i', j, pl, nv, vs, L0, O, s', md') :: r) ∧ Ro p σ (wI σ 68 p (nI (gcs r + gcn L0))) := by
  obtain ⟨⟨f1, f2, f3, f4, f5, f6⟩, ⟨a1, a2, a3, a4, a5⟩, g2, g3, g4⟩ := hk.2.2.2.2
  have f2 : (L0 ++ ((1, t, h, ph, x) : Ite) :: Es).length ≤ 24 := f2
  rw [len_last] at f2
  refine ⟨hk.head (by rw [aI_ne (by decide)]) (by rw [aI_ne (by decide)]) (by rw [aI_eq]; rfl) (AgR.w (fun _ _ => by omega) (fun z => by omega) (fun z => by omega) (fun z _ => by omega) (fun z => by omega)) ⟨⟨f1, by show L0.length ≤ 24; omega, f3, f4, hi, f6⟩, ⟨?_, ?_, ?_, ?_, ?_⟩, fun k hk => ?_, ItsR.w (g0 := 0) (L := L0) (by omega) ((ItsR_app _ _ _ _ _).mp g3).1 (by omega) (by omega) (by omega), fun k hk => ?_⟩, Ro.w (by decide) (by decide) (by show 1 * p ≤ p; omega) (by show p < 1 * (p + 1); omega)⟩
  · rw [aI_ne (by decide)]; exact a1
  · rw [aI_ne (by decide)]; exact a2
  · rw [aI_ne (by decide)]; exact a3
  · rw [aI_ne (by decide)]; exact a4
  · rw [aI_ne (by decide)]; exact a5
  · rw [aI_ne (by decide)]; exact g2 k hk
  · rw [aI_ne (by decide)]; exact g4 k hk
/-- the voice of an each is forgotten -/
theorem VRx.uneach {y : Int32} (hk : VRx σ n p ((b, i, j, pl, nv, vs, L ++ [(0, 0, 0, 0, y)], O, s, md) :: r)) (hi : i' < 20000) : VRx σ n p ((b, i', j, pl, nv, vs, L, O, s', md') :: r) := by
  obtain ⟨⟨f1, f2, f3, f4, f5, f6⟩, ⟨a1, a2, a3, a4, a5⟩, g2, g3, g4⟩ := hk.2.2.2.2
  have f2 : (L ++ [((0, 0, 0, 0, y) : Ite)]).length ≤ 24 := f2
  rw [List.length_append] at f2
  have e : gcn (L ++ [((0, 0, 0, 0, y) : Ite)]) = gcn L := by rw [gcn_app]; rfl
  refine ⟨hk.1, hk.2.1, ⟨hk.2.2.1.1, ?_⟩, hk.2.2.2.1, ⟨f1, by show L.length ≤ 24; omega, f3, f4, hi, f6⟩, ⟨a1, a2, a3, a4, a5⟩, g2, ((ItsR_app _ _ _ _ _).mp g3).1, g4⟩
  rw [hk.2.2.1.2]
  show nI (gcs r + gcn (L ++ [((0, 0, 0, 0, y) : Ite)])) = nI (gcs r + gcn L)
  rw [e]
theorem VRx.eachv {y : Int32} (hk : VRx σ n p ((b, i, j, pl, nv, vs, L ++ [(0, 0, 0, 0, y)], O, s, md) :: r)) : aI σ 66 (40 * (60 * p + r.length) + (12 + ecI L)) = y := by
  have g3 := hk.2.2.2.2.2.2.2.1
  have h1 := ((ItsR_app _ _ _ _ _).mp g3).2.1.1 rfl
  rw [Nat.zero_add, Nat.add_assoc] at h1
  exact h1
/-- a guard is opened -/
theorem VRx.tryG (hk : VRx σ n p ((b, i, j, pl, nv, vs, L, O, s, md) :: r)) (hl : L.length < 24) (hi : i' < 20000) : VRx (wI (wI (wI σ 68 p (nI (gcs r + gcn L + 1))) 69 (1500 * p + (gcs r + gcn L)) (nI t)) 70 (1500 * p + (gcs r + gcn L)) 0) n p ((b, i', j, pl, nv, vs, L ++ [(1, t, h, 0, 0)], O, s', md') :: r) ∧ Ro p σ (wI (wI (wI σ 68 p (nI (gcs r + gcn L + 1))) 69 (1500 * p + (gcs r + gcn L)) (nI t)) 70 (1500 * p + (gcs r + gcn L)) 0) := by
  have hbd := hk.bd
  obtain ⟨⟨f1, f2, f3, f4, f5, f6⟩, ⟨a1, a2, a3, a4, a5⟩, g2, g3, g4⟩ := hk.2.2.2.2
  have eg : gcs ((b, i, j, pl, nv, vs, L, O, s, md) :: r) = gcs r + gcn L := rfl
  have ek : ∀ k, k ≠ 68 → k ≠ 69 → k ≠ 70 → aI (wI (wI (wI σ 68 p (nI (gcs r + gcn L + 1))) 69 (1500 * p + (gcs r + gcn L)) (nI t)) 70 (1500 * p + (gcs r + gcn L)) 0) k = aI σ k := fun k h1 h2 h3 => by rw [aI_ne h3, aI_ne h2, aI_ne h1]
  refine ⟨hk.head (by rw [ek 58 (by decide) (by decide) (by decide)]) (by rw [ek 60 (by decide) (by decide) (by decide)]) ?_ (((AgR.w (fun _ _ => by omega) (fun z => by omega) (fun z => by omega) (fun z _ => by omega) (fun z => by omega)).trans (AgR.w (fun _ _ => by omega) (fun z => by omega) (fun z => by omega) (fun _ _ i hi => by omega) (fun z => by omega))).trans (AgR.w (fun _ _ => by omega) (fun z => by omega) (fun z => by omega) (fun _ _ i hi => by omega) (fun z => by omega))) ⟨⟨f1, ?_, f3, f4, hi, f6⟩, ⟨?_, ?_, ?_, ?_, ?_⟩, fun k hk => ?_, (ItsR_app _ _ _ _ _).mpr ⟨ItsR.w (g0 := 0) f2 (ItsR.w (g0 := 0) f2 (ItsR.w (g0 := 0) f2 g3 (by omega) (by omega) (by omega)) (by omega) (by omega) (fun _ _ i hi => by omega)) (by omega) (by omega) (fun _ _ i hi => by omega), ⟨fun z => absurd z (show (1 : Nat) ≠ 0 by decide), fun _ => ⟨?_, ?_, fun z => absurd z (show (0 : Nat) ≠ 1 by decide), fun z => absurd z (show (0 : Nat) ≠ 2 by decide), fun z => absurd z (show (0 : Nat) ≠ 3 by decide), fun z => absurd z (show (0 : Nat) ≠ 4 by decide)⟩⟩, trivial⟩, fun k hk => ?_⟩, ((Ro.w (by decide) (by decide) (by show 1 * p ≤ p; omega) (by show p < 1 * (p + 1); omega)).trans (Ro.w (by decide) (by decide) (by show 1500 * p ≤ _; omega) (by show _ < 1500 * (p + 1); omega))).trans (Ro.w (by decide) (by decide) (by show 1500 * p ≤ _; omega) (by show _ < 1500 * (p + 1); omega))⟩
  · rw [aI_ne (by decide), aI_ne (by decide), aI_eq]
    show _ = nI (gcs r + gcn (L ++ [(1, t, h, 0, 0)]))
    rw [gcn_app]
    rfl
  · show (L ++ [((1, t, h, 0, 0) : Ite)]).length ≤ 24
    rw [List.length_append]
    simp
    omega
  · rw [ek 61 (by decide) (by decide) (by decide)]; exact a1
  · rw [ek 62 (by decide) (by decide) (by decide)]; exact a2
  · rw [ek 63 (by decide) (by decide) (by decide)]; exact a3
  · rw [ek 64 (by decide) (by decide) (by decide)]; exact a4
  · rw [ek 65 (by decide) (by decide) (by decide)]; exact a5
  · rw [ek 66 (by decide) (by decide) (by decide)]; exact g2 k hk
  · rw [aI_ne (by decide), aI_eq]
  · rw [aI_eq]
    rfl
  · rw [ek 74 (by decide) (by decide) (by decide)]; exact g4 k hk
/-- a call is left -/
theorem VRx.leave {f f1 : Frm} (hk : VRx σ n p (f :: f1 :: r)) (hg : noG (frL f)) : VRx (wI σ 60 p (nI (r.length + 1))) n p (f1 :: r) ∧ Ro p σ (wI σ 60 p (nI (r.length + 1))) := by
  obtain ⟨⟨h1, h2, h3, h4⟩, h5, ⟨h6, h7⟩, h8, h9⟩ := hk
  have h4 : r.length + 2 ≤ 60 := h4
  refine ⟨⟨⟨h1, h2, h3, by show r.length + 1 ≤ 60; omega⟩, by rw [aI_ne (by decide)]; exact h5, ⟨aI_eq, ?_⟩, h8.cg _ (AgR.w (fun _ _ => by omega) (fun z => by omega) (fun z => by omega) (fun z _ => by omega) (fun z => by omega))⟩, Ro.w (by decide) (by decide) (by show 1 * p ≤ p; omega) (by show p < 1 * (p + 1); omega)⟩
  rw [aI_ne (by decide), h7]
  show nI (gcs (f1 :: r) + gcn (frL f)) = _
  rw [gcn_noG _ hg]
  rfl
/-- a finally begins -/
theorem ac_finishes {F : Rm → Prop} {kd jf : Nat} {y : Int32} (hk : VRx σ n p ((b, i, j, pl, nv, vs, L0 ++ (1, t, h, ph, x) :: Es, O, s, md) :: r)) (he : noG Es) (ht : t < 1000) (h27 : aI σ 27 t = nI jf) (hj : jf < 12000) (hi : i' < 20000) (hkd : kd ≤ 2) (hy : (kd = 1 → y = x' - 1) ∧ (kd = 2 → y = x'))
    (q : ∀ σ', Ro p (wI σ 53 n (aI σ 53 n + 1)) σ' → VR σ' n p ((b', i', jf, pl, nv, vs, L0 ++ [(1, t, t', 2 + kd, x')], [], s', md') :: r) → F σ') (hb : b' = b) : AC X 92 1 MX13_finishes [vR 92, vI (nI n), vI (nI (1500 * p + (gcs r + gcn L0))), vI (nI kd), vI y] σ (aRV F) := by
  subst hb
  have hbd := hk.bd
  have hgd := hk.gd he
  obtain ⟨⟨h1, h2, h3, h4⟩, h5, ⟨h6, h7⟩, h8, ⟨f1, f2, f3, f4, f5, f6⟩, ⟨a1, a2, a3, a4, a5⟩, g2, g3, g4⟩ := id hk
  have eg : gcs ((b', i, j, pl, nv, vs, L0 ++ (1, t, h, ph, x) :: Es, O, s, md) :: r) = gcs r + (gcn L0 + 1) := by
    show gcs r + gcn (L0 ++ (1, t, h, ph, x) :: Es) = _
    rw [gcn_last he]
  have eo : ocs ((b', i, j, pl, nv, vs, L0 ++ (1, t, h, ph, x) :: Es, O, s, md) :: r) = ocs r + O.length := rfl
  have h4 : r.length + 1 ≤ 60 := h4
  refine AC_of_A rfl (Nat.le_of_ble_eq_true rfl) rfl (a_finishes_0 _ _ _ _ ⟨0, by omega, ac_call hk ?_⟩)
  rw [vpn (by omega), cl_nI (by omega)]
  refine ⟨by omega, ?_⟩
  rintro s7 rfl
  refine ⟨by omega, ?_⟩
  rintro s9 rfl
  refine ⟨by omega, ?_⟩
  rintro s11 rfl
  rw [vpn (by omega), cl_nI (by omega)]
  refine ⟨by omega, by omega, ?_⟩
  rintro s14 rfl
  rw [vpn (by omega), cl_nI (by omega)]
  have e53 : aI (wI (wI (wI σ 70 (1500 * p + (gcs r + gcn L0)) 2) 71 (1500 * p + (gcs r + gcn L0)) (nI kd)) 72 (1500 * p + (gcs r + gcn L0)) y) 53 n = aI σ 53 n := by rw [aI_ne (by decide), aI_ne (by decide), aI_ne (by decide)]
  rw [e53]
  generalize hs : wI (wI (wI (wI σ 70 (1500 * p + (gcs r + gcn L0)) 2) 71 (1500 * p + (gcs r + gcn L0)) (nI kd)) 72 (1500 * p + (gcs r + gcn L0)) y) 53 n (aI σ 53 n + 1) = s14
  have ek : ∀ k, k ≠ 70 → k ≠ 71 → k ≠ 72 → k ≠ 53 → aI s14 k = aI σ k := fun k k1 k2 k3 k4 => by rw [← hs, aI_ne k4, aI_ne k3, aI_ne k2, aI_ne k1]
  rw [ek 69 (by decide) (by decide) (by decide) (by decide), hgd.2.2.1, vpn (by omega), cl_nI (by omega), ek 27 (by decide) (by decide) (by decide) (by decide), h27]
  refine ⟨by omega, ht, by omega, ?_⟩
  rintro s18 rfl
  refine ⟨by omega, by omega, ?_⟩
  rw [aI_ne (by decide), ek 58 (by decide) (by decide) (by decide) (by decide), h5, vpn (by omega), cl_nI (by omega), aI_ne (by decide), ek 65 (by decide) (by decide) (by decide) (by decide), a5]
  refine ⟨h1, ?_⟩
  rintro s22 rfl
  have eK : ∀ k, k ≠ 70 → k ≠ 71 → k ≠ 72 → k ≠ 53 → k ≠ 62 → k ≠ 73 → aI (wI (wI s14 62 (60 * p + r.length) (nI jf)) 73 p (nI (ocs r))) k = aI σ k := fun k k1 k2 k3 k4 k5 k6 => by rw [aI_ne k6, aI_ne k5]; exact ek k k1 k2 k3 k4
  -- other guards
  have eG : ∀ k i, 69 ≤ k → k ≤ 72 → i ≠ 1500 * p + (gcs r + gcn L0) → aI (wI (wI s14 62 (60 * p + r.length) (nI jf)) 73 p (nI (ocs r))) k i = aI σ k i := fun k i k1 k2 hi => by
    rw [aI_ne (by omega), aI_ne (by omega), ← hs, aI_ne (by omega)]
    by_cases c2 : k = 72
    · rw [c2, aI_ni hi, aI_ne (by decide), aI_ne (by decide)]
    · rw [aI_ne c2]
      by_cases c1 : k = 71
      · rw [c1, aI_ni hi, aI_ne (by decide)]
      · rw [aI_ne c1]
        by_cases c0 : k = 70
        · rw [c0, aI_ni hi]
        · rw [aI_ne c0]
  have v70 : aI (wI (wI s14 62 (60 * p + r.length) (nI jf)) 73 p (nI (ocs r))) 70 (1500 * p + (gcs r + gcn L0)) = 2 := by rw [aI_ne (by decide), aI_ne (by decide), ← hs, aI_ne (by decide), aI_ne (by decide), aI_ne (by decide), aI_eq]
  have v71 : aI (wI (wI s14 62 (60 * p + r.length) (nI jf)) 73 p (nI (ocs r))) 71 (1500 * p + (gcs r + gcn L0)) = nI kd := by rw [aI_ne (by decide), aI_ne (by decide), ← hs, aI_ne (by decide), aI_ne (by decide), aI_eq]
  have v72 : aI (wI (wI s14 62 (60 * p + r.length) (nI jf)) 73 p (nI (ocs r))) 72 (1500 * p + (gcs r + gcn L0)) = y := by rw [aI_ne (by decide), aI_ne (by decide), ← hs, aI_ne (by decide), aI_eq]
  have f2 : (L0 ++ ((1, t, h, ph, x) : Ite) :: Es).length ≤ 24 := f2
  rw [len_last] at f2
  have cc := ccI_le L0
  have ro : Ro p (wI σ 53 n (aI σ 53 n + 1)) (wI (wI s14 62 (60 * p + r.length) (nI jf)) 73 p (nI (ocs r))) := by
    refine ⟨fun k hk => ?_, ?_, fun k i k1 k2 hi => ?_⟩
    · rw [aI_ne (by omega), aI_ne (by omega), ← hs]
      by_cases c : k = 53
      · subst c
        funext i
        by_cases ci : i = n
        · rw [ci, aI_eq, aI_eq]
        · rw [aI_ni ci, aI_ni ci, aI_ne (by decide), aI_ne (by decide), aI_ne (by decide)]
      · rw [aI_ne c, aI_ne c, aI_ne (by omega), aI_ne (by omega), aI_ne (by omega)]
    · rw [← hs]; rfl
    · rw [aI_ne (k := 53) (by omega)]
      by_cases c62 : k = 62
      · subst c62
        rw [aI_ne (by decide), aI_ni (by
          have e : pw 62 = 60 := rfl
          rw [e] at hi
          omega), ek 62 (by decide) (by decide) (by decide) (by decide)]
      · by_cases c73 : k = 73
        · subst c73
          rw [aI_ni (by
            have e : pw 73 = 1 := rfl
            rw [e] at hi
            omega), aI_ne (by decide), ek 73 (by decide) (by decide) (by decide) (by decide)]
        · by_cases cg : 69 ≤ k ∧ k ≤ 72
          · refine eG k i cg.1 cg.2 ?_
            have e : pw k = 1500 := by unfold pw; rw [if_neg (by omega), if_neg (by omega), if_neg (by omega), if_pos (by omega)]
            rw [e] at hi
            omega
          · rw [eK k (by omega) (by omega) (by omega) (by omega) c62 c73]
  refine ⟨rfl, q _ ro (VRx.vr (hk.head ?_ ?_ ?_ ⟨fun k i k1 k2 hi => ?_, fun i hi => ?_, fun i hi => ?_, fun k i k1 k2 hi => ?_, fun i hi => ?_⟩ ⟨⟨f1, ?_, Nat.zero_le _, f4, hi, Nat.lt_succ_of_lt hj⟩, ⟨?_, ?_, ?_, ?_, ?_⟩, fun k hk => ?_, (ItsR_app _ _ _ _ _).mpr ⟨?_, ⟨fun z => absurd z (show (1 : Nat) ≠ 0 by decide), fun _ => ⟨?_, ?_, fun z => ?_, fun z => ?_, fun z => ?_, fun z => ?_⟩⟩, trivial⟩, fun k hk => absurd hk (Nat.not_lt_zero _)⟩) ?_)⟩
  · rw [eK 58 (by decide) (by decide) (by decide) (by decide) (by decide) (by decide)]
  · rw [eK 60 (by decide) (by decide) (by decide) (by decide) (by decide) (by decide)]
  · rw [eK 68 (by decide) (by decide) (by decide) (by decide) (by decide) (by decide), h7, eg]
    show _ = nI (gcs r + gcn (L0 ++ [(1, t, t', 2 + kd, x')]))
    rw [gcn_app]
    rfl
  · by_cases c : k = 62
    · subst c
      rw [aI_ne (by decide), aI_ni (by omega), ek 62 (by decide) (by decide) (by decide) (by decide)]
    · rw [eK k (by omega) (by omega) (by omega) (by omega) c (by omega)]
  · rw [eK 66 (by decide) (by decide) (by decide) (by decide) (by decide) (by decide)]
  · rw [eK 67 (by decide) (by decide) (by decide) (by decide) (by decide) (by decide)]
  · exact eG k _ k1 k2 (by omega)
  · rw [eK 74 (by decide) (by decide) (by decide) (by decide) (by decide) (by decide)]
  · show (L0 ++ [((1, t, t', 2 + kd, x') : Ite)]).length ≤ 24
    rw [List.length_append]
    simp
    omega
  · rw [eK 61 (by decide) (by decide) (by decide) (by decide) (by decide) (by decide)]; exact a1
  · rw [aI_ne (by decide), aI_eq]
  · rw [eK 63 (by decide) (by decide) (by decide) (by decide) (by decide) (by decide)]; exact a3
  · rw [eK 64 (by decide) (by decide) (by decide) (by decide) (by decide) (by decide)]; exact a4
  · rw [eK 65 (by decide) (by decide) (by decide) (by decide) (by decide) (by decide)]; exact a5
  · rw [eK 66 (by decide) (by decide) (by decide) (by decide) (by decide) (by decide)]; exact g2 k hk
  · have e1 := ecI_le L0
    exact ItsR.cg (g0 := 0) _ _ _ _ ((ItsR_app _ _ _ _ _).mp g3).1 (by omega) (by omega) (fun k hk => by rw [eK 66 (by decide) (by decide) (by decide) (by decide) (by decide) (by decide)]) (fun k hk => by rw [eK 67 (by decide) (by decide) (by decide) (by decide) (by decide) (by decide)]) (fun k i k1 k2 k3 => eG k _ k1 k2 (by omega))
  · show aI _ 69 (1500 * p + (gcs r + gcn L0)) = _
    rw [eK 69 (by decide) (by decide) (by decide) (by decide) (by decide) (by decide)]
    exact hgd.2.2.1
  · show aI _ 70 (1500 * p + (gcs r + gcn L0)) = nI (min (2 + kd) 2)
    rw [v70, show min (2 + kd) 2 = 2 by omega]
    rfl
  · have z : 2 + kd = 1 := z
    omega
  · have z : 2 + kd = 2 := z
    show aI _ 71 (1500 * p + (gcs r + gcn L0)) = 0
    rw [v71, show kd = 0 by omega]
    rfl
  · have z : 2 + kd = 3 := z
    show aI _ 71 (1500 * p + (gcs r + gcn L0)) = 1 ∧ aI _ 72 (1500 * p + (gcs r + gcn L0)) = x' - 1
    rw [v71, v72, show kd = 1 by omega]
    exact ⟨rfl, hy.1 (by omega)⟩
  · have z : 2 + kd = 4 := z
    show aI _ 71 (1500 * p + (gcs r + gcn L0)) = 2 ∧ aI _ 72 (1500 * p + (gcs r + gcn L0)) = x'
    rw [v71, v72, show kd = 2 by omega]
    exact ⟨rfl, hy.2 (by omega)⟩
  · rw [aI_eq]
    rfl
end ROPS2
