/-! the reference: a failure goes outwards -/
section RAISEIN
variable {X : Cx} {d e : Nat} {σ0 σ σ1 σ' : Rm} {F0 v p n x q g lo : Nat} {fs r : List Frm} {f f1 : Frm} {y u : Int32} {G : Rm → Prop}
variable {bd i j nv s md i' j' s' md' t h0 ph jf : Nat} {pl : Int32} {vs : Nat → Int32} {L L0 Es : List Ite} {O : List Int32}
theorem ra_A (hk : VRx σ v p ((bd, i, j, pl, nv, vs, L, O, s, md) :: f1 :: r)) (hg : noG L) (he : 1 ≤ e) (q : RaG X e v g p (wI σ 60 p (nI (r.length + 1))) G) : RaG X e v g p σ G := by
  obtain ⟨⟨b1, b2, b3, b4⟩, -, ⟨e60, e68⟩, -, hf⟩ := id hk
  have b4 : r.length + 1 + 1 ≤ 60 := b4
  have e64 : aI σ 64 (60 * p + (r.length + 1)) = nI (gcs (f1 :: r)) := hf.2.1.2.2.2.1
  have e68 : aI σ 68 p = nI (gcs (f1 :: r) + gcn L) := e68
  rw [gcn_noG L hg] at e68
  have e60 : aI σ 60 p = nI (r.length + 1 + 1) := e60
  refine a_raiseIn_7 _ _ _ ⟨0, he, ?_⟩
  refine ac_call hk ?_
  have el : (f1 :: r).length = r.length + 1 := rfl
  rw [el, vpn (by omega), vpn (by omega), cl_nI (by omega), cl_nI (by omega), e64, e68, e60, litI 1, nI_sb (by omega), show r.length + 1 + 1 - 1 = r.length + 1 by omega]
  refine ⟨b1, by omega, fun _ => ⟨b1, b1, ?_⟩, fun z => absurd rfl z⟩
  rintro s11 rfl
  rw [aI_eq]
  exact ⟨b1, fun z => absurd z (nI_ne0 (by omega) (by omega)), fun _ => q⟩
theorem ra_B {el : Nat} (hk : VRx σ v p [(bd, i, j, pl, nv, vs, L, O, s, md)]) (hg : noG L) (he : 1 ≤ e) (hel : el + 1 ≤ e) (q : AC X 92 el MX13_leaves [vR 92, vI (nI v), vI (nI g)] (wI σ 60 p 0) (aRV G)) : RaG X e v g p σ G := by
  obtain ⟨⟨b1, b2, b3, b4⟩, -, ⟨e60, e68⟩, -, hf⟩ := id hk
  have e64 : aI σ 64 (60 * p + 0) = nI 0 := hf.2.1.2.2.2.1
  have e68 : aI σ 68 p = nI (0 + gcn L) := e68
  rw [gcn_noG L hg] at e68
  have e60 : aI σ 60 p = nI (0 + 1) := e60
  refine a_raiseIn_7 _ _ _ ⟨0, he, ?_⟩
  refine ac_call hk ?_
  have el : ([] : List Frm).length = 0 := rfl
  rw [el, vpn (by omega), vpn (by omega), cl_nI (by omega), cl_nI (by omega), e64, e68, e60, litI 1, nI_sb (by omega)]
  refine ⟨b1, by omega, fun _ => ⟨b1, b1, ?_⟩, fun z => absurd rfl z⟩
  rintro s11 rfl
  rw [aI_eq]
  refine ⟨b1, fun _ => ⟨_, hel, q.mono ?_⟩, fun z => absurd rfl z⟩
  rintro r0 s0 ⟨rfl, h⟩
  exact ⟨rfl, rfl, h⟩
/-- the innermost guard is left -/
theorem ra_170 {x4 x5 x6 : Int32} (hp : p < 12) {m : Nat} (h68 : aI σ 68 p = nI (m + 1)) (hm : m < 1500) (q : RaG X e v g p (wI σ 68 p (nI m)) G) : A X 92 e MX13_raiseIn 170 [(0, vR 92), (1, vI (nI v)), (2, vI (nI g)), (3, vI (nI p)), (4, vI x4), (5, vI x5), (6, vI x6)] [] σ (aRV G) := by
  refine a_raiseIn_170 _ _ _ _ _ _ ?_
  rw [vpn (by omega), cl_nI (by omega), h68, litI 1, nI_sb (by omega), show m + 1 - 1 = m by omega]
  refine ⟨hp, hp, ?_⟩
  rintro s3 rfl
  exact q
theorem ra_C (hk : VRx σ v p ((bd, i, j, pl, nv, vs, L0 ++ (1, t, h0, ph, u) :: Es, O, s, md) :: r)) (hE : noG Es) (he : 1 ≤ e) (hph : 2 ≤ ph ∧ ph ≤ 4) {κ : Km} (fl : FRl κ σ F0) (hg : g < F0) (hl : ph = 3 → lo < F0 ∧ u = nI (lo + 1)) (q : ∀ s2, s2 = (if ph = 3 then bnR σ g lo else σ) → RaG X e v g p (wI s2 68 p (nI (gcs r + gcn L0))) G) : RaG X e v g p σ G := by
  obtain ⟨⟨b1, b2, b3, b4⟩, -, -⟩ := id hk
  have b4 : r.length + 1 ≤ 60 := b4
  have hbd := hk.bd.1
  have hbd : gcs r + gcn (L0 ++ (1, t, h0, ph, u) :: Es) ≤ 1440 := hbd
  rw [gcn_last hE] at hbd
  obtain ⟨g1, g2, g3, g4, -, g6, g7, g8⟩ := hk.gd hE
  have hF := fl.1.2.2
  refine a_raiseIn_7 _ _ _ ⟨0, he, ?_⟩
  refine ac_call hk ?_
  rw [vpn (by omega), vpn (by omega), cl_nI (by omega), cl_nI (by omega), g1, g2, litI 1500, pk_mul, nI_add, litI 1, nI_sb (by omega), show 1500 * p + (gcs r + gcn L0 + 1) - 1 = 1500 * p + (gcs r + gcn L0) by omega, vpn (by omega), cl_nI (by omega), g4, show min ph 2 = 2 by omega]
  refine ⟨b1, by omega, fun z => absurd z (nI_ne (by omega) (by omega) (by omega)), fun _ => ⟨b1, by omega, by omega, fun z => absurd z (nI_ne0 (by omega) (by omega)), fun _ => ?_⟩⟩
  refine a_raiseIn_105 _ _ _ _ _ _ ?_
  rw [vpn (by omega), cl_nI (by omega), g4, show min ph 2 = 2 by omega]
  refine ⟨by omega, fun _ => ?_, fun z => absurd (Int32.le_refl _) z⟩
  refine a_raiseIn_136 _ _ _ _ _ _ ?_
  rw [vpn (by omega), cl_nI (by omega), g4, show min ph 2 = 2 by omega]
  refine ⟨by omega, fun _ => ⟨by omega, ?_⟩, fun z => absurd rfl z⟩
  have c3 : ph = 2 ∨ ph = 3 ∨ ph = 4 := by omega
  rcases c3 with c | c | c
  · rw [g6 c]
    refine ⟨fun z => absurd z (by decide), fun _ => ra_170 b1 g1 (by omega) (q _ (if_neg (by omega)).symm)⟩
  · rw [(g7 c).1, (g7 c).2, (hl c).2, litI 1, nI_sb (by omega), show lo + 1 - 1 = lo by omega]
    refine ⟨fun _ => ⟨by omega, 0, he, ac_beneath fl hg (hl c).1 ?_⟩, fun z => absurd rfl z⟩
    have e68 : aI (bnR σ g lo) 68 p = nI (gcs r + gcn L0 + 1) := by rw [bnR_ne (by omega)]; exact g1
    exact ra_170 b1 e68 (by omega) (q _ (if_pos c).symm)
  · rw [(g8 c).1]
    refine ⟨fun z => absurd z (by decide), fun _ => ra_170 b1 g1 (by omega) (q _ (if_neg (by omega)).symm)⟩
/-- a try's block or catch -/
theorem ra_D {C : Nat} (hk : VRx σ v p ((bd, i, j, pl, nv, vs, L0 ++ (1, t, h0, ph, u) :: Es, O, s, md) :: r)) (hE : noG Es) (he : 2 ≤ e) (hph : ph < 2) (hg : g < 8000) (ht : t < 1000) (h34 : sI σ 34 = nI C) (hC : C ≤ 1000)
    (q : (ph = 0 ∧ ∃ c v2 jc, c < C ∧ aI σ 45 c = nI t ∧ Mt σ (aI σ 89 g) c ∧ (∀ k, k < c → aI σ 45 k = nI t → ¬ Mt σ (aI σ 89 g) k) ∧ aI σ 31 c = nI v2 ∧ v2 < 40 ∧ aI σ 33 c = nI (ccI L0) ∧ ccI L0 < 25 ∧ aI σ 32 c = nI jc ∧ G (wI (wI (wI (wI (wI σ 70 (1500 * p + (gcs r + gcn L0)) 1) 66 (40 * (60 * p + r.length) + v2) (aI σ 90 g)) 67 (25 * (60 * p + r.length) + ccI L0) (nI g)) 62 (60 * p + r.length) (nI jc)) 73 p (aI σ 65 (60 * p + r.length)))) ∨
      ((ph = 0 → ∀ k, k < C → aI σ 45 k = nI t → ¬ Mt σ (aI σ 89 g) k) ∧ ((∃ jf, aI σ 27 t = nI jf ∧ jf < 12000 ∧ i' < 20000 ∧ ∀ σ', Ro p (fiR σ v) σ' → VR σ' v p ((bd, i', jf, pl, nv, vs, L0 ++ [(1, t, h0, 3, nI (g + 1))], [], s', md') :: r) → G σ') ∨ (aI σ 27 t = -9 ∧ RaG X e v g p (wI σ 68 p (nI (gcs r + gcn L0))) G)))) : RaG X e v g p σ G := by
  obtain ⟨⟨b1, b2, b3, b4⟩, e58, -⟩ := id hk
  have b4 : r.length + 1 ≤ 60 := b4
  have hbd := hk.bd.1
  have hbd : gcs r + gcn (L0 ++ (1, t, h0, ph, u) :: Es) ≤ 1440 := hbd
  rw [gcn_last hE] at hbd
  obtain ⟨g1, g2, g3, g4, -, g6, g7, g8⟩ := hk.gd hE
  have behind : ((∃ jf, aI σ 27 t = nI jf ∧ jf < 12000 ∧ i' < 20000 ∧ ∀ σ', Ro p (fiR σ v) σ' → VR σ' v p ((bd, i', jf, pl, nv, vs, L0 ++ [(1, t, h0, 3, nI (g + 1))], [], s', md') :: r) → G σ') ∨ (aI σ 27 t = -9 ∧ RaG X e v g p (wI σ 68 p (nI (gcs r + gcn L0))) G)) → A X 92 e MX13_raiseIn 105 [(0, vR 92), (1, vI (nI v)), (2, vI (nI g)), (3, vI (nI p)), (4, vI (nI (60 * p + r.length))), (5, vI (nI (1500 * p + (gcs r + gcn L0)))), (6, vI (nI t))] [] σ (aRV G) := fun hb => by
    refine a_raiseIn_105 _ _ _ _ _ _ ?_
    rw [vpn (by omega), cl_nI (by omega), g4, show min ph 2 = ph by omega, litI 2, le_nI (by omega) (by omega), vpn (by omega), cl_nI (by omega)]
    refine ⟨by omega, fun z => absurd z (by omega), fun _ => ⟨ht, ?_⟩⟩
    rcases hb with ⟨jf, f1, f2, f3, f4⟩ | ⟨f1, f2⟩
    · rw [f1, n0_lt (by omega)]
      refine ⟨fun z => z.elim, fun _ => ⟨1, by omega, ?_⟩⟩
      refine ac_finishes (kd := 1) (x' := nI (g + 1)) (t' := h0) (i' := i') (s' := s') (md' := md') (b' := bd) hk hE ht f1 f2 f3 (by omega) ⟨fun _ => ?_, fun c => absurd c (by omega)⟩ (fun σ' ro vr => ⟨rfl, f4 σ' ro vr⟩) rfl
      rw [litI 1, nI_sb (by omega), show g + 1 - 1 = g by omega]
    · rw [f1]
      refine ⟨fun _ => ?_, fun z => absurd (by decide) z⟩
      refine a_raiseIn_136 _ _ _ _ _ _ ?_
      rw [vpn (by omega), cl_nI (by omega), g4, show min ph 2 = ph by omega]
      exact ⟨by omega, fun z => absurd z (by rw [litI 2]; exact nI_ne (by omega) (by omega) (by omega)), fun _ => ra_170 b1 g1 (by omega) f2⟩
  refine a_raiseIn_7 _ _ _ ⟨0, by omega, ?_⟩
  refine ac_call hk ?_
  rw [vpn (by omega), vpn (by omega), cl_nI (by omega), cl_nI (by omega), g1, g2, litI 1500, pk_mul, nI_add, litI 1, nI_sb (by omega), show 1500 * p + (gcs r + gcn L0 + 1) - 1 = 1500 * p + (gcs r + gcn L0) by omega, vpn (by omega), cl_nI (by omega), g3, g4, show min ph 2 = ph by omega]
  refine ⟨b1, by omega, fun z => absurd z (nI_ne (by omega) (by omega) (by omega)), fun _ => ⟨b1, by omega, by omega, fun z => ⟨0, by omega, ?_⟩, fun z => ?_⟩⟩
  · have z0 : ph = 0 := by rw [litI 0, eq_nI (by omega) (by omega)] at z; exact z
    refine AC_of_A rfl (Nat.le_of_ble_eq_true rfl) rfl (a_isCaught_0 _ _ _ _ ?_)
    rcases q with ⟨-, c, v2, jc, q1, q2, q3, q4, q5, q6, q7, q8, q9, q10⟩ | ⟨q1, q2⟩
    · exact caught_loop h34 hC (by omega) g3 ht hg (by omega) q1 q2 q3 q4 q5 q6 q7 q8 q9 e58 b1 (by omega) ⟨fun z => absurd z (by decide), fun _ => ⟨rfl, q10⟩⟩ c 0 (by omega)
    · exact caught_none h34 hC (by omega) g3 hg (q1 z0) ⟨fun _ => behind q2, fun z => absurd rfl z⟩ C 0 (by omega)
  · rcases q with ⟨q0, -⟩ | ⟨q1, q2⟩
    · exact absurd (by rw [q0]; rfl) z
    · exact behind q2
end RAISEIN
