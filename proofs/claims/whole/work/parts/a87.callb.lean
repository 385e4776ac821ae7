/-! CALL: both -/
section CALLB
variable {X : Cx} {d e er : Nat} {κ0 κ κa κb κ1 κ' : Km} {σ0 σ σa σ1 σ' : Rm} {b V al S T sp z LT HT F0 v p n x q g k op : Nat} {st : Nat → Nat} {fr fr' : Nat → List Frm} {pt : Nat → Nat} {fs r rr : List Frm} {ch cr : List Nat} {w : Nat → Nat} {f f' : Frm} {y u val vo ca : Int32} {C : Km → Prop} {D P : Rm → Prop} {G : Rm → Prop}
variable {bd i j nv s md i' j' s' md' t h0 ph c jb a0 j2 nw : Nat} {pl pl' : Int32} {vs vs' : Nat → Int32} {L L0 : List Ite} {O Ar O' : List Int32}
/-- the code, in the class's memory -/
theorem Rn.cod (h : Rn κ0 σ0 κ σ b V al S LT HT sp F0 st fr pt ch w v f r) (ko : Vo v κ κ1) : kI κ1 67 2 = nI b ∧ b ≤ 12 ∧ b ≤ kB κ1 ∧ (∀ i k, kI κ1 (1000 + 8 * i) k = kI κ0 (1000 + 8 * i) k) ∧ Sta b κ0 σ0 := by
  obtain ⟨⟨⟨⟨⟨k1, k2, k3⟩, sta, rg⟩, -⟩, -⟩, -⟩ := h
  obtain ⟨⟨t1, t2, t3, t4, t5⟩, -⟩ := id sta
  refine ⟨?_, t4, ?_, fun i k => ?_, sta⟩
  · rw [(ko.h (h := 67) (by omega) (by omega)).1, (k1 67 (Or.inr (Or.inl (by omega)))).1]
    exact t1
  · rw [ko.1.2.2.1, k2.1]
    exact t5
  · rw [(ko.h (h := 1000 + 8 * i) (by omega) (by omega)).1, (k1 (1000 + 8 * i) (Or.inr (Or.inr (by omega)))).1]
theorem lc_call1 (h : Rn κ0 σ0 κ σ b V al S LT HT sp F0 st fr pt ch w v (bd, i, j, pl, nv, vs, L, O ++ Ar, s, md) r) (all : AllOK X d (e + 1) κ0 σ0 b (pot V S st fr)) (hx : x + pot V S st fr ≤ 199000000) (hd : 7 ≤ d) (he : 4 ≤ e) (hS : S < 6000) (hs : s = 1) (hr : r.length + 1 < 60) (e69 : kI κ0 69 i = 24) (e13 : aI σ0 13 j = 20) (e70 : kI κ0 70 i = nI c) (e14 : aI σ0 14 j = nI c) (bk : BdK σ0 c 0 Ar.length) (e15 : aI σ0 15 j = nI Ar.length) (hj : j + 1 < 12000) (gd : Good2 κ0 σ0 (fun _ => False) (bd, i + 1, j + 1, L.map itm, O.length + 1, 1)) : RunOK X d (e + 1) κ0 σ0 κ σ b x (HT + 2 * pot V S st fr) := by
  obtain ⟨n1, n2, n3, n4, n5, n6, n7, n8, n9, vr⟩ := h.num
  obtain ⟨-, -, -, -, -, -, c12, c13, c14⟩ := h.cls
  have h12 := h.1.1.2.1.2.2.1
  have hst := h.stp hS
  have acc := h.2.2.2.2.1
  have b4 := h.2.1.2.2.2.1
  have d3 := h.2.2.2.1.2.2
  obtain ⟨w1, w2, w3, w4, sta⟩ := h.cod Vo.refl
  obtain ⟨⟨-, t1, -⟩, -, -, tb⟩ := id sta
  obtain ⟨bk1, bk2, bk3, bk4, bk5⟩ := bk
  have hcb : c < b := by
    rw [t1, lt_nI (by omega) (by omega)] at bk2
    exact bk2
  obtain ⟨ks, kn, nw, a0, j2, s1, s2, s3, s4, s5, ⟨m2, m4, m5, m6, -⟩, ⟨u1, u2, u3, u4⟩, a9, j9, gd2⟩ := tb c hcb
  have ekn : kn = Ar.length := by
    rw [bk4] at u2
    exact ((nI_eq (by omega) (by omega)).mp u2).symm
  subst ekn
  rw [List.length_append] at n2
  have hj3 : aI σ 23 c = nI j2 := by rw [c13 23 (by omega) (by omega)]; exact u4
  have hz : tsz 0 r + (4 + nv + psz L + (O.length + Ar.length)) ≤ 15720 := n2
  refine rn_step (C := fun κ' => Vo v (stK κ v S) κ' ∧ VK κ' v ((c, a0, j2, -9, nw, fun k => if k < Ar.length then Ar.getD k 0 else 0, [], [], 0, 0) :: (bd, i + 1, j + 1, pl, nv, vs, L, O, 1, 1) :: r)) (D := fun σ' => Ro (pt v) (stR σ v S) σ' ∧ VR σ' v (pt v) ((c, a0, j2, -9, nw, fun k => if k < Ar.length then Ar.getD k 0 else 0, [], [], 0, 0) :: (bd, i + 1, j + 1, pl, nv, vs, L, O, 1, 1) :: r)) all hx
    (ref_ex c12 (by omega) (on_callS (i' := i + 1) (s' := 1) (md' := 1) (by omega) c12 h12.2 hS vr hj (by rw [c13 13 (by omega) (by omega)]; exact e13) (by rw [c13 14 (by omega) (by omega)]; exact e14) (by rw [c13 15 (by omega) (by omega)]; exact e15) (by omega) (fun _ σ2 hσ ro2 v2 => ⟨1, by omega, ?_⟩) (fun z => by omega)))
    (h.ppc hx (by omega) (by decide) e69 (fun κ1 vo1 vk1 => ⟨6, by omega, ?_⟩)) ?_
  · refine ac_enter (j2 := j2) (st := a0) (i' := i + 1) (nv := nw) (s2 := 0) (m2 := 0) (s' := 1) (md' := 1) v2 (by omega) bk1 bk5 (by rw [hσ, stR_k (by decide) (by decide), aI_ne (by decide)]; exact hj3) (by omega) (by omega) (by omega) s5 (fun σ' ro' vr' => ⟨ro2.trans ro', vr'⟩)
  · rw [e70]
    obtain ⟨y1, y2, y3, y4, -⟩ := h.cod vo1
    refine pp_callS (S := S) vk1 (by rw [(vo1.h (h := 79) (by omega) (by omega)).1]; exact h12.1) hS y1 y2 hcb y3 (by omega) (fun _ => ?_) (fun z => absurd z (by omega))
    have e8 : ∀ k, kI (stK κ1 v S) (1000 + 8 * c) k = kI κ0 (1000 + 8 * c) k := fun k => by rw [stK_h (by omega) (by omega)]; exact y4 c k
    refine vk_enter (j2 := j2) (s2 := 0) (m2 := 0) (b' := bd) (j' := j + 1) (s' := 1) (md' := 1) (VK.stp (S := S) vk1) ?_ (show c < kB κ1 by omega) ((e8 4).trans m4) ((e8 5).trans m5) ((e8 6).trans m6) bk5 s5 (by omega) (fun κ' vo' vk' => ⟨(Vo.stp (S := S) vo1).trans vo', vk'⟩)
    show tsz 0 r + (4 + nv + psz L + (O ++ Ar).length) ≤ 17000
    rw [List.length_append]
    omega
  · rintro κ' σ' ⟨vo, vk⟩ ⟨ro, v2⟩
    have ea := arm_un (st := st) (fr := fr) (fs := (c, a0, j2, -9, nw, fun k => if k < Ar.length then Ar.getD k 0 else 0, [], [], 0, 0) :: (bd, i + 1, j + 1, pl, nv, vs, L, O, 1, 1) :: r) c14
    have ep := pot_un (S := S + 1) (st := st) (fr := fr) (fs := (c, a0, j2, -9, nw, fun k => if k < Ar.length then Ar.getD k 0 else 0, [], [], 0, 0) :: (bd, i + 1, j + 1, pl, nv, vs, L, O, 1, 1) :: r) c14
    have eS := pot_S (V := V) (st := st) (fr := fr) hS
    rw [b4, arm_cons, arm_cons, arm_cons] at ea
    rw [b4, fws_cons, fws_cons, fws_cons, fwt_e, fwt_e, fwt_e] at ep
    have ea : cn (vArm st (un fr v ((c, a0, j2, -9, nw, fun k => if k < Ar.length then Ar.getD k 0 else 0, [], [], 0, 0) :: (bd, i + 1, j + 1, pl, nv, vs, L, O, 1, 1) :: r))) V + (s + arm r) = cn (vArm st fr) V + (0 + (1 + arm r)) := ea
    have eg : gws ([] : List Ite) = 0 := rfl
    have acc1 := acc.1
    have acc2 := acc.2.1
    have acc3 := acc.2.2
    have hac : Acc V (S + 1) F0 LT HT st (un fr v ((c, a0, j2, -9, nw, fun k => if k < Ar.length then Ar.getD k 0 else 0, [], [], 0, 0) :: (bd, i + 1, j + 1, pl, nv, vs, L, O, 1, 1) :: r)) := ⟨by omega, by omega, by omega⟩
    have fo1 : FrO κ0 σ0 F0 b (c, a0, j2, -9, nw, fun k => if k < Ar.length then Ar.getD k 0 else 0, [], [], 0, 0) := ⟨hcb, u3, Nat.zero_le _, fun x hx => absurd hx List.not_mem_nil, Or.inl ⟨rfl, gd2⟩⟩
    have fo2 : FrO κ0 σ0 F0 b (bd, i + 1, j + 1, pl, nv, vs, L, O, 1, 1) := ⟨n9.1, n9.2.1, Nat.le_refl _, n9.2.2.2.1, Or.inr (Or.inl ⟨rfl, rfl, ⟨i, rfl, by rw [e69]; decide, by rw [e69]; decide⟩, gd⟩)⟩
    refine ⟨_, _, _, _, _, _, _, _, _, _, _, _, _, _, _, hst.locA vo ro vk v2 ⟨rfl, fo1, fun h0 hh => ?_⟩ hac (fun g _ => ?_) (fun f0 it hf hi i1 i2 => ?_), by omega, by omega⟩
    · rcases List.mem_cons.mp hh with e | hh
      · rw [e]; exact ⟨rfl, fo2⟩
      · exact d3 h0 hh
    · rw [kps_cons, kps_cons, kps_cons]
      show kpl g ([] : List Ite) + (kpl g L + kps g r) ≤ kpl g L + kps g r
      have : kpl g ([] : List Ite) = 0 := rfl
      omega
    · rcases List.mem_cons.mp hf with e | hf
      · rw [e] at hi; exact absurd hi List.not_mem_nil
      · rcases List.mem_cons.mp hf with e | hf
        · rw [e] at hi; exact ⟨_, List.mem_cons_self .., hi⟩
        · exact ⟨f0, List.mem_cons_of_mem _ hf, hi⟩
theorem lc_call0 (h : Rn κ0 σ0 κ σ b V al S LT HT sp F0 st fr pt ch w v (bd, i, j, pl, nv, vs, L, O, s, md) r) (allx : AllX X d (e + 1) κ0 σ0 b (pot V S st fr)) (hx : x + pot V S st fr ≤ 199000000) (hd : 7 ≤ d) (he : 65 ≤ e) (hS : S < 6000) (hs : s = 1) (hr : r.length + 1 = 60) (e69 : kI κ0 69 i = 24) (e13 : aI σ0 13 j = 20) (e70 : kI κ0 70 i = nI c) (e14 : aI σ0 14 j = nI c) (hcb : c < b) (e15 : aI σ0 15 j = nI k) (hj : j + 1 < 12000) : RunOK X d (e + 1) κ0 σ0 κ σ b x (HT + 2 * pot V S st fr) := by
  obtain ⟨n1, n2, n3, n4, n5, n6, n7, n8, n9, vr⟩ := h.num
  obtain ⟨-, -, -, -, -, -, c12, c13, c14⟩ := h.cls
  obtain ⟨f88, fF, fl, sta⟩ := h.f88
  have h0 : kI κ (1002 + 8 * v) 0 = nI v := (h.1.1.2.2.1 v c14.1 c14.2).1
  have h12 := h.1.1.2.1.2.2.1
  have hst := h.stp hS
  have acc := h.2.2.2.2.1
  have eS := pot_S (V := V) (st := st) (fr := fr) hS
  obtain ⟨va, ra⟩ := vr.act (i' := i + 1) (j' := j + 1) (s' := 0) (md' := 0) (by omega) hj
  have vs2 : VR (stR (wI σ 62 (60 * pt v + r.length) (nI (j + 1))) v S) v (pt v) ((bd, i + 1, j + 1, pl, nv, vs, L, O, 0, 0) :: r) := va.cg (fun k h1 h2 _ => stR_k (by omega) (by omega))
  have ro2 : Ro (pt v) (stR σ v S) (stR (wI σ 62 (60 * pt v + r.length) (nI (j + 1))) v S) := Ro.stp ra
  have f88' : sI (stR (wI σ 62 (60 * pt v + r.length) (nI (j + 1))) v S) 88 = nI F0 := by
    rw [show sI (stR (wI σ 62 (60 * pt v + r.length) (nI (j + 1))) v S) 88 = sI σ 88 from congrFun ((stR_k (by decide) (by decide)).trans (aI_ne (by decide))) 0]
    exact f88
  refine rn_fail (v' := v) (g' := F0) (p' := pt v) (C := fun κ' => ∃ κa κb, Vo v (stK κ v S) κa ∧ VK κa v ((bd, i + 1, j + 1, pl, nv, vs, L, O, 0, 0) :: r) ∧ FmC κa κb F0 (nI 12) 0 (nI v) pl 0 ∧ κ' = cI κb 79 14 (nI (F0 + 1))) (D := fun σ' => σ' = flS (stR (wI σ 62 (60 * pt v + r.length) (nI (j + 1))) v S) F0 (nI 12) 0 (nI v) pl (-9)) allx hx c12 (by omega) ⟨_, rfl, fun G hG => ?_⟩
    (h.ppc (C := fun κ' => ∃ κa κb, Vo v (stK κ v S) κa ∧ VK κa v ((bd, i + 1, j + 1, pl, nv, vs, L, O, 0, 0) :: r) ∧ FmC κa κb F0 (nI 12) 0 (nI v) pl 0 ∧ κ' = cI κb 79 14 (nI (F0 + 1))) hx (by omega) (by decide) e69 (fun κ1 vo1 vk1 => ⟨6, by omega, ?_⟩)) ?_
  · refine on_callS (i' := i + 1) (s' := 0) (md' := 0) (by omega) c12 h12.2 hS vr hj (by rw [c13 13 (by omega) (by omega)]; exact e13) (by rw [c13 14 (by omega) (by omega)]; exact e14) (by rw [c13 15 (by omega) (by omega)]; exact e15) (by omega) (fun z => by omega) (fun _ σ2 hσ ro3 v3 => ⟨62, by omega, ?_⟩)
    subst hσ
    exact ac_arises v3.vx f88' (by omega) (by omega) hG
  · rw [e70]
    obtain ⟨y1, y2, y3, y4, -⟩ := h.cod vo1
    refine pp_callS (S := S) vk1 (by rw [(vo1.h (h := 79) (by omega) (by omega)).1]; exact h12.1) hS y1 y2 hcb y3 (by omega) (fun z => by omega) (fun _ => ?_)
    have vo2 : Vo v (stK κ v S) (stK κ1 v S) := Vo.stp (S := S) vo1
    refine kc_raise (σ := stR σ v S) (F0 := F0) (VK.stp (S := S) vk1) ?_ (hst.1.1.2.2.2.2.2.2.vo vo2 (Ro.refl (p := 0))) (by omega) (fun κb fc => ⟨stK κ1 v S, κb, vo2, (VK.stp (S := S) vk1).gho, fc, rfl⟩)
    rw [stK_v (by decide), vo1.2.2 0 (by decide) (by decide) (by decide) (by decide) (by decide)]
    exact h0
  · rintro κ' σ' ⟨κa, κb, vo, vka, fc, rfl⟩ rfl
    obtain ⟨hR, hp⟩ := hst.fail (k := 12) (f' := (bd, i + 1, j + 1, pl, nv, vs, L, O, 0, 0)) (ca := -9) (val := 0) (vo := nI v) (pl := pl) hs vo ro2 vka vs2 ((n9.frx sta).to (by omega) (by omega)) rfl rfl (by omega) (Or.inl rfl) fc
    exact ⟨_, _, _, _, _, _, _, _, _, _, _, _, _, _, hR, rfl, by omega, by omega⟩
/-- CALL with no step left -/
theorem lc_spentC (h : Rn κ0 σ0 κ σ b V al S LT HT sp F0 st fr pt ch w v (bd, i, j, pl, nv, vs, L, O, s, md) r) (hS : S = 6000) (hx : x + pot V S st fr ≤ 199000000) (hd : 7 ≤ d) (he : 4 ≤ e) (hj : j + 1 < 12000) (e69 : kI κ0 69 i = 24) (e70 : kI κ0 70 i = nI c) (hcb : c < b) (e13 : aI σ0 13 j = 20) : RunOK X d (e + 1) κ0 σ0 κ σ b x (HT + 2 * pot V S st fr) := by
  have h12 := h.1.1.2.1.2.2.1
  refine rn_spent (op := 20) h hS hx (by omega) he (by omega) e13 (Or.inr rfl) (fun Q hQ => h.ppc (C := fun κ' => ∃ κ1, Vo v κ κ1 ∧ VK κ1 v ((bd, i + 1, j, pl, nv, vs, L, O, s, md) :: r) ∧ κ' = cI κ1 79 17 1) hx (by omega) (by decide) e69 (fun κ1 vo1 vk1 => ⟨6, by omega, ?_⟩) Q (fun κ' hc => ?_))
  · rw [e70]
    obtain ⟨y1, y2, y3, y4, -⟩ := h.cod vo1
    have hH : isH κ1 (1000 + 8 * c) 0 := isH_body (by omega)
    refine KC_of_K rfl (Nat.le_of_ble_eq_true rfl) rfl (k_6_playPart_0 _ _ _ ⟨fun z => absurd z (by decide), fun z => absurd z (by decide), fun z => absurd z (by decide), fun z => absurd z (by decide), fun _ => ⟨vk1.v, 5, by omega, KC_of_K rfl (Nat.le_of_ble_eq_true rfl) rfl (k_6_callBy_0 _ _ ⟨vk1.v, 0, by omega, kc_sat y1 y2 hcb y3 ⟨Or.inr hH.1, fun z => absurd z (by omega), fun _ => ⟨hH, 0, by omega, ?_⟩⟩⟩)⟩, fun z => absurd z (by decide), fun z => absurd z (by decide), fun z => absurd z (by decide), fun z => absurd z (by decide), fun z => absurd z (by decide), fun z => absurd (by decide) z⟩)
    refine kc_step vk1.v (by rw [(vo1.h (h := 79) (by omega) (by omega)).1]; exact h12.1) (by omega) (fun z => absurd z (by omega)) (fun _ => ⟨fun _ => k_6_callBy_21 _ _ _ ⟨rfl, k_6_playPart_213 _ _ _ ⟨rfl, κ1, vo1, vk1, rfl⟩⟩, fun z => absurd rfl z⟩)
  · obtain ⟨κ1, vo1, vk1, rfl⟩ := hc
    exact hQ κ1 vo1 vk1
end CALLB
