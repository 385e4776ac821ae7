/-! STEP and the JUMP back: two acts of both -/
section BACK
variable {X : Cx} {d e : Nat} {κ0 κ κ' : Km} {σ0 σ σ' : Rm} {b V al S T LT HT sp F0 z v p x n : Nat} {st : Nat → Nat} {fr : Nat → List Frm} {pt : Nat → Nat} {ch : List Nat} {w rz : Nat → Nat} {r fs : List Frm} {f f' : Frm}
variable {bd i j nv s md i' j' s' md' i2 j2 : Nat} {pl : Int32} {vs : Nat → Int32} {L : List Ite} {O : List Int32} {y : Int32}
theorem rn_stepk {C : Km → Prop} {D : Rm → Prop} (k : Nat) (all : AllOK X d e κ0 σ0 b (pot V S st fr)) (hx : x + pot V S st fr ≤ 199000000) (hk : 1 ≤ k) (rf : ∃ σ1, D σ1 ∧ ∀ Q' : Res → Rm → Prop, A X 92 e MX13_goes 0 [(0, vR 92)] [] σ1 Q' → A X 92 e MX13_goes 0 [(0, vR 92)] [] σ Q')
    (cl : ∀ Q : Res → Km → Prop, (∀ κ', C κ' → K X d MX6_run 2 [(0, vR 79), (1, vI (nI (x + k)))] [] κ' Q) → K X d MX6_run 2 [(0, vR 79), (1, vI (nI x))] [] κ Q)
    (rn : ∀ κ' σ', C κ' → D σ' → ∃ V' al' S' LT' HT' sp' F0' st' fr' pt' ch' w' v' f' r', Rn κ0 σ0 κ' σ' b V' al' S' LT' HT' sp' F0' st' fr' pt' ch' w' v' f' r' ∧ pot V' S' st' fr' + k ≤ pot V S st fr ∧ HT' + 2 * pot V' S' st' fr' ≤ HT + 2 * pot V S st fr) : RunOK X d e κ0 σ0 κ σ b x (HT + 2 * pot V S st fr) := by
  intro Q hQ
  obtain ⟨σ1, hD, adv⟩ := rf
  refine cl Q (fun κ' hC => ?_)
  obtain ⟨V', al', S', LT', HT', sp', F0', st', fr', pt', ch', w', v', f', r', h', hp, hb⟩ := rn κ' σ1 hC hD
  exact all _ _ _ _ _ _ _ _ _ _ _ _ _ _ _ _ _ _ h' (by omega) (by omega) Q (fun κ2 σ2 V2 al2 S2 LT2 HT2 sp2 F2 z2 st2 fr2 pt2 w2 dk e15 hb2 adv' => hQ κ2 σ2 V2 al2 S2 LT2 HT2 sp2 F2 z2 st2 fr2 pt2 w2 dk e15 (by omega) (fun Q' hq => adv Q' (adv' Q' hq)))
/-- an act of the class, out of what holds of all voices -/
theorem RelM.act {a : Nat} {C : Km → Prop} (a1 : RelM κ0 σ0 κ σ b V al S v sp 0 LT HT F0 st fr pt ch) (b5 : kI κ 79 14 = 0) (hv : 1 ≤ v ∧ v ≤ V) (vk : VK κ v ((bd, i, j, pl, nv, vs, L, O, s, md) :: r)) (hi : nI i < kI κ0 68 2) (hi2 : i < 20000) (hx : x < 200000000) (hd : 1 ≤ d) (ha : a < 20) (e69 : kI κ0 69 i = nI a) (wc : ∀ κ1, Vo v κ κ1 → VK κ1 v ((bd, i + 1, j, pl, nv, vs, L, O, s, md) :: r) → ∃ ew, ew + 1 ≤ d ∧ KC' X ew MX10_work [vR (1002 + 8 * v), vI (nI a), vI (kI κ0 70 i)] κ1 (kRI fun y κ' => y = 1 ∧ C κ')) :
    ∀ Q : Res → Km → Prop, (∀ κ', C κ' → K X d MX6_run 2 [(0, vR 79), (1, vI (nI (x + 1)))] [] κ' Q) → K X d MX6_run 2 [(0, vR 79), (1, vI (nI x))] [] κ Q := by
  intro Q hQ
  obtain ⟨⟨⟨k1, k2, k3⟩, sta, rg⟩, ⟨s1, s2, s3, s4, s5, s6, s7, s8, s9, s10, s11, s12, s13, s14, s15⟩, -⟩ := a1
  have e68 := k1 68 (Or.inr (Or.inl (by omega)))
  have e69' := k1 69 (Or.inr (Or.inl (by omega)))
  have e70 := k1 70 (Or.inr (Or.inl (by omega)))
  obtain ⟨t1, ⟨m, m1, m2, m3, m4⟩, t3⟩ := sta
  rw [m1, lt_nI (by omega) (by omega)] at hi
  refine run_act (m := m) (V := V) (v := v) hd hx s1.1 s8 s9 s4.1 hv s7.1 b5 vk.pc9 ⟨by rw [e68.1]; exact m1, by omega, by rw [e69'.2.2]; exact m3, by rw [e70.2.2]; exact m4⟩ hi ?_
  rw [e69'.1, e70.1, e69, litI 20, litI 40, lt_nI (by omega) (by omega), lt_nI (by omega) (by omega)]
  obtain ⟨ew, he, hc⟩ := wc _ (Vo.reg (by decide)) vk.pc
  refine ⟨fun _ => ⟨ew, he, hc.mono ?_⟩, fun z => absurd ha z, fun z => absurd (show a < 40 by omega) z⟩
  rintro r' κ' ⟨y, rfl, rfl, q⟩
  exact ⟨_, rfl, fun z => absurd z (by decide), fun _ => hQ κ' q⟩
theorem wI_same {k i : Nat} {u1 u2 : Int32} (q : Nat) : aI (wI (wI σ k i u1) k i u2) q = aI (wI σ k i u2) q := by
  by_cases c : q = k
  · subst c
    funext a
    by_cases c2 : a = i
    · rw [c2, aI_eq, aI_eq]
    · rw [aI_ni c2, aI_ni c2, aI_ni c2]
  · rw [aI_ne c, aI_ne c, aI_ne c]
/-- a jump of the reference: the act behind it needn't be there -/
theorem on_jump2 {Q : Res → Rm → Prop} (hd : 2 ≤ d) (h77 : sI σ 77 = nI v) (hk : VR σ v p ((bd, i, j, pl, nv, vs, L, O, s, md) :: r)) (hj : j < 12000) (h13 : aI σ 13 j = 23) (h14 : aI σ 14 j = nI j2) (hj2 : j2 < 12000) (hi : i' < 20000) (q : ∀ σ', Ro p σ σ' → VR σ' v p ((bd, i', j2, pl, nv, vs, L, O, s', md') :: r) → Q (.inl none) σ') : A X 92 d MX13_goesOn 0 [(0, vR 92)] [] σ Q := by
  have hh := hk
  obtain ⟨⟨h1, h2, h3, h4⟩, h5, h6, h7, h8⟩ := hh
  have h4 : r.length + 1 ≤ 60 := h4
  obtain ⟨va, ra⟩ := hk.act (i' := i') (j' := j2) (s' := s') (md' := md') hi hj2
  refine on_act (op := 23) (by omega) h77 hk.vx hj h13 (by omega) ?_
  refine a_goesOn_124 _ _ _ _ _ _ ⟨fun z => absurd z (by decide), fun z => absurd z (by decide), fun z => absurd z (by decide), fun z => absurd z (by decide), fun z => absurd z (by decide), fun z => absurd z (by decide), fun z => absurd z (by decide), fun z => absurd z (by decide), fun z => absurd z (by decide), fun z => absurd z (by decide), fun z => absurd z (by decide), fun z => absurd z (by decide), fun z => absurd z (by decide), fun z => absurd z (by decide), fun _ => ⟨1, hd, AC_of_A rfl (Nat.le_of_ble_eq_true rfl) rfl (a_controls_0 _ _ _ _ _ ?_)⟩⟩
  rw [vpn (a := v) (by omega)]
  refine ⟨by omega, fun z => absurd z (by decide), fun z => absurd z (by decide), fun _ => ?_, fun z => absurd z (by decide), fun z => absurd z (by decide), fun z => absurd z (by decide), fun z => absurd z (by decide), fun z => absurd z (by decide), fun z => absurd z (by decide), fun z => absurd z (by decide), fun z => absurd z (by decide), fun z => absurd (by decide) z⟩
  rw [h14, vpn (by omega), cl_nI (by omega)]
  refine ⟨by omega, ?_⟩
  rintro s29 rfl
  refine a_controls_449 _ _ _ _ _ _ ⟨rfl, a_goesOn_499 _ _ _ _ _ _ (q _ ⟨fun k hk => ?_, rfl, fun k a h1 h2 h3 => ?_⟩ (va.cg (fun k _ _ _ => wI_same k)))⟩
  · rw [wI_same k]; exact ra.1 k hk
  · rw [wI_same k]; exact ra.2.2 k a h1 h2 h3
theorem lc_back (h : Rn κ0 σ0 κ σ b V al S LT HT sp F0 st fr pt ch w v (bd, i, j, pl, nv, vs, L, O, s, md) r) (all : AllOK X d (e + 1) κ0 σ0 b (pot V S st fr)) (hx : x + pot V S st fr ≤ 199000000) (hd : 7 ≤ d) (he : 2 ≤ e) (hS : S < 6000) (hj : j + 1 < 12000) (e69 : kI κ0 69 i = 20) (e13 : aI σ0 13 j = 0) (e14 : aI σ0 14 j = kI κ0 70 i) (f69 : kI κ0 69 (i + 1) = 15) (hi1 : nI (i + 1) < kI κ0 68 2) (f13 : aI σ0 13 (j + 1) = 23) (f70 : kI κ0 70 (i + 1) = nI i2) (f14 : aI σ0 14 (j + 1) = nI j2) (g : Good2 κ0 σ0 (fun _ => False) (bd, i2, j2, L.map itm, O.length, 1)) : RunOK X d (e + 1) κ0 σ0 κ σ b x (HT + 2 * pot V S st fr) := by
  obtain ⟨n1, n2, n3, n4, n5, n6, n7, n8, n9, vr⟩ := h.num
  obtain ⟨⟨q1, q2, q3⟩, -, -, -, -, -, c12, c13, c14⟩ := h.cls
  obtain ⟨-, l2, -, l4, -, l6, -⟩ := g.loc
  have l4 : j2 + 1 < 12000 := l4
  have l2 : i2 + 1 < 20000 := l2
  have h12 := h.1.1.2.1.2.2.1
  have hst := h.stp hS
  have acc := h.2.2.2.2.1
  have b4 := h.2.1.2.2.2.1
  have hne : fr v ≠ [] := by rw [b4]; exact List.cons_ne_nil _ _
  refine rn_stepk (C := fun κ' => Vo v (stK κ v S) κ' ∧ VK κ' v ((bd, i2, j2, kI κ0 70 i, nv, vs, L, O, 1, 0) :: r)) (D := fun σ' => Ro (pt v) (stR σ v S) σ' ∧ VR σ' v (pt v) ((bd, i2, j2, kI κ0 70 i, nv, vs, L, O, 1, 0) :: r)) 2 all hx (by omega) ?_ ?_ ?_
  · obtain ⟨σ1, ⟨r1, v1⟩, adv1⟩ := ref_ex (e := e) (Pp := fun σ' => Ro (pt v) (stR σ v S) σ' ∧ VR σ' v (pt v) ((bd, i + 1, j + 1, kI κ0 70 i, nv, vs, L, O, 1, 0) :: r)) c12 (by omega) (on_step (s' := 1) (md' := 0) he c12 h12.2 hS vr hj (by rw [c13 13 (by omega) (by omega)]; exact e13) (by rw [c13 14 (by omega) (by omega)]; exact e14) (by omega) (fun σ' ro vr' => ⟨rfl, ro, vr'⟩))
    have f77 : sI σ1 77 = nI v := (congrFun (r1.s (by decide)) 0).trans ((congrFun (stR_k (by decide) (by decide)) 0).trans c12)
    obtain ⟨σ2, ⟨r2, v2⟩, adv2⟩ := ref_ex (e := e) (Pp := fun σ' => Ro (pt v) σ1 σ' ∧ VR σ' v (pt v) ((bd, i2, j2, kI κ0 70 i, nv, vs, L, O, 1, 0) :: r)) f77 (by omega) (on_jump2 (s' := 1) (md' := 0) he f77 v1 hj (by rw [r1.s (by decide), stR_k (by decide) (by decide), c13 13 (by omega) (by omega)]; exact f13) (by rw [r1.s (by decide), stR_k (by decide) (by decide), c13 14 (by omega) (by omega)]; exact f14) (by omega) (by omega) (fun σ' ro vr' => ⟨rfl, ro, vr'⟩))
    exact ⟨σ2, ⟨r1.trans r2, v2⟩, fun Q' hq => adv1 Q' (adv2 Q' hq)⟩
  · intro Q hQ
    refine h.ppc (C := fun κ' => Vo v (stK κ v S) κ' ∧ VK κ' v ((bd, i + 1, j + 1, kI κ0 70 i, nv, vs, L, O, 1, 0) :: r)) hx (by omega) (by decide) e69 (fun κ1 vo1 vk1 => ⟨4, by omega, pp_step (S := S) vk1 (by rw [(vo1.h (h := 79) (by omega) (by omega)).1]; exact h12.1) hS (fun κ' vo2 vk2 => ⟨(Vo.stp (S := S) vo1).trans vo2, vk2⟩)⟩) Q (fun κ3 hc3 => ?_)
    obtain ⟨vo3, vk3⟩ := hc3
    have rm := hst.1.1.vo (fs := (bd, i + 1, j + 1, kI κ0 70 i, nv, vs, L, O, 1, 0) :: r) c14 vo3 (Ro.refl (p := pt v)) hne (List.cons_ne_nil _ _)
    refine rm.act (a := 15) (C := fun κ' => Vo v (stK κ v S) κ' ∧ VK κ' v ((bd, i2, j2, kI κ0 70 i, nv, vs, L, O, 1, 0) :: r)) (by rw [(vo3.h (h := 79) (by omega) (by omega)).1]; exact hst.2.1.2.2.2.2) c14 vk3 hi1 (by omega) (by omega) (by omega) (by decide) f69 (fun κ4 vo4 vk4 => ⟨4, by omega, ?_⟩) Q hQ
    rw [f70]
    exact wk_jump vk4 (fun κ' vo vk => ⟨rfl, (vo3.trans vo4).trans vo, vk⟩)
  · rintro κ' σ' ⟨vo, vk⟩ ⟨ro, v2⟩
    have ea := arm_un (st := st) (fr := fr) (fs := (bd, i2, j2, kI κ0 70 i, nv, vs, L, O, 1, 0) :: r) c14
    have ep := pot_un (S := S + 1) (st := st) (fr := fr) (fs := (bd, i2, j2, kI κ0 70 i, nv, vs, L, O, 1, 0) :: r) c14
    have eS := pot_S (V := V) (st := st) (fr := fr) hS
    rw [b4] at ea ep
    have ea : cn (vArm st (un fr v ((bd, i2, j2, kI κ0 70 i, nv, vs, L, O, 1, 0) :: r))) V + (s + arm r) = cn (vArm st fr) V + (1 + arm r) := ea
    have ep : pot V (S + 1) st (un fr v ((bd, i2, j2, kI κ0 70 i, nv, vs, L, O, 1, 0) :: r)) + (((9600 - i) + 22000 * s + gws L) + fws r) = pot V (S + 1) st fr + (((9600 - i2) + 22000 * 1 + gws L) + fws r) := ep
    have acc1 := acc.1
    have acc2 := acc.2.1
    have acc3 := acc.2.2
    have hac : Acc V (S + 1) F0 LT HT st (un fr v ((bd, i2, j2, kI κ0 70 i, nv, vs, L, O, 1, 0) :: r)) := ⟨by omega, by omega, by omega⟩
    exact ⟨_, _, _, _, _, _, _, _, _, _, _, _, _, _, _, hst.loc2 (f' := (bd, i2, j2, kI κ0 70 i, nv, vs, L, O, 1, 0)) vo ro vk v2 rfl (n9.to (by omega) g) hac (fun g => rfl) (fun y hy _ _ => hy), by omega, by omega⟩
end BACK
