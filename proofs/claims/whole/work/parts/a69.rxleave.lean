/-! a failure leaves a voice: both -/
section RXLEAVE
variable {X : Cx} {d e er : Nat} {κ0 κ κ1 κ2 κ' : Km} {σ0 σ σ1 σ2 σ' : Rm} {b V al S T sp z LT HT F0 v p n x q s r g : Nat} {st : Nat → Nat} {fr : Nat → List Frm} {pt : Nat → Nat} {fs rr : List Frm} {ch cr : List Nat} {w : Nat → Nat} {f f1 : Frm} {y u : Int32} {C : Km → Prop} {D : Rm → Prop}
theorem cnt_st (hv : 1 ≤ n ∧ n ≤ V) (h0 : st n ≠ 0) (hs : s ≠ 0) : cn (vArm (un st n s) fr) V = cn (vArm st fr) V ∧ pot V S (un st n s) fr = pot V S st fr := by
  have a := arm_un2 (V := V) (st := st) (fr := fr) (s := s) (fs := fr n) hv
  have c := pot_un2 (V := V) (S := S) (st := st) (fr := fr) (s := s) (fs := fr n) hv
  rw [un_self, vA_pos h0, vA_pos hs] at a
  rw [un_self, vW_pos h0, vW_pos hs] at c
  omega
/-- both memories, as the voice is over and the turn has gone to its resumer -/
theorem Rx.left {κe : Km} (h : Rx κ0 σ0 κ σ b V al S LT HT sp F0 st fr pt ch w v f [] g) (hs : 4 ≤ s ∧ s ≤ 6) (hr : r ≤ V) (he : κe = enK κ v sp (nI s) ∨ κe = cI (enK κ v sp (nI s)) 79 14 0) (hK : HdC κe κ2 HT (nI v) (nI r)) (hR : HdR (enR (wI σ 60 (pt v) 0) v al (nI s)) σ2 HT (nI v) (nI r)) :
    (Bn κ0 σ0 (cI κ2 79 13 (nI r)) (wS σ2 77 (nI r)) b V (al - 1) S r (sp + 1) 0 LT (HT + 1) F0 (un st v s) (un fr v []) pt 0 ∧ (∀ k, k ≠ 48 → k ≠ 49 → k ≠ 58 → k ≠ 59 → k ≠ 60 → k ≠ 83 → k ≠ 84 → k ≠ 85 → aI σ2 k = aI σ k) ∧ (∀ h, h ≠ 79 → h ≠ 82 → h ≠ 83 → h ≠ 1002 + 8 * v → h ≠ 1003 + 8 * v → h ≠ 1004 + 8 * sp → kI κ2 h = kI κ h ∧ kW κ2 h = kW κ h) ∧ kI κ2 79 14 = kI κe 79 14) ∧ (Acc V S F0 LT (HT + 1) (un st v s) (un fr v []) ∧ pot V S (un st v s) (un fr v []) < pot V S st fr ∧ HT + 1 + 2 * pot V S (un st v s) (un fr v []) ≤ HT + 2 * pot V S st fr) ∧ ∀ y, cn (fun n => kps y (un fr v [] n)) V ≤ cn (fun n => kps y (fr n)) V := by
  have hcl := h.cls
  obtain ⟨a, c, m, ⟨b1, b2, b3, b4, b5, b6⟩, fx, acc, col⟩ := h
  have hp12 : pt v < 12 := hcl.2.1.1.1
  have ro0 : Ro (pt v) σ (wI σ 60 (pt v) 0) := Ro.w (by omega) (by omega) (by show 1 * pt v ≤ pt v; omega) (by show pt v < 1 * (pt v + 1); omega)
  have hE := a.end (x' := 0) (s := s) ⟨b1, b2⟩ (by rw [b3]; omega) hs (Or.inr rfl)
  have hE2 := hE.part (ro0.ends (n := v) (al := al) (y := nI s)) (fun n n1 n2 hn => by
    by_cases cn' : n = v
    · rw [cn', un_eq] at hn; exact absurd rfl hn
    · rw [un_ne cn'] at hn
      exact a.2.2.2.1.2.2.2.2.1 n v n1 n2 b1 b2 cn' hn (by rw [b4]; exact List.cons_ne_nil _ _))
  rw [hasF_one (by rw [b4]; exact List.cons_ne_nil _ _)] at hE2
  have hE3 : Bn κ0 σ0 κe (enR (wI σ 60 (pt v) 0) v al (nI s)) b V (al - 1) S v (sp + 1) 0 LT HT F0 (un st v s) (un fr v []) pt 0 := by
    rcases he with e | e
    · rw [e]; exact hE2
    · rw [e]; exact hE2.kx (Or.inl ⟨rfl, Or.inl rfl⟩)
  have hB := (hE3.hand hK hR).turn hr
  have eke : ∀ h, h ≠ 79 → kI κe h = kI (enK κ v sp (nI s)) h ∧ kW κe h = kW (enK κ v sp (nI s)) h := fun h hh => by
    rcases he with e | e
    · rw [e]; exact ⟨rfl, rfl⟩
    · rw [e]; exact ⟨kI_ne hh, rfl⟩
  have hf1 : 1 ≤ fwt f := by
    have := fx.1.2.2.2.2.1.2
    show 1 ≤ (9600 - frI f) + 22000 * frS f + gws (frL f)
    omega
  have e1 := arm_un2 (V := V) (st := st) (fr := fr) (s := s) (fs := []) ⟨b1, b2⟩
  have e2 := pot_un2 (V := V) (S := S) (st := st) (fr := fr) (s := s) (fs := []) ⟨b1, b2⟩
  rw [b4, vA_pos (by omega), vA_pos (by omega)] at e1
  rw [b4, vW_pos (by omega), vW_pos (by omega)] at e2
  have e1 : cn (vArm (un st v s) (un fr v [])) V + (frS f + 0) = cn (vArm st fr) V + 0 := e1
  have e2 : pot V S (un st v s) (un fr v []) + (fwt f + 0) = pot V S st fr + 0 := e2
  obtain ⟨c1, c2, c3⟩ := acc
  refine ⟨⟨hB, fun k k1 k2 k3 k4 k5 k6 k7 k8 => ?_, fun h h1 h2 h3 h4 h5 h6 => ?_, ?_⟩, ⟨⟨by omega, by omega, by omega⟩, by omega, by omega⟩, fun y => ?_⟩
  · rw [(hR.1 k (by omega)).1, enR_k k1 k2 k3 k4, aI_ne k5]
  · obtain ⟨z1, z2, z3⟩ := hK.1.1.1 h (by omega)
    rw [z1, z3, (eke h h1).1, (eke h h1).2, (enK_h h1 h4 h6).1, enK_w h5 h6]
    exact ⟨rfl, rfl⟩
  · rw [(hK.1.1.1 79 (by omega)).1]
  · have e := kps_un (g := y) (fr := fr) (fs := []) (V := V) (v := v) ⟨b1, b2⟩
    have : kps y [] = 0 := rfl
    omega
/-- the one that waits: its calls -/
theorem Md.wait (h : Md κ0 σ0 σ F0 b n 3 fs) : ∃ f1 rr m, fs = f1 :: rr ∧ frM f1 = m ∧ aI σ 56 n = nI m ∧ 1 ≤ m ∧ m ≤ 3 ∧ FrO κ0 σ0 F0 b f1 ∧ ∀ h, h ∈ rr → frM h = 1 ∧ FrO κ0 σ0 F0 b h := by
  rcases h with ⟨z, -⟩ | ⟨-, m, h1, -, -, h2⟩
  · omega
  · cases fs with
    | nil => exact absurd rfl h1.ne
    | cons f1 rr =>
      obtain ⟨h3, h4, h5⟩ := h1
      obtain ⟨h6, h7⟩ := h2 rfl
      have m3 : m ≤ 3 := by
        rcases h4.2.2.2.2 with ⟨z, _⟩ | ⟨z, _⟩ | ⟨z, _⟩ | ⟨z, _⟩ <;> omega
      exact ⟨f1, rr, m, rfl, h3, h6, h7, m3, h4, h5⟩
theorem rx_BN (h : Rx κ0 σ0 κ σ b V al S LT HT sp F0 st fr pt (v :: r :: cr) w v f [] g) (allx : AllX X d e κ0 σ0 b (pot V S st fr)) (hx : x + pot V S st fr ≤ 199000000) (hd : 7 ≤ d) (her : 5 * (v :: r :: cr).length ≤ er) (hg : noG (frL f)) (hc : aI σ 57 v = 0 ∨ aI σ 89 g ≠ 14) : RunX X d e er κ0 σ0 κ σ b x (HT + 2 * pot V S st fr) v g (pt v) := by
  have hcl := h.cls
  obtain ⟨bd, i, j, pl, nv, vs, L, O, s, md⟩ := f
  obtain ⟨q1, q2, q3, q4, q5, q6, q7, q8⟩ := h.num
  have h' := h
  obtain ⟨a, c, m, ⟨b1, b2, b3, b4, b5, b6⟩, fx, acc, col⟩ := h'
  have hlen : (v :: r :: cr).length = cr.length + 2 := rfl
  rw [hlen] at her
  have hres := c.res
  have er0 : (r :: cr).headD 0 = r := rfl
  rw [er0] at hres
  obtain ⟨h54, -, hrV, hr3⟩ := hres
  obtain ⟨r3, rv, r1⟩ := hr3 (List.cons_ne_nil _ _)
  obtain ⟨v1, v2, v3, v4, v5, v6, v7, v8, v9⟩ := a.2.2.1 v b1 b2
  obtain ⟨cl, cl1, cl2, cl3⟩ := v9
  have hV60 := a.2.1.2.2.2.2.2.2.2.1
  have hA : 1 ≤ al := by
    rw [a.2.2.2.1.1]
    have e := cn_up (g := aliv st) (g' := un (aliv st) v 0) (n := v) (fun k hk => un_ne hk) V b1 b2
    rw [un_eq] at e
    have hf : aliv st v = 1 := if_pos (by rw [b3]; omega)
    omega
  have hT : HT < 2000000000 := by have := acc.2.2; omega
  obtain ⟨gg, p1, p2⟩ := a.hp
  -- the reference
  have e5 : ∀ k, k ≠ 60 → aI (wI σ 60 (pt v) 0) k = aI σ k := fun k hk => aI_ne hk
  have eE : ∀ k, k ≠ 48 → k ≠ 49 → k ≠ 58 → k ≠ 59 → k ≠ 60 → aI (enR (wI σ 60 (pt v) 0) v al 5) k = aI σ k := fun k k1 k2 k3 k4 k5 => by rw [enR_k k1 k2 k3 k4, e5 k k5]
  obtain ⟨σ2, hd2, hh⟩ := ac_exV (ac_hand (X := X) (F := fun s => HdR (enR (wI σ 60 (pt v) 0) v al 5) s HT (nI v) (nI r)) (p2.fr (eE 83 (by decide) (by decide) (by decide) (by decide) (by decide)) (eE 84 (by decide) (by decide) (by decide) (by decide) (by decide)) (eE 85 (by decide) (by decide) (by decide) (by decide) (by decide))) hT (fun s hs => hs))
  have h58r : aI (wI (wS σ2 77 (nI r)) 49 r 2) 58 r = nI (pt r) := by
    obtain ⟨f1, rr, mm, z1, z2, z3, z4, z5, z6, z7⟩ := (r3 ▸ m r r1 hrV rv).wait
    have hcr := a.2.2.2.2.2.2 r r1 hrV
    rw [aI_ne (by decide), aI_ne (by decide), (hd2.1 58 (by decide)).1, enR_58 rv, e5 58 (by decide)]
    rcases hcr with ⟨z, -⟩ | ⟨-, -, z, -⟩
    · rw [z1] at z; exact absurd z (List.cons_ne_nil _ _)
    · exact (z.elim (fun z => z) (fun z => absurd z.1 rv)).2.1
  refine rx_step (er' := er - 3) (v' := r) (p' := pt r) (C := fun κ' => ∃ κ2, HdC (enK κ v sp 5) κ2 HT (nI v) (nI r) ∧ κ' = cI (cI κ2 79 13 (nI r)) (1002 + 8 * r) 1 2) (D := fun σ' => σ' = wI (wS σ2 77 (nI r)) 49 r 2) allx hx ⟨_, rfl, fun G hG => ?_⟩
    (h.run (by omega) (by omega) ⟨5, by omega, kc_unwindB (el := 4) hcl.1 hg (by omega) (by omega) (by omega) (kc_leaveN a ⟨b1, b2⟩ b5 b6 (by
      rcases hc with z | z
      · left; rw [cl2]; rw [cl3] at z; exact z
      · exact Or.inr z) (v6.1.trans h54) hrV hT (fun z => by omega) (fun _ κ2 hd2 => ⟨κ2, hd2, rfl⟩))⟩) ?_
  · refine ra_B hcl.2.1 hg (by omega) (el := er - 1) (by omega) ?_
    refine ac_leavesN (z := cl) (r := r) (σ2 := σ2) (al := al) ⟨b1, by omega⟩ (by rw [e5 58 (by decide)]; exact hcl.2.1.2.1) q4 (by rw [show sI (wI σ 60 (pt v) 0) 48 = sI σ 48 from congrFun (e5 48 (by decide)) 0]; exact a.2.1.2.1.2) hA (by rw [e5 57 (by decide)]; exact cl3) cl1 (by omega) (by
      rw [e5 89 (by decide)]
      rcases hc with z | z
      · left
        rw [cl3] at z
        have := (nI_eq (a := cl) (b := 0) (by omega) (by omega)).mp z
        exact this
      · exact Or.inr z) (by rw [e5 54 (by decide)]; exact h54) (by omega) hh (by omega) (fun z => by omega) (fun _ => ⟨er - 2, by omega, ac_raise (e := er - 3) ⟨r1, by omega⟩ h58r (by omega) hG⟩)
  · rintro κ' σ' ⟨κ2, hK, rfl⟩ rfl
    obtain ⟨⟨hB, hs2, hk2, hk79⟩, ⟨hac, hpt, hHT⟩, hkps⟩ := h.left (s := 5) ⟨by omega, by omega⟩ hrV (Or.inl rfl) hK hd2
    have hB2 := hB.sst (n := r) (s := 2) (by omega) (by rw [un_ne rv, r3]; exact ⟨fun _ => by omega, fun _ => by omega⟩)
    obtain ⟨f1, rr, mm, z1, z2, z3, z4, z5, z6, z7⟩ := (r3 ▸ m r r1 hrV rv).wait
    have es : ∀ k, k ≠ 48 → k ≠ 49 → k ≠ 58 → k ≠ 59 → k ≠ 60 → k ≠ 77 → k ≠ 83 → k ≠ 84 → k ≠ 85 → aI (wI (wS σ2 77 (nI r)) 49 r (nI 2)) k = aI σ k := fun k k1 k2 k3 k4 k5 k6 k7 k8 k9 => by rw [aI_ne k2, aI_ne k6, hs2 k k1 k2 k3 k4 k5 k7 k8 k9]
    have ct := cnt_st (V := V) (S := S) (n := r) (s := 2) (st := un st v 5) (fr := un fr v []) ⟨r1, hrV⟩ (by rw [un_ne rv, r3]; omega) (by omega)
    have hch := c.back (s := 5) (σ' := wI (wS σ2 77 (nI r)) 49 r (nI 2)) (Or.inr (by omega)) (fun z => by omega) (fun x _ => by rw [es 54 (by decide) (by decide) (by decide) (by decide) (by decide) (by decide) (by decide) (by decide) (by decide)]) (by rw [es 54 (by decide) (by decide) (by decide) (by decide) (by decide) (by decide) (by decide) (by decide) (by decide)]) (es 56 (by decide) (by decide) (by decide) (by decide) (by decide) (by decide) (by decide) (by decide) (by decide)) (es 57 (by decide) (by decide) (by decide) (by decide) (by decide) (by decide) (by decide) (by decide) (by decide))
    rw [if_neg (List.cons_ne_nil _ _), er0] at hch
    refine ⟨V, al - 1, S, LT, HT + 1, sp + 1, F0, un (un st v 5) r 2, un fr v [], pt, r :: cr, w, f1, rr, ⟨?_, hch, fun n n1 n2 hn => ?_, ⟨r1, hrV, un_eq, by rw [un_ne rv]; exact z1, ?_, b6⟩, ⟨z6.frx a.1.2.1, z7⟩, ⟨?_, ?_, ?_⟩, ?_⟩, rfl, by omega, by omega, by show 5 * (cr.length + 1) ≤ er - 3; omega⟩
    · -- x = r is of no use here
      obtain ⟨x1, x2, x3, x4, x5, x6, x7⟩ := hB2
      refine ⟨x1, x2, x3, x4, x5, x6, fun n n1 n2 => (x7 n n1 n2).imp id (fun ⟨w1, w2, w3, w4⟩ => ⟨w1, w2, w3.imp id (fun z => by omega), w4⟩)⟩
    · rw [un_ne hn]
      by_cases cv : n = v
      · rw [cv, un_eq, un_eq]
        exact Or.inl ⟨Or.inr (by omega), rfl⟩
      · rw [un_ne cv, un_ne cv]
        exact (m n n1 n2 cv).cg (congrFun (es 56 (by decide) (by decide) (by decide) (by decide) (by decide) (by decide) (by decide) (by decide) (by decide)) n) (Nat.le_refl _)
    · rw [kI_ne (by omega), kI_nk (by decide), hk79, enK_79 (by decide) (by decide)]
      exact b5
    · rw [ct.1]; exact hac.1
    · rw [ct.2]; exact hac.2.1
    · rw [ct.2]; exact hac.2.2
    · refine col.sub (by rw [kI_ne (by omega), kI_ne (by decide), (hk2 84 (by omega) (by omega) (by omega) (by omega) (by omega) (by omega)).1]) (fun h h1 h2 => by
        have := hk2 h (by omega) (by omega) (by omega) (by omega) (by omega) (by omega)
        exact ⟨by rw [kI_ne (by omega), kI_ne (by omega), this.1], this.2⟩) (fun k k1 k2 => es k (by omega) (by omega) (by omega) (by omega) (by omega) (by omega) (by omega) (by omega) (by omega)) (fun y _ => by have := hkps y; omega) (fun n f0 it n1 n2 hf hi i1 i2 => ?_)
      by_cases cv : n = v
      · rw [cv, un_eq] at hf
        exact absurd hf List.not_mem_nil
      · rw [un_ne cv] at hf
        exact ⟨n, f0, n1, n2, hf, hi⟩
end RXLEAVE
