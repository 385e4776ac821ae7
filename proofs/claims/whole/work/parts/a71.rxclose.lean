/-! a failure leaves a voice that is closed: it is closed -/
section RXCLOSE
variable {X : Cx} {d e er : Nat} {κ0 κ κ1 κ2 κ' : Km} {σ0 σ σ1 σ2 σ' : Rm} {b V al S T sp z LT HT F0 v p n x q s r g : Nat} {st : Nat → Nat} {fr fr' : Nat → List Frm} {pt : Nat → Nat} {fs rr : List Frm} {ch cr : List Nat} {w rz rz' : Nat → Nat} {f f1 : Frm} {y u : Int32} {C : Km → Prop} {D : Rm → Prop}
theorem rx_BCV (h : Rx κ0 σ0 κ σ b V al S LT HT sp F0 st fr pt (v :: r :: cr) w v f [] g) (all : AllOK X d e κ0 σ0 b (pot V S st fr)) (hx : x + pot V S st fr ≤ 199000000) (hd : 7 ≤ d) (her : 5 ≤ er) (hg : noG (frL f)) (hc : aI σ 57 v = 1) (hc2 : aI σ 89 g = 14) : RunX X d e er κ0 σ0 κ σ b x (HT + 2 * pot V S st fr) v g (pt v) := by
  have hcl := h.cls
  obtain ⟨bd, i, j, pl, nv, vs, L, O, s, md⟩ := f
  obtain ⟨q1, q2, q3, q4, q5, q6, q7, q8⟩ := h.num
  have h' := h
  obtain ⟨a, c, m, ⟨b1, b2, b3, b4, b5, b6⟩, fx, acc, col⟩ := h'
  have hres := c.res
  have er0 : (r :: cr).headD 0 = r := rfl
  rw [er0] at hres
  obtain ⟨h54, -, hrV, hr3⟩ := hres
  obtain ⟨r3, rv, r1⟩ := hr3 (List.cons_ne_nil _ _)
  obtain ⟨v1, v2, v3, v4, v5, v6, v7, v8, v9⟩ := a.2.2.1 v b1 b2
  obtain ⟨cl, cl1, cl2, cl3⟩ := v9
  obtain ⟨s1, s2, s3, s4, s5, s6, s7, s8, s9, s10, s11, s12, s13, s14, s15⟩ := a.2.1
  have hA := a.al1 ⟨b1, b2⟩ (by omega)
  have hT : HT < 2000000000 := by have := acc.2.2; omega
  obtain ⟨gg, p1, p2⟩ := a.hp
  obtain ⟨mm, cf⟩ := a.cf
  -- the resumer waits with a close
  obtain ⟨f1, rr, m1, z1, z2, z3, z4, z5, z6, z7⟩ := (r3 ▸ m r r1 hrV rv).wait
  have em : m1 = 3 := by
    rcases (c.2.2.2.2.2.2 v b1 b2 hc).2.2 (by omega) with z | ⟨y, y1, y2, y3, y4⟩
    · rw [h54] at z
      exact absurd z (nI_ne0 (by omega) (by omega))
    · rw [h54] at y3
      have ey := (nI_eq (a := r) (b := y) (by omega) (by omega)).mp y3
      rw [← ey, z3, litI 3] at y4
      exact (nI_eq (by omega) (by omega)).mp y4
  subst em
  obtain ⟨bd1, i1, j1, pl1, nv1, vs1, L1, O1, s1', md1⟩ := f1
  have zm : md1 = 3 := z2
  subst zm
  obtain ⟨y1, y2, ⟨iw, y3, y4⟩, y5⟩ : s1' = 0 ∧ O1 = [] ∧ (∃ i, i1 = i + 1 ∧ kI κ0 69 i = 29) ∧ Good2 κ0 σ0 (fun _ => False) (bd1, i1, j1, L1.map itm, 0, 0) := by
    rcases z6.2.2.2.2 with ⟨z, _⟩ | ⟨z, _⟩ | ⟨z, _⟩ | ⟨_, z⟩
    · have z : (3 : Nat) = 0 := z
      omega
    · have z : (3 : Nat) = 1 := z
      omega
    · have z : (3 : Nat) = 2 := z
      omega
    · exact z
  subst y1 y2 y3
  have hm9 := cf.2.1
  have hlt := good_lt cf.2.2.1 cf.2.1 y5
  have hcr := a.2.2.2.2.2.2 r r1 hrV
  rw [z1] at hcr
  obtain ⟨kr, vr, h59⟩ : VK κ r ((bd1, iw + 1, j1, pl1, nv1, vs1, L1, [], 0, 3) :: rr) ∧ VR σ r (pt r) ((bd1, iw + 1, j1, pl1, nv1, vs1, L1, [], 0, 3) :: rr) ∧ aI σ 59 (pt r) = 1 := by
    rcases hcr with ⟨z, -⟩ | ⟨-, z, z', z''⟩
    · exact absurd z (List.cons_ne_nil _ _)
    · exact ⟨z, z'.elim id (fun z => absurd z.1 rv), z''⟩
  have e5 : ∀ k, k ≠ 60 → aI (wI σ 60 (pt v) 0) k = aI σ k := fun k hk => aI_ne hk
  have eE : ∀ k, k ≠ 48 → k ≠ 49 → k ≠ 58 → k ≠ 59 → k ≠ 60 → aI (enR (wI σ 60 (pt v) 0) v al 6) k = aI σ k := fun k k1 k2 k3 k4 k5 => by rw [enR_k k1 k2 k3 k4, e5 k k5]
  obtain ⟨σ2, hd2, hh⟩ := ac_exV (ac_hand (X := X) (F := fun s => HdR (enR (wI σ 60 (pt v) 0) v al 6) s HT (nI v) (nI r)) (p2.fr (eE 83 (by decide) (by decide) (by decide) (by decide) (by decide)) (eE 84 (by decide) (by decide) (by decide) (by decide) (by decide)) (eE 85 (by decide) (by decide) (by decide) (by decide) (by decide))) hT (fun s hs => hs))
  -- the class behind end
  have ekh : ∀ g, g ≠ 79 → g ≠ 1002 + 8 * v → g ≠ 1003 + 8 * v → g ≠ 1004 + 8 * sp → kI (cI (enK κ v sp 6) 79 14 0) g = kI κ g ∧ kW (cI (enK κ v sp 6) 79 14 0) g = kW κ g := fun g c1 c2 c3 c4 => ⟨by rw [kI_ne c1, (enK_h c1 c2 c4).1], enK_w c3 c4⟩
  have ekv : kV (cI (enK κ v sp 6) 79 14 0) = kV κ := enK_BV.2
  have hvH : isH (cI (enK κ v sp 6) 79 14 0) (1002 + 8 * v) 10 := isH_voice b1 (by rw [ekv]; omega)
  have krE : VK (cI (enK κ v sp 6) 79 14 0) r ((bd1, iw + 1, j1, pl1, nv1, vs1, L1, [], 0, 3) :: rr) := kr.fr (ekh _ (by omega) (by omega) (by omega) (by omega)).1 (ekh _ (by omega) (by omega) (by omega) (by omega)).1 (ekh _ (by omega) (by omega) (by omega) (by omega)).2 (by rw [ekv]; exact Nat.le_refl _)
  refine rx_done (k := 1) (C := fun κ' => ∃ κ2, HdC (cI (enK κ v sp 6) 79 14 0) κ2 HT (nI v) (nI r) ∧ κ' = cI (cI κ2 79 13 (nI r)) (1002 + 8 * r) 1 2) (D := fun σ' => σ' = wI (wS σ2 77 (nI r)) 49 r 2) all hx (Nat.le_refl _) ⟨_, rfl, fun G hG => ?_⟩
    (h.run (by omega) (by omega) ⟨6, by omega, kc_unwindB (el := 5) hcl.1 hg (by omega) (by omega) (by omega) (kc_leaveC (eb := 4) a ⟨b1, b2⟩ b5 b6 (by rw [cl2, ← cl3]; exact hc) hc2 (by omega) (by omega) (kc_goBackV (V := V) (w := r) (a := 29) (i := iw) (κ0 := κ0) (m := mm) hvH (by rw [kI_ne (by omega), enK_v (by decide) (by decide)]; exact v1) (by rw [kI_ne (by omega), enK_v (by decide) (by decide)]; exact v6.1.trans h54) ⟨r1, hrV⟩ (p1.fr (ekh _ (by omega) (by omega) (by omega) (by omega)).1 (ekh _ (by omega) (by omega) (by omega) (by omega)).1 (ekh _ (by omega) (by omega) (by omega) (by omega)).2) hT (by rw [kI_nk (by decide), enK_79 (by decide) (by decide)]; exact s1.1) s8 (by rw [ekv]; exact s9) (cf.cg (fun g h1 h2 => ekh g (by omega) (by omega) (by omega) (by omega))) krE (by omega) y4 (by omega) (fun _ κ1 hk1 => ⟨κ1, hk1, rfl⟩) (fun z => absurd z (by decide)) (fun z => absurd rfl z)))⟩) ?_
  · refine ra_B hcl.2.1 hg (by omega) (el := er - 1) (by omega) ?_
    exact ac_leavesC (r := r) (σ2 := σ2) (al := al) ⟨b1, by omega⟩ (by rw [e5 58 (by decide)]; exact hcl.2.1.2.1) q4 (by rw [show sI (wI σ 60 (pt v) 0) 48 = sI σ 48 from congrFun (e5 48 (by decide)) 0]; exact a.2.1.2.1.2) hA (by rw [e5 57 (by decide)]; exact hc) (by omega) (by rw [e5 89 (by decide)]; exact hc2) (by rw [e5 54 (by decide)]; exact h54) (by omega) hh (by omega) (fun z => by omega) (fun _ => hG)
  · rintro κ' σ' ⟨κ2, hK, rfl⟩ rfl
    obtain ⟨⟨hB, hs2, hk2, hk79⟩, ⟨hac, hpt, hHT⟩, hkps⟩ := h.left (s := 6) ⟨by omega, by omega⟩ hrV (Or.inr rfl) hK hd2
    have hB2 := hB.sst (n := r) (s := 2) (by omega) (by rw [un_ne rv, r3]; exact ⟨fun _ => by omega, fun _ => by omega⟩)
    have es : ∀ k, k ≠ 48 → k ≠ 49 → k ≠ 58 → k ≠ 59 → k ≠ 60 → k ≠ 77 → k ≠ 83 → k ≠ 84 → k ≠ 85 → aI (wI (wS σ2 77 (nI r)) 49 r (nI 2)) k = aI σ k := fun k k1 k2 k3 k4 k5 k6 k7 k8 k9 => by rw [aI_ne k2, aI_ne k6, hs2 k k1 k2 k3 k4 k5 k7 k8 k9]
    have frr : un fr v [] r = (bd1, iw + 1, j1, pl1, nv1, vs1, L1, [], 0, 3) :: rr := by rw [un_ne rv]; exact z1
    obtain ⟨kr2, vr2, h592⟩ : VK (cI (cI κ2 79 13 (nI r)) (1002 + 8 * r) 1 (nI 2)) r ((bd1, iw + 1, j1, pl1, nv1, vs1, L1, [], 0, 3) :: rr) ∧ VR (wI (wS σ2 77 (nI r)) 49 r (nI 2)) r (pt r) ((bd1, iw + 1, j1, pl1, nv1, vs1, L1, [], 0, 3) :: rr) ∧ aI (wI (wS σ2 77 (nI r)) 49 r (nI 2)) 59 (pt r) = 1 := by
      have hcr2 := hB2.2.2.2.2.2.2 r r1 hrV
      rw [frr] at hcr2
      rcases hcr2 with ⟨z, -⟩ | ⟨-, z, z', z''⟩
      · exact absurd z (List.cons_ne_nil _ _)
      · exact ⟨z, z'.elim id (fun z => absurd z.1 (by omega)), z''⟩
    have hB3 := hB2.loc (x' := 0) (fs := (bd1, iw + 1, j1, pl1, nv1, vs1, L1, [], 0, 0) :: rr) ⟨r1, hrV⟩ (Or.inl rfl) Vo.refl Ro.refl kr2.gho (Or.inl (vr2.gho (by omega))) h592 (by rw [frr]; exact List.cons_ne_nil _ _) (List.cons_ne_nil _ _)
    have ct := cnt_st (V := V) (S := S) (n := r) (s := 2) (st := un st v 6) (fr := un fr v []) ⟨r1, hrV⟩ (by rw [un_ne rv, r3]; omega) (by omega)
    have hac2 : Acc V S F0 LT (HT + 1) (un (un st v 6) r 2) (un fr v []) := ⟨by rw [ct.1]; exact hac.1, by rw [ct.2]; exact hac.2.1, by rw [ct.2]; exact hac.2.2⟩
    have hac3 := hac2.loc (fs := (bd1, iw + 1, j1, pl1, nv1, vs1, L1, [], 0, 0) :: rr) ⟨r1, hrV⟩ (by rw [frr]; exact Nat.le_refl _) (by rw [frr]; exact Nat.le_refl _)
    have hp3 := hac3.2
    rw [frr] at hp3
    have hp3 : pot V S (un (un st v 6) r 2) (un (un fr v []) r ((bd1, iw + 1, j1, pl1, nv1, vs1, L1, [], 0, 0) :: rr)) + fws ((bd1, iw + 1, j1, pl1, nv1, vs1, L1, [], 0, 3) :: rr) = pot V S (un (un st v 6) r 2) (un fr v []) + fws ((bd1, iw + 1, j1, pl1, nv1, vs1, L1, [], 0, 3) :: rr) := hp3
    have hch := c.back (s := 6) (σ' := wI (wS σ2 77 (nI r)) 49 r (nI 2)) (Or.inr (by omega)) (fun z => by omega) (fun x _ => congrFun (es 54 (by decide) (by decide) (by decide) (by decide) (by decide) (by decide) (by decide) (by decide) (by decide)) x) (congrFun (es 54 (by decide) (by decide) (by decide) (by decide) (by decide) (by decide) (by decide) (by decide) (by decide)) v) (es 56 (by decide) (by decide) (by decide) (by decide) (by decide) (by decide) (by decide) (by decide) (by decide)) (es 57 (by decide) (by decide) (by decide) (by decide) (by decide) (by decide) (by decide) (by decide) (by decide))
    rw [if_neg (List.cons_ne_nil _ _), er0] at hch
    refine ⟨V, al - 1, S, LT, HT + 1, sp + 1, F0, un (un st v 6) r 2, un (un fr v []) r ((bd1, iw + 1, j1, pl1, nv1, vs1, L1, [], 0, 0) :: rr), pt, r :: cr, w, r, (bd1, iw + 1, j1, pl1, nv1, vs1, L1, [], 0, 0), rr, Rn.of hB3 hch (fun n n1 n2 hn => ?_) ⟨r1, hrV, un_eq, un_eq, ?_⟩ ⟨rfl, ⟨z6.1, z6.2.1, by show 0 ≤ 1; omega, z6.2.2.2.1, Or.inl ⟨rfl, y5⟩⟩, z7⟩ hac3.1 ?_, by omega, by omega⟩
    · rw [un_ne hn, un_ne hn]
      by_cases cv : n = v
      · rw [cv, un_eq, un_eq]
        exact Or.inl ⟨Or.inr (by omega), rfl⟩
      · rw [un_ne cv, un_ne cv]
        exact (m n n1 n2 cv).cg (congrFun (es 56 (by decide) (by decide) (by decide) (by decide) (by decide) (by decide) (by decide) (by decide) (by decide)) n) (Nat.le_refl _)
    · rw [kI_ne (by omega), kI_nk (by decide), hk79, kI_eq]
    · refine col.sub (by rw [kI_ne (by omega), kI_ne (by decide), (hk2 84 (by omega) (by omega) (by omega) (by omega) (by omega) (by omega)).1]) (fun h h1 h2 => by
        have := hk2 h (by omega) (by omega) (by omega) (by omega) (by omega) (by omega)
        exact ⟨by rw [kI_ne (by omega), kI_ne (by omega), this.1], this.2⟩) (fun k k1 k2 => es k (by omega) (by omega) (by omega) (by omega) (by omega) (by omega) (by omega) (by omega) (by omega)) (fun y _ => ?_) (fun n f0 it n1 n2 hf hi i1 i2 => ?_)
      · have := hkps y
        have e := kps_un (g := y) (fr := un fr v []) (fs := (bd1, iw + 1, j1, pl1, nv1, vs1, L1, [], 0, 0) :: rr) (V := V) (v := r) ⟨r1, hrV⟩
        rw [frr] at e
        have e : cn (fun n => kps y (un (un fr v []) r ((bd1, iw + 1, j1, pl1, nv1, vs1, L1, [], 0, 0) :: rr) n)) V + kps y ((bd1, iw + 1, j1, pl1, nv1, vs1, L1, [], 0, 3) :: rr) = cn (fun n => kps y (un fr v [] n)) V + kps y ((bd1, iw + 1, j1, pl1, nv1, vs1, L1, [], 0, 3) :: rr) := e
        omega
      · by_cases cr' : n = r
        · rw [cr', un_eq] at hf
          rcases List.mem_cons.mp hf with e | hf
          · rw [e] at hi
            exact ⟨r, (bd1, iw + 1, j1, pl1, nv1, vs1, L1, [], 0, 3), r1, hrV, by rw [z1]; exact List.mem_cons_self .., hi⟩
          · exact ⟨r, f0, r1, hrV, by rw [z1]; exact List.mem_cons_of_mem _ hf, hi⟩
        · rw [un_ne cr'] at hf
          by_cases cv : n = v
          · rw [cv, un_eq] at hf
            exact absurd hf List.not_mem_nil
          · rw [un_ne cv] at hf
            exact ⟨n, f0, n1, n2, hf, hi⟩
theorem rx_BC0 (h : Rx κ0 σ0 κ σ b V al S LT HT sp F0 st fr pt [v] w v f [] g) (hx : x + pot V S st fr ≤ 199000000) (hd : 7 ≤ d) (her : 5 ≤ er) (hg : noG (frL f)) (hc : aI σ 57 v = 1) (hc2 : aI σ 89 g = 14) : RunX X d e er κ0 σ0 κ σ b x (HT + 2 * pot V S st fr) v g (pt v) := by
  have hcl := h.cls
  obtain ⟨bd, i, j, pl, nv, vs, L, O, s, md⟩ := f
  obtain ⟨q1, q2, q3, q4, q5, q6, q7, q8⟩ := h.num
  have h' := h
  obtain ⟨a, c, m, ⟨b1, b2, b3, b4, b5, b6⟩, fx, acc, col⟩ := h'
  obtain ⟨h54, -⟩ := c.res
  have h54 : aI σ 54 v = nI 0 := h54
  obtain ⟨v1, v2, v3, v4, v5, v6, v7, v8, v9⟩ := a.2.2.1 v b1 b2
  obtain ⟨cl, cl1, cl2, cl3⟩ := v9
  have e1 : cl = 1 := by
    rw [cl3, litI 1] at hc
    exact (nI_eq (by omega) (by omega)).mp hc
  subst e1
  obtain ⟨s1, s2, s3, s4, s5, s6, s7, s8, s9, s10, s11, s12, s13, s14, s15⟩ := a.2.1
  have hA := a.al1 ⟨b1, b2⟩ (by omega)
  have hT : HT < 2000000000 := by have := acc.2.2; omega
  obtain ⟨gg, p1, p2⟩ := a.hp
  have e5 : ∀ k, k ≠ 60 → aI (wI σ 60 (pt v) 0) k = aI σ k := fun k hk => aI_ne hk
  have eE : ∀ k, k ≠ 48 → k ≠ 49 → k ≠ 58 → k ≠ 59 → k ≠ 60 → aI (enR (wI σ 60 (pt v) 0) v al 6) k = aI σ k := fun k k1 k2 k3 k4 k5 => by rw [enR_k k1 k2 k3 k4, e5 k k5]
  obtain ⟨σ2, hd2, hh⟩ := ac_exV (ac_hand (X := X) (F := fun s => HdR (enR (wI σ 60 (pt v) 0) v al 6) s HT (nI v) (nI 0)) (p2.fr (eE 83 (by decide) (by decide) (by decide) (by decide) (by decide)) (eE 84 (by decide) (by decide) (by decide) (by decide) (by decide)) (eE 85 (by decide) (by decide) (by decide) (by decide) (by decide))) hT (fun s hs => hs))
  have ekh : ∀ g, g ≠ 79 → g ≠ 1002 + 8 * v → g ≠ 1003 + 8 * v → g ≠ 1004 + 8 * sp → kI (cI (enK κ v sp 6) 79 14 0) g = kI κ g ∧ kW (cI (enK κ v sp 6) 79 14 0) g = kW κ g := fun g c1 c2 c3 c4 => ⟨by rw [kI_ne c1, (enK_h c1 c2 c4).1], enK_w c3 c4⟩
  have ekv : kV (cI (enK κ v sp 6) 79 14 0) = kV κ := enK_BV.2
  have hvH : isH (cI (enK κ v sp 6) 79 14 0) (1002 + 8 * v) 10 := isH_voice b1 (by rw [ekv]; omega)
  have e16 : kI (cI (enK κ v sp 6) 79 14 0) 79 16 = sI σ 79 := by rw [kI_nk (by decide), enK_79 (by decide) (by decide)]; exact s5
  refine rx_desk (C := fun κ' => ∃ κ2, HdC (cI (enK κ v sp 6) 79 14 0) κ2 HT (nI v) (nI 0) ∧ κ' = cI (cI (cI κ2 79 13 0) 79 15 1) 79 16 (sI σ 79)) (D := fun σ' => σ' = wS (wS σ2 77 0) 78 1) hx ⟨_, rfl, fun G hG => ?_⟩
    (h.run (by omega) (by omega) ⟨6, by omega, kc_unwindB (el := 5) hcl.1 hg (by omega) (by omega) (by omega) (kc_leaveC (eb := 4) a ⟨b1, b2⟩ b5 b6 cl2 hc2 (by omega) (by omega) (kc_goBack0 (V := V) (cl := 1) hvH (by rw [kI_ne (by omega), enK_v (by decide) (by decide)]; exact v1) (by rw [kI_ne (by omega), enK_v (by decide) (by decide)]; exact v6.1.trans h54) (p1.fr (ekh _ (by omega) (by omega) (by omega) (by omega)).1 (ekh _ (by omega) (by omega) (by omega) (by omega)).1 (ekh _ (by omega) (by omega) (by omega) (by omega)).2) hT (by rw [kI_nk (by decide), enK_79 (by decide) (by decide)]; exact s1.1) s8 (by rw [ekv]; exact s9) (by rw [kI_ne (by omega), enK_v (by decide) (by decide)]; exact cl2) (Nat.le_refl _) (by omega) (fun κ1 hk1 => ⟨κ1, hk1, by rw [if_neg (by omega), e16]⟩)))⟩) ?_
  · refine ra_B hcl.2.1 hg (by omega) (el := er - 1) (by omega) ?_
    exact ac_leavesC (r := 0) (σ2 := σ2) (al := al) ⟨b1, by omega⟩ (by rw [e5 58 (by decide)]; exact hcl.2.1.2.1) q4 (by rw [show sI (wI σ 60 (pt v) 0) 48 = sI σ 48 from congrFun (e5 48 (by decide)) 0]; exact a.2.1.2.1.2) hA (by rw [e5 57 (by decide)]; exact hc) (by omega) (by rw [e5 89 (by decide)]; exact hc2) (by rw [e5 54 (by decide)]; exact h54) (by omega) hh (by omega) (fun _ => hG) (fun z => by omega)
  · rintro κ' σ' ⟨κ2, hK, rfl⟩ rfl
    obtain ⟨⟨hB, hs2, hk2, hk79⟩, ⟨hac, hpt, hHT⟩, hkps⟩ := h.left (s := 6) ⟨by omega, by omega⟩ (Nat.zero_le _) (Or.inr rfl) hK hd2
    have es : ∀ k, k ≠ 48 → k ≠ 49 → k ≠ 58 → k ≠ 59 → k ≠ 60 → k ≠ 77 → k ≠ 78 → k ≠ 83 → k ≠ 84 → k ≠ 85 → aI (wS (wS σ2 77 0) 78 1) k = aI σ k := fun k k1 k2 k3 k4 k5 k6 k6b k7 k8 k9 => by rw [aI_ne k6b, aI_ne k6, hs2 k k1 k2 k3 k4 k5 k7 k8 k9]
    have hB2 := ((hB.kx (g := 79) (k := 15) (y := 1) (Or.inl ⟨rfl, Or.inr rfl⟩)).rx (k := 78) (i := 0) (y := 1) (Or.inr (Or.inl rfl))).giv (y := sI σ 79)
    have e79 : wS (wS (wS σ2 77 (nI 0)) 78 1) 79 (sI σ 79) = wS (wS σ2 77 0) 78 1 := wI_sm (congrFun (es 79 (by decide) (by decide) (by decide) (by decide) (by decide) (by decide) (by decide) (by decide) (by decide) (by decide)) 0)
    rw [e79] at hB2
    have hch := c.back (s := 6) (σ' := wS (wS σ2 77 0) 78 1) (Or.inr (by omega)) (fun z => by omega) (fun x _ => congrFun (es 54 (by decide) (by decide) (by decide) (by decide) (by decide) (by decide) (by decide) (by decide) (by decide) (by decide)) x) (congrFun (es 54 (by decide) (by decide) (by decide) (by decide) (by decide) (by decide) (by decide) (by decide) (by decide) (by decide)) v) (es 56 (by decide) (by decide) (by decide) (by decide) (by decide) (by decide) (by decide) (by decide) (by decide) (by decide)) (es 57 (by decide) (by decide) (by decide) (by decide) (by decide) (by decide) (by decide) (by decide) (by decide) (by decide))
    rw [if_pos rfl] at hch
    refine ⟨V, al - 1, S, LT, HT + 1, sp + 1, F0, 0, un st v 6, un fr v [], pt, w, Desk.of hB2 hch (fun n n1 n2 => ?_) ?_ hac ?_, ?_, hHT⟩
    · by_cases cv : n = v
      · rw [cv, un_eq, un_eq]
        exact Or.inl ⟨Or.inr (by omega), rfl⟩
      · rw [un_ne cv, un_ne cv]
        exact (m n n1 n2 cv).cg (congrFun (es 56 (by decide) (by decide) (by decide) (by decide) (by decide) (by decide) (by decide) (by decide) (by decide) (by decide)) n) (Nat.le_refl _)
    · rw [kI_nk (by decide), kI_nk (by decide), kI_nk (by decide), hk79, kI_eq]
    · refine col.sub (by rw [kI_ne (by decide), kI_ne (by decide), kI_ne (by decide), (hk2 84 (by omega) (by omega) (by omega) (by omega) (by omega) (by omega)).1]) (fun h h1 h2 => by
        have := hk2 h (by omega) (by omega) (by omega) (by omega) (by omega) (by omega)
        exact ⟨by rw [kI_ne (by omega), kI_ne (by omega), kI_ne (by omega), this.1], this.2⟩) (fun k k1 k2 => es k (by omega) (by omega) (by omega) (by omega) (by omega) (by omega) (by omega) (by omega) (by omega) (by omega)) (fun y _ => by have := hkps y; omega) (fun n f0 it n1 n2 hf hi i1 i2 => ?_)
      by_cases cv : n = v
      · rw [cv, un_eq] at hf
        exact absurd hf List.not_mem_nil
      · rw [un_ne cv] at hf
        exact ⟨n, f0, n1, n2, hf, hi⟩
    · rw [kI_nk (by decide), kI_eq, sI_eq]
end RXCLOSE
