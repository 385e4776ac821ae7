/-! a failure in a try's block or catch: caught, a finally, or out of it -/
section RXTRY
variable {X : Cx} {d e er : Nat} {κ0 κ κ1 κ' : Km} {σ0 σ σ1 σ' : Rm} {b V al S T sp z LT HT F0 v p n x q g lo c : Nat} {st : Nat → Nat} {fr : Nat → List Frm} {pt : Nat → Nat} {fs r : List Frm} {ch : List Nat} {w : Nat → Nat} {f1 : Frm} {y u : Int32}
variable {bd i j nv s md i' j' s' md' t h0 ph jf : Nat} {pl : Int32} {vs : Nat → Int32} {L L0 Es : List Ite} {O : List Int32}
/-- what stands ahead of a catch is smaller -/
theorem pre_lt {cs pre post : List Nat} {k : Nat} (hs : cs.Pairwise (· < ·)) (e : cs = pre ++ c :: post) (hk : k ∈ cs) (hc : k < c) : k ∈ pre := by
  rw [e] at hs hk
  rcases List.mem_append.mp hk with h | h
  · exact h
  · have h2 := (List.pairwise_append.mp hs).2.1
    rcases List.mem_cons.mp h with h | h
    · omega
    · have := (List.pairwise_cons.mp h2).1 k h
      omega
theorem Mt.cg {N : Int32} (h : Mt σ N c) (e : aI σ' 30 = aI σ 30) : Mt σ' N c := by
  unfold Mt
  rw [e]
  exact h
theorem rx_D (h : Rx κ0 σ0 κ σ b V al S LT HT sp F0 st fr pt ch w v (bd, i, j, pl, nv, vs, L0 ++ (1, t, h0, ph, u) :: Es, O, s, md) r g) (all : AllOK X d e κ0 σ0 b (pot V S st fr)) (allx : AllX X d e κ0 σ0 b (pot V S st fr)) (hx : x + pot V S st fr ≤ 199000000) (hd : 7 ≤ d) (her : 5 * ch.length ≤ er) (he : 2 ≤ er) (hE : noG Es) (hph : ph < 2) : RunX X d e er κ0 σ0 κ σ b x (HT + 2 * pot V S st fr) v g (pt v) := by
  obtain ⟨q1, q2, q3, q4, q5, q6, q7, q8⟩ := h.num
  obtain ⟨k1, k2, k3, k4⟩ := h.cls
  obtain ⟨b1, b2, b3, b4, b5, b6⟩ := h.2.2.2.1
  have h2 := h.2.2.2.2.1
  have acc := h.2.2.2.2.2.1
  have col := h.2.2.2.2.2.2
  obtain ⟨ht, -, -, hhd⟩ := h2.1.hd
  obtain ⟨cs, hs, hmem, hlen, hch⟩ := hhd hph
  have fl : FRl κ σ F0 := h.1.2.2.2.2.2.1
  obtain ⟨m, cf⟩ := h.1.cf
  have sta : Sta b κ0 σ0 := h.1.1.2.1
  obtain ⟨C, hC1, hC2⟩ := sta.2.2.1
  have ea : ∀ k, 1 ≤ k → k ≤ 46 → aI σ k = aI σ0 k := fun k k1 k2 => (h.1.1.1.2.2 k k1 k2).1
  have e34 : sI σ 34 = nI C := (congrFun (ea 34 (by omega) (by omega)) 0).trans hC1
  have e45 := ea 45 (by omega) (by omega)
  have e30 := ea 30 (by omega) (by omega)
  have hm9 := cf.2.1
  obtain ⟨N, hN⟩ : ∃ N : Int32, N = if ph = 0 then aI σ 89 g else 14 := ⟨_, rfl⟩
  have hN2 : N ≠ -1 ∧ N ≠ -9 := by
    by_cases c0 : ph = 0
    · rw [if_pos c0] at hN
      obtain ⟨-, -, -, -, y, y1, y2⟩ := fl.2.2 g b6
      rw [hN, y2]
      exact ⟨neg1 (by omega), neg9 (by omega)⟩
    · rw [if_neg c0] at hN
      rw [hN]
      exact ⟨by decide, by decide⟩
  have none : (∀ y, y ∈ cs → ¬ Mt σ0 N y) → (ph = 0 → ∀ k, k < C → aI σ 45 k = nI t → ¬ Mt σ (aI σ 89 g) k) := fun hn c0 k k1 k2 hmt => by
    rw [if_pos c0] at hN
    rw [e45] at k2
    rw [← hN] at hmt
    exact hn k ((hmem k).mpr ⟨by rw [hC1, lt_nI (by omega) (by omega)]; exact k1, by omega, k2⟩) (hmt.cg e30.symm)
  have hne : fr v ≠ [] := by rw [b4]; exact List.cons_ne_nil _ _
  have hI : i < 20000 := by omega
  have hkp : ∀ y, kps y ((bd, i, j, pl, nv, vs, L0 ++ (1, t, h0, ph, u) :: Es, O, s, md) :: r) = kpl y L0 + kps y r + (kp1 y (1, t, h0, ph, u) + kpl y Es) := fun y => by
    rw [kps_cons]
    show kpl y (L0 ++ (1, t, h0, ph, u) :: Es) + kps y r = _
    rw [kpl_last]
    omega
  intro Q hQ
  refine h.run (C := fun κ' => K X d MX6_run 2 [(0, vR 79), (1, vI (nI (x + 1)))] [] κ' Q) (by omega) (by omega) ⟨4, by omega, kc_unwindD (N := N) (cs := cs) (vl := aI σ 90 g) k1 hE (by omega) hph b5 fl b6 cf hN hN2 rfl hlen hch ?_ ?_ ?_⟩ Q (fun _ hq => hq)
  · -- caught
    intro c hc v2 jc pre post κ1 a1 a2 a3 a4 a5 a6 a7 a8 a9 a10 a11 vo vk
    have c0 : ph = 0 := by
      by_cases c0 : ph = 0
      · exact c0
      · rw [if_neg c0] at hN
        exact absurd hN a3.1
    have hNg : N = aI σ 89 g := by rw [hN, if_pos c0]
    have hcm : c ∈ cs := by rw [a1]; exact List.mem_append_right _ (List.mem_cons_self ..)
    obtain ⟨m1, m2, m3⟩ := (hmem c).mp hcm
    rw [hC1, lt_nI (by omega) (by omega)] at m1
    obtain ⟨-, l2, -, l4, l5, -⟩ := a10.loc
    have l4 : jc + 1 < 12000 := l4
    have l5 : (L0.map itm ++ [(1, t, h0, 1)]).length ≤ 24 := l5
    rw [List.length_append, List.length_map] at l5
    have l5 : L0.length + 1 ≤ 24 := l5
    have hcc := ccI_le L0
    have hv2 : v2 < nv := by rw [q5] at a5; exact a5
    have hg1 : nI (g + 1) - 1 = nI g := by rw [litI 1, nI_sb (by omega), show g + 1 - 1 = g by omega]
    obtain ⟨vr, ro⟩ := k2.caught (v := v2) (jc := jc) (val := aI σ 90 g) (x' := nI (g + 1)) (f := g) (i' := hc + 3) (s' := 0) (md' := 0) (t' := h0) hE hv2 (by omega) (by omega) hg1
    refine h.1.kx (g := 79) (k := 14) (y := 0) (Or.inl ⟨rfl, Or.inl rfl⟩) |> fun h0' => ?_
    have rm0 := h0'.rm h.2.1
    have rm1 := rm0.vo (fs := (bd, hc + 2, jc, pl, nv, vs, L0 ++ [(1, t, h0, 1, nI (g + 1))], [aI σ 90 g], 1, 0) :: r) ⟨b1, b2⟩ vo (Ro.refl (p := pt v)) hne (List.cons_ne_nil _ _)
    have tz : tsz 0 r + (4 + nv + psz (L0 ++ [(1, t, h0, 1, nI (g + 1))]) + 0) ≤ 16000 := by
      have q1 : tsz 0 r + (4 + nv + psz (L0 ++ (1, t, h0, ph, u) :: Es) + O.length) ≤ 15720 := q1
      rw [psz_last] at q1 ⊢
      show tsz 0 r + (4 + nv + (psz L0 + (4 + 0)) + 0) ≤ 16000
      omega
    refine rm1.act (O := [aI σ 90 g]) (i := hc + 2) (a := 3) (C := fun κ' => Vo v (cI κ 79 14 0) κ' ∧ VK κ' v ((bd, hc + 3, jc, pl, nv, ud vs v2 (aI σ 90 g), L0 ++ [(1, t, h0, 1, nI (g + 1))], [], 0, 0) :: r)) (by rw [(vo.h (h := 79) (by omega) (by omega)).1, kI_eq]) ⟨b1, b2⟩ vk (by rw [cf.2.2.1, lt_nI (by omega) (by omega)]; omega) (by omega) (by omega) (by omega) (by decide) a7 (fun κ2 vo2 vk2 => ⟨4, by omega, by
      rw [a8]
      exact wk_store (O := []) vk2 tz hv2 (fun κ3 vo3 vk3 => ⟨rfl, (vo.trans vo2).trans vo3, vk3⟩)⟩) Q (fun κ3 hc3 => ?_)
    obtain ⟨vo3, vk3⟩ := hc3
    have hgw : gwt (1, t, h0, ph, u) = 20500 := by
      unfold gwt
      rw [if_neg (show ¬ (1 : Nat) = 0 by decide), if_pos (show (1, t, h0, ph, u).2.2.2.1 = 0 from c0)]
    have hg2 : gws (L0 ++ [(1, t, h0, 1, nI (g + 1))]) = gws L0 + (10200 + 0) := by rw [gws_last]; rfl
    have hwt : fws ((bd, hc + 3, jc, pl, nv, ud vs v2 (aI σ 90 g), L0 ++ [(1, t, h0, 1, nI (g + 1))], [], 0, 0) :: r) + 2 ≤ fws ((bd, i, j, pl, nv, vs, L0 ++ (1, t, h0, ph, u) :: Es, O, s, md) :: r) := by
      rw [fws_cons, fws_cons, fwt_e, fwt_e, hg2, gws_last, hgw]
      omega
    have hac := acc.loc (fs := (bd, hc + 3, jc, pl, nv, ud vs v2 (aI σ 90 g), L0 ++ [(1, t, h0, 1, nI (g + 1))], [], 0, 0) :: r) ⟨b1, b2⟩ (by rw [b4, arm_cons, arm_cons]; show 0 + arm r ≤ s + arm r; omega) (by rw [b4]; omega)
    have hp := hac.2
    rw [b4] at hp
    have kn : ∀ y, kps y ((bd, hc + 3, jc, pl, nv, ud vs v2 (aI σ 90 g), L0 ++ [(1, t, h0, 1, nI (g + 1))], [], 0, 0) :: r) = kpl y L0 + kps y r := fun y => by
      rw [kps_cons]
      show kpl y (L0 ++ [(1, t, h0, 1, nI (g + 1))]) + kps y r = _
      rw [kpl_last]
      have : kp1 y (1, t, h0, 1, nI (g + 1)) = 0 := if_neg (fun z => absurd z.2.1 (show ¬ (1 : Nat) = 3 by decide))
      rw [this]
      show kpl y L0 + (0 + 0) + kps y r = _
      omega
    have fo : FrO κ0 σ0 F0 b (bd, hc + 3, jc, pl, nv, ud vs v2 (aI σ 90 g), L0 ++ [(1, t, h0, 1, nI (g + 1))], [], 0, 0) := by
      refine ⟨h2.1.1, h2.1.2.1, by show 0 ≤ 1; omega, fun it hi => ?_, Or.inl ⟨rfl, ?_⟩⟩
      · rcases List.mem_append.mp hi with hi | hi
        · exact h2.1.2.2.2.1 it (List.mem_append_left _ hi)
        · rw [List.mem_singleton.mp hi]
          exact Or.inr ⟨rfl, (show 1 ≤ 4 by omega), fun _ => ⟨g, b6, rfl⟩⟩
      · show Good2 κ0 σ0 (fun _ => False) (bd, hc + 3, jc, (L0 ++ [(1, t, h0, 1, nI (g + 1))]).map itm, 0, 0)
        rw [List.map_append]
        exact a10
    have rn : ∀ σ1, Ro (pt v) σ σ1 → VR σ1 v (pt v) ((bd, hc + 3, jc, pl, nv, ud vs v2 (aI σ 90 g), L0 ++ [(1, t, h0, 1, nI (g + 1))], [], 0, 0) :: r) → Rn κ0 σ0 κ3 σ1 b V al S LT HT sp F0 st (un fr v ((bd, hc + 3, jc, pl, nv, ud vs v2 (aI σ 90 g), L0 ++ [(1, t, h0, 1, nI (g + 1))], [], 0, 0) :: r)) pt ch (whi w g) v (bd, hc + 3, jc, pl, nv, ud vs v2 (aI σ 90 g), L0 ++ [(1, t, h0, 1, nI (g + 1))], [], 0, 0) r := fun σ1 ro vr => by
      refine Rn.of (h0'.loc ⟨b1, b2⟩ (Or.inr rfl) vo3 ro vk3 (Or.inl vr) k3 hne (List.cons_ne_nil _ _)) (h.2.1.cg (ro.s (by decide)) (ro.s (by decide)) (ro.s (by decide))) (fun n n1 n2 hn => ?_) ⟨b1, b2, b3, un_eq, by rw [(vo3.h (h := 79) (by omega) (by omega)).1, kI_eq]⟩ ⟨rfl, fo, h2.2⟩ hac.1 ?_
      · rw [un_ne hn]
        exact (h.2.2.1 n n1 n2 hn).cg (by rw [ro.s (by decide)]) (Nat.le_refl _)
      · refine col.white q7.2 ((vo3.h (h := 84) (by omega) (by omega)).1.trans (kI_ne (by decide))) (fun h h1 h2 => ⟨(vo3.h (h := h) (by omega) (by omega)).1.trans (kI_ne (by omega)), (vo3.h (h := h) (by omega) (by omega)).2.2⟩) (fun k k1 k2 => ro.s (by omega)) (if_pos rfl) b6 (fun y _ => ?_) (fun n f0 it n1 n2 hf hi i1 i2 => ?_)
        · have e := kps_un (g := y) (fr := fr) (fs := (bd, hc + 3, jc, pl, nv, ud vs v2 (aI σ 90 g), L0 ++ [(1, t, h0, 1, nI (g + 1))], [], 0, 0) :: r) (V := V) (v := v) ⟨b1, b2⟩
          rw [b4, kn y, hkp y] at e
          omega
        · by_cases cn' : n = v
          · rw [cn', un_eq] at hf
            rcases List.mem_cons.mp hf with e | hf
            · rw [e] at hi
              have hi : it ∈ L0 ++ [(1, t, h0, 1, nI (g + 1))] := hi
              rcases List.mem_append.mp hi with hi | hi
              · exact Or.inr ⟨v, _, b1, b2, by rw [b4]; exact List.mem_cons_self .., List.mem_append_left _ hi⟩
              · rw [List.mem_singleton.mp hi]
                exact Or.inl rfl
            · exact Or.inr ⟨v, f0, b1, b2, by rw [b4]; exact List.mem_cons_of_mem _ hf, hi⟩
          · rw [un_ne cn'] at hf
            exact Or.inr ⟨n, f0, n1, n2, hf, hi⟩
    refine all _ _ _ _ _ _ _ _ _ _ _ _ _ _ _ _ _ _ (rn _ ro vr) (by omega) (by omega) Q (fun κ2 σ2 V2 al2 S2 LT2 HT2 sp2 F2 z2 st2 fr2 pt2 w2 dk e15 hb2 adv' => hQ κ2 σ2 V2 al2 S2 LT2 HT2 sp2 F2 z2 st2 fr2 pt2 w2 dk e15 (by omega) (fun Q' hq => ?_))
    refine ra_D (i' := 0) (s' := 0) (md' := 0) k2 hE he hph (by omega) ht e34 hC2 (Or.inl ⟨c0, c, v2, jc, m1, by rw [e45]; exact m3, by rw [← hNg]; exact a3.cg e30, fun k k1 k2 hmt => ?_, by rw [ea 31 (by omega) (by omega)]; exact a6, by omega, by rw [ea 33 (by omega) (by omega)]; exact a11, by omega, by rw [ea 32 (by omega) (by omega)]; exact a9, adv' Q' hq⟩)
    rw [e45] at k2
    rw [← hNg] at hmt
    exact a2 k (pre_lt hs a1 ((hmem k).mpr ⟨by rw [hC1, lt_nI (by omega) (by omega)]; omega, by omega, k2⟩) k1) (hmt.cg e30.symm)
  · -- a finally
    intro hf jf κ1 a1 a2 a3 a4 vo vk
    obtain ⟨-, l2, -, l4, l5, -⟩ := a4.loc
    have l4 : jf + 1 < 12000 := l4
    have hwt : fws ((bd, hf + 1, jf, pl, nv, vs, L0 ++ [(1, t, h0, 3, nI (g + 1))], [], 0, 0) :: r) + 1 ≤ fws ((bd, i, j, pl, nv, vs, L0 ++ (1, t, h0, ph, u) :: Es, O, s, md) :: r) := by
      have hg2 : gws (L0 ++ [(1, t, h0, 3, nI (g + 1))]) = gws L0 + (100 + 0) := by rw [gws_last]; rfl
      have hgw : 10200 ≤ gwt (1, t, h0, ph, u) := by
        unfold gwt
        rw [if_neg (show ¬ (1 : Nat) = 0 by decide)]
        by_cases c : ph = 0
        · rw [if_pos (show (1, t, h0, ph, u).2.2.2.1 = 0 from c)]
          omega
        · rw [if_neg (show ¬ (1, t, h0, ph, u).2.2.2.1 = 0 from c), if_pos (show ph = 1 by omega)]
          omega
      rw [fws_cons, fws_cons, fwt_e, fwt_e, hg2, gws_last]
      omega
    have hac := acc.loc (fs := (bd, hf + 1, jf, pl, nv, vs, L0 ++ [(1, t, h0, 3, nI (g + 1))], [], 0, 0) :: r) ⟨b1, b2⟩ (by rw [b4, arm_cons, arm_cons]; show 0 + arm r ≤ s + arm r; omega) (by rw [b4]; omega)
    have hp := hac.2
    rw [b4] at hp
    have fo : FrO κ0 σ0 F0 b (bd, hf + 1, jf, pl, nv, vs, L0 ++ [(1, t, h0, 3, nI (g + 1))], [], 0, 0) := by
      refine ⟨h2.1.1, h2.1.2.1, by show 0 ≤ 1; omega, fun it hi => ?_, Or.inl ⟨rfl, ?_⟩⟩
      · rcases List.mem_append.mp hi with hi | hi
        · exact h2.1.2.2.2.1 it (List.mem_append_left _ hi)
        · rw [List.mem_singleton.mp hi]
          exact Or.inr ⟨rfl, (show 3 ≤ 4 by omega), fun _ => ⟨g, b6, rfl⟩⟩
      · show Good2 κ0 σ0 (fun _ => False) (bd, hf + 1, jf, (L0 ++ [(1, t, h0, 3, nI (g + 1))]).map itm, 0, 0)
        rw [List.map_append]
        exact a4
    have kn : ∀ y, y < F0 → kps y ((bd, hf + 1, jf, pl, nv, vs, L0 ++ [(1, t, h0, 3, nI (g + 1))], [], 0, 0) :: r) = kpl y L0 + kps y r + if y = g then 1 else 0 := fun y hy => by
      rw [kps_cons]
      show kpl y (L0 ++ [(1, t, h0, 3, nI (g + 1))]) + kps y r = _
      rw [kpl_last]
      have : kp1 y (1, t, h0, 3, nI (g + 1)) = if y = g then 1 else 0 := by
        unfold kp1
        by_cases c : y = g
        · rw [if_pos c, c, if_pos ⟨show ¬ (1 : Nat) = 0 by decide, rfl, rfl⟩]
        · rw [if_neg c, if_neg (fun z => c ?_)]
          have := (nI_eq (a := g + 1) (b := y + 1) (by omega) (by omega)).mp z.2.2
          omega
      rw [this]
      show kpl y L0 + (_ + 0) + kps y r = _
      omega
    have rn : ∀ σ1, Ro (pt v) (fiR σ v) σ1 → VR σ1 v (pt v) ((bd, hf + 1, jf, pl, nv, vs, L0 ++ [(1, t, h0, 3, nI (g + 1))], [], 0, 0) :: r) → Rn κ0 σ0 κ1 σ1 b V al S LT HT sp F0 st (un fr v ((bd, hf + 1, jf, pl, nv, vs, L0 ++ [(1, t, h0, 3, nI (g + 1))], [], 0, 0) :: r)) pt ch w v (bd, hf + 1, jf, pl, nv, vs, L0 ++ [(1, t, h0, 3, nI (g + 1))], [], 0, 0) r := fun σ1 ro vr => by
      have h0' := (h.1.kx (g := 79) (k := 14) (y := 0) (Or.inl ⟨rfl, Or.inl rfl⟩)).fin (v := v)
      have es : ∀ k, k ≠ 53 → (k < 60 ∨ 74 < k) → aI σ1 k = aI σ k := fun k c1 c2 => (ro.s c2).trans (fiR_k c1)
      have ek : ∀ h, h ≠ 79 → h ≠ 1002 + 8 * v → h ≠ 1002 + 8 * v + 1 → kI κ1 h = kI κ h ∧ kW κ1 h = kW κ h := fun h c1 c2 c3 => ⟨(vo.h c2 c3).1.trans ((fiK_h c2).trans (kI_ne c1)), (vo.h c2 c3).2.2⟩
      refine Rn.of (h0'.loc ⟨b1, b2⟩ (Or.inr rfl) vo ro vk (Or.inl vr) (by rw [fiR_k (by decide)]; exact k3) hne (List.cons_ne_nil _ _)) (h.2.1.cg (es 54 (by decide) (by decide)) (es 56 (by decide) (by decide)) (es 57 (by decide) (by decide))) (fun n n1 n2 hn => ?_) ⟨b1, b2, b3, un_eq, by rw [(vo.h (h := 79) (by omega) (by omega)).1, fiK_h (by omega), kI_eq]⟩ ⟨rfl, fo, h2.2⟩ hac.1 ?_
      · rw [un_ne hn]
        exact (h.2.2.1 n n1 n2 hn).cg (by rw [es 56 (by decide) (by decide)]) (Nat.le_refl _)
      · refine col.sub (ek 84 (by omega) (by omega) (by omega)).1 (fun h h1 h2 => ek h (by omega) (by omega) (by omega)) (fun k k1 k2 => es k (by omega) (by omega)) (fun y hy => ?_) (fun n f0 it n1 n2 hf hi i1 i2 => ?_)
        · have e := kps_un (g := y) (fr := fr) (fs := (bd, hf + 1, jf, pl, nv, vs, L0 ++ [(1, t, h0, 3, nI (g + 1))], [], 0, 0) :: r) (V := V) (v := v) ⟨b1, b2⟩
          rw [b4, kn y hy, hkp y] at e
          omega
        · by_cases cn' : n = v
          · rw [cn', un_eq] at hf
            rcases List.mem_cons.mp hf with e | hf
            · rw [e] at hi
              have hi : it ∈ L0 ++ [(1, t, h0, 3, nI (g + 1))] := hi
              rcases List.mem_append.mp hi with hi | hi
              · exact ⟨v, _, b1, b2, by rw [b4]; exact List.mem_cons_self .., List.mem_append_left _ hi⟩
              · rw [List.mem_singleton.mp hi] at i2
                have i2 : (3 : Nat) = 1 := i2
                omega
            · exact ⟨v, f0, b1, b2, by rw [b4]; exact List.mem_cons_of_mem _ hf, hi⟩
          · rw [un_ne cn'] at hf
            exact ⟨n, f0, n1, n2, hf, hi⟩
    obtain ⟨σ1, ⟨ro1, vr1⟩, adv1⟩ : ∃ σ1, (Ro (pt v) (fiR σ v) σ1 ∧ VR σ1 v (pt v) ((bd, hf + 1, jf, pl, nv, vs, L0 ++ [(1, t, h0, 3, nI (g + 1))], [], 0, 0) :: r)) ∧ ∀ G : Rm → Prop, G σ1 → RaG X er v g (pt v) σ G := by
      obtain ⟨r0, σ1, ha, hr0, hro, hvr⟩ := ra_D (X := X) (G := fun σ' => Ro (pt v) (fiR σ v) σ' ∧ VR σ' v (pt v) ((bd, hf + 1, jf, pl, nv, vs, L0 ++ [(1, t, h0, 3, nI (g + 1))], [], 0, 0) :: r)) (i' := hf + 1) (s' := 0) (md' := 0) k2 hE he hph (by omega) ht e34 hC2 (Or.inr ⟨none a1, Or.inl ⟨jf, by rw [ea 27 (by omega) (by omega)]; exact a3, by omega, by omega, fun σ' ro vr => ⟨ro, vr⟩⟩⟩)
      exact ⟨σ1, ⟨hro, hvr⟩, fun G hG => ⟨r0, σ1, ha, hr0, hG⟩⟩
    exact all _ _ _ _ _ _ _ _ _ _ _ _ _ _ _ _ _ _ (rn σ1 ro1 vr1) (by omega) (by omega) Q (fun κ2 σ2 V2 al2 S2 LT2 HT2 sp2 F2 z2 st2 fr2 pt2 w2 dk e15 hb2 adv' => hQ κ2 σ2 V2 al2 S2 LT2 HT2 sp2 F2 z2 st2 fr2 pt2 w2 dk e15 (by omega) (fun Q' hq => adv1 _ (adv' Q' hq)))
  · -- out of it
    intro κ1 a1 a2 vo vk
    obtain ⟨dv, dr⟩ := k2.drop (i' := i) (s' := s) (md' := md) hE hI
    have dv := dv.cut (i' := i) (s' := s) (md' := md) hI
    have hwt : fws ((bd, i, j, pl, nv, vs, L0, [], s, md) :: r) < fws ((bd, i, j, pl, nv, vs, L0 ++ (1, t, h0, ph, u) :: Es, O, s, md) :: r) := by
      rw [fws_cons, fws_cons, fwt_e, fwt_e, gws_last]
      have := gwt_1 (t := t) (h0 := h0) (ph := ph) (u := u)
      omega
    obtain ⟨h3, hp⟩ := h.loc vo dr vk dv ⟨h2.1.cut h2.1.2.2.1 q8, h2.2⟩ (Nat.le_refl _) hwt (fun y => by
      rw [hkp y, kps_cons]
      show kpl y L0 + kps y r ≤ _
      omega) (fun f0 it hf hi i1 i2 => by
      rcases List.mem_cons.mp hf with e | hf
      · rw [e] at hi
        exact ⟨_, List.mem_cons_self .., List.mem_append_left _ hi⟩
      · exact ⟨f0, List.mem_cons_of_mem _ hf, hi⟩)
    exact allx _ _ _ _ _ _ _ _ _ _ _ _ _ _ _ _ _ _ _ _ h3 hp (by omega) her Q (fun κ2 σ2 V2 al2 S2 LT2 HT2 sp2 F2 z2 st2 fr2 pt2 w2 dk e15 hb2 adv' => hQ κ2 σ2 V2 al2 S2 LT2 HT2 sp2 F2 z2 st2 fr2 pt2 w2 dk e15 (by omega) (fun Q' hq => ra_D (i' := 0) (s' := 0) (md' := 0) k2 hE he hph (by omega) ht e34 hC2 (Or.inr ⟨none a1, Or.inr ⟨by rw [ea 27 (by omega) (by omega)]; exact a2, adv' Q' hq⟩⟩)))
end RXTRY
