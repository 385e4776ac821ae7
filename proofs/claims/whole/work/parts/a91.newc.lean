/-! NEW: both clauses -/
section NEWC
variable {X : Cx} {d e er : Nat} {κ0 κ κa κb κc κ1 κ' : Km} {σ0 σ σa σc σ1 σ' : Rm} {b V al S T sp z LT HT F0 v p n x q g k op sc mny : Nat} {st : Nat → Nat} {fr fr' : Nat → List Frm} {pt : Nat → Nat} {fs r rr : List Frm} {ch cr : List Nat} {w rz : Nat → Nat} {f f1 f' : Frm} {y u ar mk : Int32} {C : Km → Prop} {D P : Rm → Prop} {G : Rm → Prop}
variable {bd i j nv s md i' j' s' md' t h0 ph c jb a0 j2 nw kk i2 : Nat} {pl pl' : Int32} {vs vs' : Nat → Int32} {L L0 : List Ite} {O Oy O' : List Int32}
/-- an act of the stage, out of what holds of all voices -/
theorem RelM.ppact {a : Nat} {C : Km → Prop} (a1 : RelM κ0 σ0 κ σ b V al S v sp 0 LT HT F0 st fr pt ch) (b5 : kI κ 79 14 = 0) (hv : 1 ≤ v ∧ v ≤ V) (vk : VK κ v ((bd, i, j, pl, nv, vs, L, O, s, md) :: r)) (hi : nI i < kI κ0 68 2) (hi2 : i < 20000) (hx : x < 200000000) (hd : 1 ≤ d) (ha : 20 ≤ a ∧ a < 40) (e69 : kI κ0 69 i = nI a) (wc : ∀ κ1, Vo v κ κ1 → VK κ1 v ((bd, i + 1, j, pl, nv, vs, L, O, s, md) :: r) → ∃ ew, ew + 1 ≤ d ∧ KC' X ew MX6_playPart [vR 79, vR (1002 + 8 * v), vI (nI a), vI (kI κ0 70 i)] κ1 (kRV C)) :
    ∀ Q : Res → Km → Prop, (∀ κ', C κ' → K X d MX6_run 2 [(0, vR 79), (1, vI (nI (x + 1)))] [] κ' Q) → K X d MX6_run 2 [(0, vR 79), (1, vI (nI x))] [] κ Q := by
  intro Q hQ
  obtain ⟨⟨⟨k1, k2, k3⟩, sta, rg⟩, ⟨s1, s2, s3, s4, s5, s6, s7, s8, s9, s10, s11, s12, s13, s14, s15⟩, -⟩ := a1
  have e68 := k1 68 (Or.inr (Or.inl (by omega)))
  have e69' := k1 69 (Or.inr (Or.inl (by omega)))
  have e70 := k1 70 (Or.inr (Or.inl (by omega)))
  obtain ⟨t1, ⟨m, m1, m2, m3, m4⟩, t3⟩ := sta
  rw [m1, lt_nI (by omega) (by omega)] at hi
  refine run_act (m := m) (V := V) (v := v) hd hx s1.1 s8 s9 s4.1 hv s7.1 b5 vk.pc9 ⟨by rw [e68.1]; exact m1, by omega, by rw [e69'.2.2]; exact m3, by rw [e70.2.2]; exact m4⟩ hi ?_
  rw [e69'.1, e70.1, e69, litI 20, litI 40, lt_nI (by omega) (by omega), lt_nI (by omega) (by omega)]
  obtain ⟨ew, he, hc⟩ := wc _ (Vo.reg (by decide)) vk.pc
  refine ⟨fun z => absurd z (by omega), fun _ _ => ⟨ew, he, hc.mono ?_⟩, fun z => absurd ha.2 z⟩
  rintro r' κ' ⟨rfl, q⟩
  exact ⟨rfl, hQ κ' q⟩
/-- both do something that fails, in kk acts of the class -/
theorem rn_failk (kk : Nat) (hkk : 1 ≤ kk) (allx : AllX X d (e + 1) κ0 σ0 b (pot V S st fr)) (hx : x + pot V S st fr ≤ 199000000) (h77 : sI σ 77 = nI v) (hv : 1 ≤ v ∧ v ≤ 60) {v' g' p' : Nat}
    (rf : ∃ σ1, D σ1 ∧ ∀ G, RaG X 60 v' g' p' σ1 G → A X 92 e MX13_goesOn 0 [(0, vR 92)] [] σ (aRV G))
    (cl : ∀ Q : Res → Km → Prop, (∀ κ', C κ' → K X d MX6_run 2 [(0, vR 79), (1, vI (nI (x + kk)))] [] κ' Q) → K X d MX6_run 2 [(0, vR 79), (1, vI (nI x))] [] κ Q)
    (rx : ∀ κ' σ', C κ' → D σ' → ∃ V' al' S' LT' HT' sp' F0' st' fr' pt' ch' w' f' r', Rx κ0 σ0 κ' σ' b V' al' S' LT' HT' sp' F0' st' fr' pt' ch' w' v' f' r' g' ∧ pt' v' = p' ∧ pot V' S' st' fr' + kk ≤ pot V S st fr ∧ HT' + 2 * pot V' S' st' fr' ≤ HT + 2 * pot V S st fr) : RunOK X d (e + 1) κ0 σ0 κ σ b x (HT + 2 * pot V S st fr) := by
  intro Q hQ
  obtain ⟨σ1, hD, adv⟩ := rf
  refine cl Q (fun κ' hC => ?_)
  obtain ⟨V', al', S', LT', HT', sp', F0', st', fr', pt', ch', w', f', r', h', rfl, hp, hb⟩ := rx κ' σ1 hC hD
  have hl : 5 * ch'.length ≤ 60 := by
    have h1 := h'.2.1.len
    have h2 := h'.1.2.2.2.1.1
    have h3 := h'.1.2.1.2.2.2.2.2.2.2.2.2.2.1
    omega
  exact allx _ _ _ _ _ _ _ _ _ _ _ _ _ _ _ _ _ _ _ _ h' (by omega) (by omega) hl Q (fun κ2 σ2 V2 al2 S2 LT2 HT2 sp2 F2 z2 st2 fr2 pt2 w2 dk e15 hb2 adv' => hQ κ2 σ2 V2 al2 S2 LT2 HT2 sp2 F2 z2 st2 fr2 pt2 w2 dk e15 (by omega) (fun Q' hq => goes_act h77 hv ⟨e, Nat.le_refl _, AC_of_A rfl (Nat.le_of_ble_eq_true rfl) rfl ((adv _ (adv' Q' hq)).mono (fun r0 s0 h0 => h0))⟩))
theorem lc_newG (h : Rn κ0 σ0 κ σ b V al S LT HT sp F0 st fr pt ch w v (bd, i, j, pl, nv, vs, L, Oy, s, md) r) (all : AllOK X d (e + 1) κ0 σ0 b (pot V S st fr)) (allx : AllX X d (e + 1) κ0 σ0 b (pot V S st fr)) (hx : x + pot V S st fr ≤ 199000000) (hd : 7 ≤ d) (he : 65 ≤ e) (hs : s = 1) (hm : (mny = 0 ∧ Oy = O ∧ y = 0) ∨ (mny = 1 ∧ Oy = O ++ [y])) (e13 : aI σ0 13 j = 16) (e14 : aI σ0 14 j = nI c) (e15 : aI σ0 15 j = nI mny) (bk : BdK σ0 c 1 mny) (hj : j + 1 < 12000) (hkk : 1 ≤ kk ∧ kk ≤ 2) (hi2 : i ≤ i2) (gd : Good2 κ0 σ0 (fun _ => False) (bd, i2 + 1, j + 1, L.map itm, O.length + 1, 1)) (hO : tsz 0 r + (4 + nv + psz L + O.length) ≤ 15720 ∧ O.length < 150) 
    (cls : ∀ C : Km → Prop, (∀ κ1, Vo v κ κ1 → VK κ1 v ((bd, i2 + 1, j, pl, nv, vs, L, O ++ [y], s, md) :: r) → KC' X 6 MX6_playPart [vR 79, vR (1002 + 8 * v), vI (nI 23), vI (nI c)] κ1 (kRV C)) → ∀ Q : Res → Km → Prop, (∀ κ', C κ' → K X d MX6_run 2 [(0, vR 79), (1, vI (nI (x + kk)))] [] κ' Q) → K X d MX6_run 2 [(0, vR 79), (1, vI (nI x))] [] κ Q) : RunOK X d (e + 1) κ0 σ0 κ σ b x (HT + 2 * pot V S st fr) := by
  obtain ⟨n1, n2, n3, n4, n5, n6, n7, n8, n9, vr⟩ := h.num
  obtain ⟨-, -, -, -, -, -, c12, c13, c14⟩ := h.cls
  obtain ⟨f88, fF, fl, sta⟩ := h.f88
  have h0 : kI κ (1002 + 8 * v) 0 = nI v := (h.1.1.2.2.1 v c14.1 c14.2).1
  obtain ⟨s1, s2', s3, s4, s5, s6, s7, s8, s9, s10, s11, s12, s13, s14, s15⟩ := h.1.1.2.1
  have hw := h.1.1.2.2.2.2.1.2.2.2.1
  have b4 := h.2.1.2.2.2.1
  obtain ⟨bk1, bk2, bk3, bk4, bk5⟩ := bk
  obtain ⟨⟨-, t1, -, t12, -⟩, -⟩ := id sta
  have hcb : c < b := by
    rw [t1, lt_nI (by omega) (by omega)] at bk2
    exact bk2
  have fo2 : FrO κ0 σ0 F0 b (bd, i2 + 1, j + 1, pl, nv, vs, L, O ++ [nI (V + 1)], 1, 0) := ⟨n9.1, n9.2.1, Nat.le_refl _, n9.2.2.2.1, Or.inl ⟨rfl, by
    show Good2 κ0 σ0 (fun _ => False) (bd, i2 + 1, j + 1, L.map itm, (O ++ [nI (V + 1)]).length, 1)
    rw [List.length_append]
    exact gd⟩⟩
  have fx2 := fo2.frx sta
  have hi9 : i2 + 1 ≤ 9500 := fx2.2.2.2.2.1.2
  -- the class's making, from any state of this voice's act
  have mk1 : ∀ (s2 : Nat) (C : Km → Prop) (κ1 : Km), Vo v κ κ1 → VK κ1 v ((bd, i2 + 1, j, pl, nv, vs, L, O ++ [y], s, md) :: r) → (V < 60 → al < 12 → ∀ κa κb κc, Vo v κ1 κa → VK κa v ((bd, i2 + 1, j + 1, pl, nv, vs, L, O, s2, 0) :: r) → MkC κa κb V al (nI c) y (nI v) → Vo v κb κc → VK κc v ((bd, i2 + 1, j + 1, pl, nv, vs, L, O ++ [nI (V + 1)], s2, 0) :: r) → C κc) → ((V = 60 ∨ al = 12) → ∀ κa κb, Vo v κ1 κa → VK κa v ((bd, i2 + 1, j + 1, pl, nv, vs, L, O, s2, 0) :: r) → FmC κa κb F0 (nI 13) 0 (nI v) pl 0 → C (cI κb 79 14 (nI (F0 + 1)))) → KC' X 6 MX6_playPart [vR 79, vR (1002 + 8 * v), vI (nI 23), vI (nI c)] κ1 (kRV C) := fun s2 C κ1 vo1 vk1 q0 q1 => by
    have e79 : kI κ1 79 = kI κ 79 := (vo1.h (h := 79) (by omega) (by omega)).1
    have eV : kV κ1 = kV κ := vo1.1.2.2.2
    refine pp_new (F0 := F0) (σ := σ) (j' := j + 1) (s' := s2) (md' := 0) vk1 (by rw [vo1.2.2 0 (by decide) (by decide) (by decide) (by decide) (by decide)]; exact h0) (by rw [e79]; exact s1.1) (by rw [e79]; exact s2'.1) s8 s11 (by omega) (by omega) (fun n h1 h2 => ?_) c14 (fl.vo vo1 (Ro.refl (p := 0))) (by omega) (by omega) q0 q1
    rw [(vo1.h (h := 1002 + 8 * n + 1) (by omega) (by omega)).2.2]
    exact hw n h1 h2
  by_cases hf : V = 60 ∨ al = 12
  · -- full
    obtain ⟨σ2, ⟨ro, v2⟩, adv⟩ := on_many (X := X) (d := e) (y := y) (F0 := F0) (i' := i2 + 1) (s' := 0) (md' := 0) (by omega) c12 (hm.imp (fun z => ⟨z.1, z.2.1⟩) id) vr hj (by rw [c13 13 (by omega) (by omega)]; exact e13) (by rw [c13 14 (by omega) (by omega)]; exact e14) (by rw [c13 15 (by omega) (by omega)]; exact e15) (by omega) s1.2 s2'.2 s8 s11 hf f88 (by omega)
    refine rn_failk kk (by omega) (v' := v) (g' := F0) (p' := pt v) (C := fun κ' => ∃ κa κb, Vo v κ κa ∧ VK κa v ((bd, i2 + 1, j + 1, pl, nv, vs, L, O, 0, 0) :: r) ∧ FmC κa κb F0 (nI 13) 0 (nI v) pl 0 ∧ κ' = cI κb 79 14 (nI (F0 + 1))) (D := fun σ' => σ' = flS σ2 F0 (nI 13) 0 (nI v) pl (-9)) allx hx c12 (by omega) ⟨_, rfl, fun G hG => adv G hG⟩
      (cls _ (fun κ1 vo1 vk1 => mk1 0 _ κ1 vo1 vk1 (fun z1 z2 => by omega) (fun _ κa κb vo vk fc => ⟨κa, κb, vo1.trans vo, vk, fc, rfl⟩))) ?_
    rintro κ' σ' ⟨κa, κb, vo, vka, fc, rfl⟩ rfl
    obtain ⟨hR, hp⟩ := h.fail (k := 13) (f' := (bd, i2 + 1, j + 1, pl, nv, vs, L, O, 0, 0)) (ca := -9) (val := 0) (vo := nI v) (pl := pl) hs vo ro vka v2 ((n9.frx sta).to (by omega) hi9) rfl rfl (by omega) (Or.inl rfl) fc
    have e2 := pot_un (S := S) (st := st) (fr := fr) (fs := (bd, i2 + 1, j + 1, pl, nv, vs, L, O, 0, 0) :: r) c14
    rw [b4, fws_cons, fws_cons, fwt_e, fwt_e] at e2
    exact ⟨_, _, _, _, _, _, _, _, _, _, _, _, _, _, hR, rfl, by omega, by omega⟩
  · have hV1 : V < 60 := by omega
    have hA1 : al < 12 := by omega
    refine rn_stepk (C := fun κ' => ∃ κa κb, Vo v κ κa ∧ VK κa v ((bd, i2 + 1, j + 1, pl, nv, vs, L, O, 1, 0) :: r) ∧ MkC κa κb V al (nI c) y (nI v) ∧ Vo v κb κ' ∧ VK κ' v ((bd, i2 + 1, j + 1, pl, nv, vs, L, O ++ [nI (V + 1)], 1, 0) :: r)) (D := fun σ' => ∃ σa, Ro (pt v) σ σa ∧ VR σa v (pt v) ((bd, i2 + 1, j + 1, pl, nv, vs, L, O, 1, 0) :: r) ∧ Ro (pt v) (mdR σa V al (nI c) y (nI v)) σ' ∧ VR σ' v (pt v) ((bd, i2 + 1, j + 1, pl, nv, vs, L, O ++ [nI (V + 1)], 1, 0) :: r)) kk all hx (by omega)
      (ref_ex c12 (by omega) (on_new (i' := i2 + 1) (s' := 1) (md' := 0) (by omega) c12 hm vr hj (by rw [c13 13 (by omega) (by omega)]; exact e13) (by rw [c13 14 (by omega) (by omega)]; exact e14) (by rw [c13 15 (by omega) (by omega)]; exact e15) (by omega) s1.2 s2'.2 hV1 hA1 bk1 (by rw [c13 20 (by omega) (by omega)]; exact bk4) c14.2 hO.2 (fun σa σc r1 v1 r2 v2 => ⟨rfl, σa, r1, v1, r2, v2⟩)))
      (cls _ (fun κ1 vo1 vk1 => mk1 1 _ κ1 vo1 vk1 (fun _ _ κa κb κc vo vk mc vo2 vk2 => ⟨κa, κb, vo1.trans vo, vk, mc, vo2, vk2⟩) (fun z => absurd z hf))) ?_
    rintro κ' σ' ⟨κa, κb, vo, vka, mc, vo2, vk2⟩ ⟨σa, r1, v1, r2, v2⟩
    obtain ⟨fr2, hR, hp⟩ := h.newv (f1 := (bd, i2 + 1, j + 1, pl, nv, vs, L, O, 1, 0)) (f' := (bd, i2 + 1, j + 1, pl, nv, vs, L, O ++ [nI (V + 1)], 1, 0)) hV1 hA1 hcb bk3 (fun z => by
      rcases hm with ⟨-, -, z2⟩ | ⟨z1, -⟩
      · exact z2
      · rw [bk4, z1] at z
        exact absurd z (by decide)) vo r1 vka v1 mc vo2 r2 vk2 v2 rfl fo2 (by show 1 ≤ s; omega) rfl (by rw [fwt_e, fwt_e]; omega)
    exact ⟨_, _, _, _, _, _, _, _, _, _, _, _, _, _, _, hR, by omega, by omega⟩
/-- NEW of a script that takes a value -/
theorem lc_new1 (h : Rn κ0 σ0 κ σ b V al S LT HT sp F0 st fr pt ch w v (bd, i, j, pl, nv, vs, L, O ++ [y], s, md) r) (all : AllOK X d (e + 1) κ0 σ0 b (pot V S st fr)) (allx : AllX X d (e + 1) κ0 σ0 b (pot V S st fr)) (hx : x + pot V S st fr ≤ 199000000) (hd : 7 ≤ d) (he : 65 ≤ e) (hs : s = 1) (e69 : kI κ0 69 i = 23) (e70 : kI κ0 70 i = nI c) (e13 : aI σ0 13 j = 16) (e14 : aI σ0 14 j = nI c) (e15 : aI σ0 15 j = 1) (bk : BdK σ0 c 1 1) (hj : j + 1 < 12000) (gd : Good2 κ0 σ0 (fun _ => False) (bd, i + 1, j + 1, L.map itm, O.length + 1, 1)) : RunOK X d (e + 1) κ0 σ0 κ σ b x (HT + 2 * pot V S st fr) := by
  obtain ⟨n1, n2, n3, n4, n5, n6, n7, n8, n9, vr⟩ := h.num
  rw [List.length_append] at n2 n4
  have n2 : tsz 0 r + (4 + nv + psz L + (O.length + 1)) ≤ 15720 := n2
  have n4 : O.length + 1 ≤ 150 := n4
  refine lc_newG (i2 := i) (kk := 1) (mny := 1) h all allx hx hd he hs (Or.inr ⟨rfl, rfl⟩) e13 e14 e15 bk hj (by omega) (Nat.le_refl _) gd (by omega) (fun C hC => h.ppc hx (by omega) (by decide) e69 (fun κ1 vo1 vk1 => ⟨6, by omega, ?_⟩))
  rw [e70]
  exact hC κ1 vo1 vk1
/-- NEW of a script that takes none -/
theorem lc_new0 (h : Rn κ0 σ0 κ σ b V al S LT HT sp F0 st fr pt ch w v (bd, i, j, pl, nv, vs, L, O, s, md) r) (all : AllOK X d (e + 1) κ0 σ0 b (pot V S st fr)) (allx : AllX X d (e + 1) κ0 σ0 b (pot V S st fr)) (hx : x + pot V S st fr ≤ 199000000) (hd : 7 ≤ d) (he : 65 ≤ e) (hs : s = 1) (e69 : kI κ0 69 i = 1) (e70 : kI κ0 70 i = 0) (f69 : kI κ0 69 (i + 1) = 23) (f70 : kI κ0 70 (i + 1) = nI c) (e13 : aI σ0 13 j = 16) (e14 : aI σ0 14 j = nI c) (e15 : aI σ0 15 j = 0) (bk : BdK σ0 c 1 0) (hj : j + 1 < 12000) (gd : Good2 κ0 σ0 (fun _ => False) (bd, i + 2, j + 1, L.map itm, O.length + 1, 1)) : RunOK X d (e + 1) κ0 σ0 κ σ b x (HT + 2 * pot V S st fr) := by
  obtain ⟨n1, n2, n3, n4, n5, n6, n7, n8, n9, vr⟩ := h.num
  obtain ⟨-, -, -, -, -, -, c12, c13, c14⟩ := h.cls
  have b4 := h.2.1.2.2.2.1
  have hne : fr v ≠ [] := by rw [b4]; exact List.cons_ne_nil _ _
  have hO : O.length < 150 := by
    obtain ⟨-, -, -, -, -, l6, -⟩ := gd.loc
    have l6 : O.length + 1 ≤ 150 := l6
    omega
  obtain ⟨-, -, -, t, t2⟩ := h.f88
  have hi1 : nI (i + 1) < kI κ0 68 2 := by
    obtain ⟨m, m1, m2, m3, m4⟩ := h.f88.2.2.2.2.1
    have := good_lt m1 m2 gd
    rw [m1, lt_nI (by omega) (by omega)]
    omega
  refine lc_newG (O := O) (i2 := i + 1) (kk := 2) (mny := 0) h all allx hx hd he hs (Or.inl ⟨rfl, rfl, rfl⟩) e13 e14 e15 bk hj (by omega) (by omega) gd ⟨n2, hO⟩ (fun C hC Q hQ => ?_)
  refine h.1.1.act (a := 1) (C := fun κ' => Vo v κ κ' ∧ VK κ' v ((bd, i + 1, j, pl, nv, vs, L, O ++ [0], s, md) :: r)) h.2.1.2.2.2.2 c14 h.2.2.1.1 (by
    obtain ⟨m, m1, m2, m3, m4⟩ := h.f88.2.2.2.2.1
    rw [m1, lt_nI (by omega) (by omega)] at hi1 ⊢
    omega) (by omega) (by omega) (by omega) (by decide) e69 (fun κ1 vo1 vk1 => ⟨4, by omega, ?_⟩) Q (fun κ3 hc3 => ?_)
  · rw [e70]
    exact wk_const vk1 (by omega) (fun κ' vo vk => ⟨rfl, vo1.trans vo, vk⟩)
  · obtain ⟨vo3, vk3⟩ := hc3
    have rm := h.1.1.vo (fs := (bd, i + 1, j, pl, nv, vs, L, O ++ [0], s, md) :: r) c14 vo3 (Ro.refl (p := pt v)) hne (List.cons_ne_nil _ _)
    refine rm.ppact (a := 23) (C := C) (by rw [(vo3.h (h := 79) (by omega) (by omega)).1]; exact h.2.1.2.2.2.2) c14 vk3 hi1 (by omega) (by omega) (by omega) (by decide) f69 (fun κ4 vo4 vk4 => ⟨6, by omega, ?_⟩) Q (fun κ' hq => hQ κ' hq)
    rw [f70]
    exact hC κ4 (vo3.trans vo4) vk4
end NEWC
