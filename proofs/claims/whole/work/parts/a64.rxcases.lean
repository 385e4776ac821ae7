/-! a failure goes outwards in both: out of a call, out of a guard -/
section RXCASES
variable {X : Cx} {d e er : Nat} {κ0 κ κ1 κ' : Km} {σ0 σ σ1 σ' : Rm} {b V al S T sp z LT HT F0 v p n x q g lo : Nat} {st : Nat → Nat} {fr : Nat → List Frm} {pt : Nat → Nat} {fs r : List Frm} {ch : List Nat} {w : Nat → Nat} {f1 : Frm} {y u : Int32}
variable {bd i j nv s md i' j' s' md' t h0 ph jf : Nat} {pl : Int32} {vs : Nat → Int32} {L L0 Es : List Ite} {O : List Int32}
theorem fws_cons {f : Frm} : fws (f :: r) = fwt f + fws r := rfl
theorem arm_cons {f : Frm} : arm (f :: r) = frS f + arm r := rfl
theorem kps_cons {f : Frm} : kps g (f :: r) = kpl g (frL f) + kps g r := rfl
theorem fwt_e : fwt (bd, i, j, pl, nv, vs, L, O, s, md) = (9600 - i) + 22000 * s + gws L := rfl
theorem gws_last : gws (L0 ++ (1, t, h0, ph, u) :: Es) = gws L0 + (gwt (1, t, h0, ph, u) + gws Es) := by rw [gws_app]; rfl
theorem kpl_last : kpl g (L0 ++ (1, t, h0, ph, u) :: Es) = kpl g L0 + (kp1 g (1, t, h0, ph, u) + kpl g Es) := by rw [kpl_app]; rfl
theorem gwt_1 : 100 ≤ gwt (1, t, h0, ph, u) := by
  unfold gwt
  rw [if_neg (show ¬ (1 : Nat) = 0 by decide)]
  split
  · omega
  · split <;> omega
theorem Rx.num (h : Rx κ0 σ0 κ σ b V al S LT HT sp F0 st fr pt ch w v (bd, i, j, pl, nv, vs, L, O, s, md) r g) : tsz 0 ((bd, i, j, pl, nv, vs, L, O, s, md) :: r) ≤ 15720 ∧ nv ≤ 12 ∧ r.length + 1 ≤ 60 ∧ pt v < 12 ∧ nvB σ0 bd = nv ∧ (1 ≤ v ∧ v ≤ 60) ∧ (g < F0 ∧ F0 ≤ 7900) ∧ i ≤ 9500 := by
  obtain ⟨-, k2, -, k4⟩ := h.cls
  have hb := k2.bd.2.2
  have h1 := k2.1
  have fb := k2.2.2.2.2.1
  have hl : r.length + 1 ≤ 60 := h1.2.2.2
  obtain ⟨a, -, -, ⟨b1, b2, b3, b4, b5, b6⟩, ⟨f1, f2⟩, -, -⟩ := h
  have h21 : aI σ0 21 bd = nI nv := f1.2.1
  have hnv : nv ≤ 12 := fb.1
  refine ⟨hb, hnv, hl, h1.1, ?_, ⟨b1, by omega⟩, ⟨b6, a.2.2.2.2.2.1.1.2.2⟩, f1.2.2.2.2.1.2⟩
  unfold nvB
  rw [h21, cl_nI (by omega)]
theorem rx_A (h : Rx κ0 σ0 κ σ b V al S LT HT sp F0 st fr pt ch w v (bd, i, j, pl, nv, vs, L, O, s, md) (f1 :: r) g) (allx : AllX X d e κ0 σ0 b (pot V S st fr)) (hx : x + pot V S st fr ≤ 199000000) (hd : 7 ≤ d) (her : 5 * ch.length ≤ er) (he : 2 ≤ er) (hg : noG L) : RunX X d e er κ0 σ0 κ σ b x (HT + 2 * pot V S st fr) v g (pt v) := by
  obtain ⟨q1, q2, q3, q4, q5, q6, q7, q8⟩ := h.num
  obtain ⟨k1, k2, k3, k4⟩ := h.cls
  have q3 : r.length + 1 + 1 ≤ 60 := q3
  have h2 := h.2.2.2.2.1
  have ho := h2.2 f1 (List.mem_cons_self ..)
  have sta : Sta b κ0 σ0 := h.1.1.2.1
  obtain ⟨lv, lr⟩ := k2.leave hg
  refine rx_step (er' := er) (v' := v) (p' := pt v) (C := fun κ' => Vo v κ κ' ∧ VK κ' v (f1 :: r)) (D := fun σ' => Ro (pt v) σ σ' ∧ VRx σ' v (pt v) (f1 :: r)) allx hx ⟨_, ⟨lr, lv⟩, fun G hG => ra_A k2 hg (by omega) hG⟩
    (h.run (by omega) (by omega) ⟨2, by omega, kc_unwindA k1 hg (by omega) (by omega) (fun κ' vo vk => ⟨vo, vk⟩)⟩) ?_
  rintro κ' σ' ⟨vo, vk⟩ ⟨ro, vr⟩
  obtain ⟨h3, hp⟩ := h.loc vo ro vk vr ⟨ho.2.frx sta, fun f hf => h2.2 f (List.mem_cons_of_mem _ hf)⟩ (by rw [arm_cons (r := f1 :: r)]; omega) (by rw [fws_cons (r := f1 :: r), fwt_e]; omega) (fun y => by rw [kps_cons (r := f1 :: r)]; omega) (fun f0 it hf hi i1 i2 => ⟨f0, List.mem_cons_of_mem _ hf, hi⟩)
  exact ⟨_, _, _, _, _, _, _, _, _, _, _, _, _, _, h3, rfl, hp, by omega, her⟩
theorem rx_C (h : Rx κ0 σ0 κ σ b V al S LT HT sp F0 st fr pt ch w v (bd, i, j, pl, nv, vs, L0 ++ (1, t, h0, ph, u) :: Es, O, s, md) r g) (allx : AllX X d e κ0 σ0 b (pot V S st fr)) (hx : x + pot V S st fr ≤ 199000000) (hd : 7 ≤ d) (her : 5 * ch.length ≤ er) (he : 2 ≤ er) (hE : noG Es) (hph : 2 ≤ ph) : RunX X d e er κ0 σ0 κ σ b x (HT + 2 * pot V S st fr) v g (pt v) := by
  obtain ⟨q1, q2, q3, q4, q5, q6, q7, q8⟩ := h.num
  obtain ⟨k1, k2, k3, k4⟩ := h.cls
  have h2 := h.2.2.2.2.1
  have hh := h2.1.hd
  have fl : FRl κ σ F0 := h.1.2.2.2.2.2.1
  obtain ⟨lo, hlo⟩ : ∃ lo, ph = 3 → lo < F0 ∧ u = nI (lo + 1) := by
    by_cases c : ph = 3
    · obtain ⟨f, f1, f2⟩ := hh.2.2.1 (Or.inl c)
      exact ⟨f, fun _ => ⟨f1, f2⟩⟩
    · exact ⟨0, fun z => absurd z c⟩
  have hI : i < 20000 := by omega
  have fx : FrX κ0 σ0 F0 b (bd, i, j, pl, nv, vs, L0, [], s, md) := h2.1.cut h2.1.2.2.1 q8
  have hwt : fws ((bd, i, j, pl, nv, vs, L0, [], s, md) :: r) < fws ((bd, i, j, pl, nv, vs, L0 ++ (1, t, h0, ph, u) :: Es, O, s, md) :: r) := by
    rw [fws_cons, fws_cons, fwt_e, fwt_e, gws_last]
    have := gwt_1 (t := t) (h0 := h0) (ph := ph) (u := u)
    omega
  have hkp : ∀ y, kps y ((bd, i, j, pl, nv, vs, L0 ++ (1, t, h0, ph, u) :: Es, O, s, md) :: r) = kps y ((bd, i, j, pl, nv, vs, L0, [], s, md) :: r) + (kp1 y (1, t, h0, ph, u) + kpl y Es) := fun y => by
    rw [kps_cons, kps_cons]
    show kpl y (L0 ++ (1, t, h0, ph, u) :: Es) + kps y r = kpl y L0 + kps y r + _
    rw [kpl_last]
    omega
  have hit : ∀ f0 it, f0 ∈ (bd, i, j, pl, nv, vs, L0, [], s, md) :: r → it ∈ frL f0 → it.1 ≠ 0 → it.2.2.2.1 = 1 → ∃ f2, f2 ∈ (bd, i, j, pl, nv, vs, L0 ++ (1, t, h0, ph, u) :: Es, O, s, md) :: r ∧ it ∈ frL f2 := fun f0 it hf hi _ _ => by
    rcases List.mem_cons.mp hf with e | hf
    · rw [e] at hi
      exact ⟨_, List.mem_cons_self .., List.mem_append_left _ hi⟩
    · exact ⟨f0, List.mem_cons_of_mem _ hf, hi⟩
  -- the state between: beneath
  obtain ⟨κm, hκm⟩ : ∃ κm, κm = if ph = 3 then bnK κ σ g lo else κ := ⟨_, rfl⟩
  obtain ⟨σm, hσm⟩ : ∃ σm, σm = if ph = 3 then bnR σ g lo else σ := ⟨_, rfl⟩
  have em : ∀ k, k < 88 → aI σm k = aI σ k := fun k hk => by
    rw [hσm]; split
    · exact bnR_ne (by omega)
    · rfl
  have vrm : VRx σm v (pt v) ((bd, i, j, pl, nv, vs, L0 ++ (1, t, h0, ph, u) :: Es, O, s, md) :: r) := k2.cg (fun k h1 h2 => em k (by omega))
  obtain ⟨dv, dr⟩ := vrm.drop (i' := i) (s' := s) (md' := md) hE hI
  have dv := dv.cut (i' := i) (s' := s) (md' := md) hI
  have ek84 : kI κm 84 = kI κ 84 := by
    rw [hκm]; split
    · unfold bnK; split <;> rw [kI_ne (by decide), kI_ne (by decide)]
    · rfl
  have ekh : ∀ h, h ≠ 84 → h ≠ 85 → kI κm h = kI κ h ∧ kW κm h = kW κ h := fun h h1 h2 => by
    rw [hκm]; split
    · have fo : Fo κ (bnK κ σ g lo) := bnK_fo
      exact ⟨(fo.1.1 h (by omega)).1, (fo.1.1 h (by omega)).2.2⟩
    · exact ⟨rfl, rfl⟩
  refine rx_step (er' := er) (v' := v) (p' := pt v) (C := fun κ' => Vo v κm κ' ∧ VK κ' v ((bd, i, j, pl, nv, vs, L0, [], s, md) :: r)) (D := fun σ' => Ro (pt v) σm σ' ∧ VRx σ' v (pt v) ((bd, i, j, pl, nv, vs, L0, [], s, md) :: r)) allx hx ⟨_, ⟨dr, dv⟩, fun G hG => ra_C k2 hE (by omega) ⟨hph, hh.2.1⟩ fl q7.1 hlo (fun s2 e2 => by rw [e2, ← hσm]; exact hG)⟩
    (h.run (by omega) (by omega) ⟨2, by omega, kc_unwindC k1 hE (by omega) ⟨hph, hh.2.1⟩ h.2.2.2.1.2.2.2.2.1 fl q7.1 hlo (fun κ2 κ' e2 vo vk => by rw [e2, ← hκm] at vo; exact ⟨vo, vk⟩)⟩) ?_
  rintro κ' σ' ⟨vo, vk⟩ ⟨ro, vr⟩
  by_cases c3 : ph = 3
  · -- what was kept comes beneath
    obtain ⟨lo1, lo2⟩ := hlo c3
    obtain ⟨a, c, m, ⟨b1, b2, b3, b4, b5, b6⟩, fx0, acc, col⟩ := h
    have am : Bn κ0 σ0 κm σm b V al S v sp 0 LT HT F0 st fr pt v := by
      rw [hκm, hσm, if_pos c3, if_pos c3]
      exact a.bnt b6 lo1
    have hac := acc.loc (fs := (bd, i, j, pl, nv, vs, L0, [], s, md) :: r) ⟨b1, b2⟩ (by rw [b4, arm_cons, arm_cons]; exact Nat.le_refl _) (by rw [b4]; omega)
    have hp := hac.2
    rw [b4] at hp
    have kl : kp1 lo (1, t, h0, ph, u) = 1 := if_pos ⟨show ¬ (1 : Nat) = 0 by decide, c3, lo2⟩
    have e1 : ∀ y, cn (fun n => kps y (un fr v ((bd, i, j, pl, nv, vs, L0, [], s, md) :: r) n)) V + (kp1 y (1, t, h0, ph, u) + kpl y Es) = cn (fun n => kps y (fr n)) V := fun y => by
      have e := kps_un (g := y) (fr := fr) (fs := (bd, i, j, pl, nv, vs, L0, [], s, md) :: r) (V := V) (v := v) ⟨b1, b2⟩
      rw [b4] at e
      have := hkp y
      omega
    have col2 := Col.bnt (fr' := un fr v ((bd, i, j, pl, nv, vs, L0, [], s, md) :: r)) (κ' := κm) col fl b6 lo1 (if_pos rfl) (by have := e1 lo; omega) (fun y _ => by
      have := e1 y
      by_cases cy : y = lo
      · rw [cy] at this ⊢
        rw [if_pos rfl]; omega
      · rw [if_neg cy]; omega) (fun n f0 it n1 n2 hf hi i1 i2 => by
      by_cases cn' : n = v
      · rw [cn', un_eq] at hf
        obtain ⟨f2, g1, g2⟩ := hit f0 it hf hi i1 i2
        exact ⟨v, f2, b1, b2, by rw [b4]; exact g1, g2⟩
      · rw [un_ne cn'] at hf
        exact ⟨n, f0, n1, n2, hf, hi⟩) ek84 (fun h h1 h2 => ekh h (by omega) (by omega))
    have es : σm = bnR σ g lo := by rw [hσm, if_pos c3]
    rw [← es] at col2
    refine ⟨V, al, S, LT, HT, sp, F0, st, _, pt, ch, _, _, _, ⟨am.loc ⟨b1, b2⟩ (Or.inr rfl) vo ro vk (Or.inr ⟨rfl, vr⟩) (by rw [em 59 (by omega)]; exact k3) (by rw [b4]; exact List.cons_ne_nil _ _) (List.cons_ne_nil _ _), c.cg (by rw [ro.s (by decide), em 54 (by omega)]) (by rw [ro.s (by decide), em 56 (by omega)]) (by rw [ro.s (by decide), em 57 (by omega)]), fun n n1 n2 hn => ?_, ⟨b1, b2, b3, un_eq, by rw [(vo.h (h := 79) (by omega) (by omega)).1, (ekh 79 (by omega) (by omega)).1]; exact b5, b6⟩, ⟨fx, fx0.2⟩, hac.1, col2.cg (vo.h (h := 84) (by omega) (by omega)).1 (fun h h1 h2 => ⟨(vo.h (h := h) (by omega) (by omega)).1, (vo.h (h := h) (by omega) (by omega)).2.2⟩) (fun k k1 k2 => ro.s (by omega))⟩, rfl, by omega, by omega, her⟩
    rw [un_ne hn]
    exact (m n n1 n2 hn).cg (by rw [ro.s (by decide), em 56 (by omega)]) (Nat.le_refl _)
  · have eκ : κm = κ := by rw [hκm, if_neg c3]
    have eσ : σm = σ := by rw [hσm, if_neg c3]
    rw [eκ] at vo
    rw [eσ] at ro
    obtain ⟨h3, hp⟩ := h.loc vo ro vk vr ⟨fx, h2.2⟩ (Nat.le_refl _) hwt (fun y => by have := hkp y; omega) hit
    exact ⟨_, _, _, _, _, _, _, _, _, _, _, _, _, _, h3, rfl, hp, by omega, her⟩
end RXCASES
