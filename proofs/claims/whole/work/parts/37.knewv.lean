/-! a voice more -/
def newV (κ : Km) : Km := (fun g j => if g = 1010 + 8 * kV κ then 0 else κ.1 g j, fun g j => if g = 1010 + 8 * kV κ then 0 else κ.2.1 g j, fun g => if g = 1011 + 8 * kV κ then 0 else κ.2.2.1 g, κ.2.2.2.1, κ.2.2.2.2.1, κ.2.2.2.2.2.1 + 1, κ.2.2.2.2.2.2.1 + 1, κ.2.2.2.2.2.2.2 + 16)
theorem newV_live {κ : Km} {g : Nat} : live (newV κ) g ↔ live κ g ∨ g = 1010 + 8 * kV κ := by
  have e1 : kB (newV κ) = kB κ := rfl
  have e2 : kV (newV κ) = kV κ + 1 := rfl
  have e3 : kW (newV κ) g = if g = 1011 + 8 * kV κ then 0 else kW κ g := rfl
  unfold live
  rw [e1, e2, e3]
  by_cases c : g = 1011 + 8 * kV κ
  · rw [if_pos c]; subst c
    constructor
    · rintro (h | h | h | h | h | h) <;> omega
    · rintro ((h | h | h | h | h | h) | h) <;> omega
  · rw [if_neg c]
    constructor
    · rintro (h | h | h | h | h | h)
      · exact Or.inl (Or.inl h)
      · exact Or.inl (Or.inr (Or.inl h))
      · exact Or.inl (Or.inr (Or.inr (Or.inl h)))
      · by_cases c2 : g = 1010 + 8 * kV κ
        · exact Or.inr c2
        · exact Or.inl (Or.inr (Or.inr (Or.inr (Or.inl ⟨h.1, h.2.1, h.2.2.1, by omega⟩))))
      · exact Or.inl (Or.inr (Or.inr (Or.inr (Or.inr (Or.inl ⟨h.1, h.2.1, h.2.2.1, by omega, h.2.2.2.2⟩)))))
      · exact Or.inl (Or.inr (Or.inr (Or.inr (Or.inr (Or.inr h)))))
    · rintro ((h | h | h | h | h | h) | h)
      · exact Or.inl h
      · exact Or.inr (Or.inl h)
      · exact Or.inr (Or.inr (Or.inl h))
      · exact Or.inr (Or.inr (Or.inr (Or.inl ⟨h.1, h.2.1, h.2.2.1, by omega⟩)))
      · exact Or.inr (Or.inr (Or.inr (Or.inr (Or.inl ⟨h.1, h.2.1, h.2.2.1, by omega, h.2.2.2.2⟩))))
      · exact Or.inr (Or.inr (Or.inr (Or.inr (Or.inr h))))
      · exact Or.inr (Or.inr (Or.inr (Or.inl ⟨by omega, by omega, by omega, by omega⟩)))
theorem live_nV {κ : Km} {g : Nat} (h : live κ g) : g ≠ 1010 + 8 * kV κ ∧ g ≠ 1011 + 8 * kV κ := by
  unfold live at h
  omega
theorem CV.addV {ad ad' : Nat → Nat} {κ : Km} {S S' : Mem} (hC : CV ad κ S) (hV : kV κ < 60) (t1 : tp S' = tp S + 1) (t2 : sz S' = sz S + 16) (o : Old S S') (k1 : gK S' (tp S) = 10) (i1 : gI S' (tp S) = fun _ => 0) (i2 : gL S' (tp S) = fun _ => 0)
    (r1 : gR S' (tp S) 12 = 27) (r2 : gR S' (ad 89) (kV κ + 1) = tp S) (r3 : ∀ a j, a < tp S → ¬ (a = ad 89 ∧ j = kV κ + 1) → gR S' a j = gR S a j)
    (e1 : ad' (1010 + 8 * kV κ) = tp S) (e2 : ad' (1011 + 8 * kV κ) = 27) (e3 : ∀ g, g ≠ 1010 + 8 * kV κ → g ≠ 1011 + 8 * kV κ → ad' g = ad g) : CV ad' (newV κ) S' ∧ Ob κ ad ad' ∧ Fc S S' := by
  obtain ⟨c1, c2, c3, c4, c5, c6, c7, c8, c9, c10, c11, c12, c13, c14, c15, c16, c17, c18, c19, c20, c21⟩ := hC
  have lt : ∀ g, live κ g → ad g < tp S := fun g hg => (c1 g hg).2.1
  have fx : ∀ x, 64 ≤ x → x < 92 → live κ x := fun x a b => Or.inl ⟨a, b⟩
  have es : ∀ g, live κ g → ad' g = ad g := fun g hg => e3 g (live_nV hg).1 (live_nV hg).2
  have hR : ∀ g j, live κ g → g ≠ 89 → gR S' (ad g) j = gR S (ad g) j := fun g j hg hn => r3 _ _ (lt g hg) (fun z => hn (c2 g 89 hg (fx 89 (by decide) (by decide)) z.1))
  have vwS : vw 92 S' = vw 92 S := vw_cong (fun a h1 h2 => ⟨(o a (by omega)).2.2.1, (o a (by omega)).2.2.2⟩)
  have hq1 : ∀ q ∈ hRs, 64 ≤ q.1 ∧ q.1 < 92 ∧ q.1 ≠ 89 ∧ 64 ≤ q.2.2 ∧ q.2.2 < 92 := by decide
  refine ⟨⟨fun g hg => ?_, fun g g' hg hg' e => ?_, fun g hg => ?_, fun q hq => ?_, fun i hi => ?_, fun m h1 h2 => ?_, ?_, ?_, fun i hi => ?_, fun i hi => ?_, fun s hs h0 => ?_, c12, by show kV κ + 1 ≤ 60; omega, by rw [t1, c14]; rfl, by rw [t2, c15]; rfl, by omega, ?_, by rw [(o 27 (by omega)).1]; exact c18, by rw [(o 27 (by omega)).2.1]; exact c19, fun i => ?_, fun q hq => ?_⟩, fun g hg _ => es g hg, vwS, (o 1 (by omega)).2.1, (o 1 (by omega)).2.2.1⟩
  · rcases newV_live.mp hg with h | rfl
    · obtain ⟨b1, b2, b3, b4, b5, b6, b7⟩ := c1 g h
      have hn := live_nV h
      rw [es g h]
      obtain ⟨o1, o2, o3, o4⟩ := o _ b2
      refine ⟨b1, by omega, b3, by rw [o1]; exact b4, fun hh => ?_, ?_, ?_⟩
      · rw [o2, b5 hh]; show _ = if g = 1011 + 8 * kV κ then 0 else _; rw [if_neg hn.2]; rfl
      · rw [o3, b6]; funext j; show _ = if g = 1010 + 8 * kV κ then 0 else _; rw [if_neg hn.1]; rfl
      · rw [o4, b7]; funext j; show _ = if g = 1010 + 8 * kV κ then 0 else _; rw [if_neg hn.1]; rfl
    · have hkk : hk (1010 + 8 * kV κ) = 10 := by unfold hk; rw [if_neg (by omega), if_neg (by omega), if_neg (by omega), if_pos (by omega)]
      rw [e1, hkk]
      refine ⟨by omega, by omega, by omega, k1, fun hh => by omega, ?_, ?_⟩
      · rw [i1]; funext j; show (0 : Int32) = if 1010 + 8 * kV κ = 1010 + 8 * kV κ then 0 else _; rw [if_pos rfl]
      · rw [i2]; funext j; show (0 : Int64) = if 1010 + 8 * kV κ = 1010 + 8 * kV κ then 0 else _; rw [if_pos rfl]
  · have al : ∀ x, live (newV κ) x → (live κ x ∧ ad' x < tp S ∧ ad' x = ad x) ∨ (x = 1010 + 8 * kV κ ∧ ad' x = tp S) := fun x hx => by
      rcases newV_live.mp hx with h | rfl
      · exact Or.inl ⟨h, by rw [es x h]; exact lt x h, es x h⟩
      · exact Or.inr ⟨rfl, e1⟩
    rcases al g hg with ⟨a1, a2, a3⟩ | ⟨a1, a2⟩ <;> rcases al g' hg' with ⟨b1, b2, b3⟩ | ⟨b1, b2⟩
    · rw [a3, b3] at e; exact c2 g g' a1 b1 e
    · omega
    · omega
    · omega
  · rw [e3 g (by unfold still at hg; omega) (by unfold still at hg; omega)]; exact c3 g hg
  · obtain ⟨b1, b2, b3, b4, b5⟩ := hq1 q hq
    rw [es _ (fx _ b1 b2), es _ (fx _ b4 b5), hR _ _ (fx _ b1 b2) b3]; exact c4 q hq
  · have hi' : i < kB κ := hi
    rw [es _ (isH_body hi').1, es _ (isH_names hi').1, hR _ _ (isH_body hi').1 (by omega)]; exact c5 i hi'
  · by_cases c : m ≤ kV κ
    · have hw : kW (newV κ) (1003 + 8 * m) = kW κ (1003 + 8 * m) := by
        show (if 1003 + 8 * m = 1011 + 8 * kV κ then 0 else κ.2.2.1 (1003 + 8 * m)) = _
        rw [if_neg (by omega)]; rfl
      rw [es _ (isH_voice h1 c).1, e3 (1003 + 8 * m) (by omega) (by omega), hw, hR _ _ (isH_voice h1 c).1 (by omega)]
      exact c6 m h1 c
    · have : m = kV κ + 1 := by have h : m ≤ kV κ + 1 := h2; omega
      subst this
      rw [show 1002 + 8 * (kV κ + 1) = 1010 + 8 * kV κ by omega, show 1003 + 8 * (kV κ + 1) = 1011 + 8 * kV κ by omega, e1, e2]
      exact ⟨r1, fun _ => rfl⟩
  · show gR S' (ad' 77) 3 = if kC κ = 0 then 0 else ad' (kC κ)
    rw [es 77 (fx 77 (by decide) (by decide)), hR 77 3 (fx 77 (by decide) (by decide)) (by decide), c7]
    by_cases c : kC κ = 0
    · rw [if_pos c, if_pos c]
    · rw [if_neg c, if_neg c, es _ (c8.resolve_left c).1]
  · rcases c8 with c | c
    · exact Or.inl c
    · exact Or.inr ⟨newV_live.mpr (Or.inl c.1), c.2⟩
  · show gR S' (ad' 71) i = if i < kB κ then ad' (1000 + 8 * i) else 0
    rw [es 71 (fx 71 (by decide) (by decide)), hR 71 i (fx 71 (by decide) (by decide)) (by decide), c9 i hi]
    by_cases c : i < kB κ
    · rw [if_pos c, if_pos c, es _ (isH_body c).1]
    · rw [if_neg c, if_neg c]
  · show gR S' (ad' 89) i = if 1 ≤ i ∧ i ≤ kV κ + 1 then ad' (1002 + 8 * i) else 0
    rw [es 89 (fx 89 (by decide) (by decide))]
    by_cases c : i = kV κ + 1
    · rw [c, r2, if_pos (by omega), show 1002 + 8 * (kV κ + 1) = 1010 + 8 * kV κ by omega, e1]
    · rw [r3 _ _ (lt 89 (fx 89 (by decide) (by decide))) (fun z => c z.2), c10 i hi]
      by_cases c' : 1 ≤ i ∧ i ≤ kV κ
      · rw [if_pos c', if_pos (by omega), es _ (isH_voice c'.1 c'.2).1]
      · rw [if_neg c', if_neg (by omega)]
  · have hw : kW (newV κ) (1004 + 8 * s) = kW κ (1004 + 8 * s) := by
      show (if 1004 + 8 * s = 1011 + 8 * kV κ then 0 else κ.2.2.1 (1004 + 8 * s)) = _
      rw [if_neg (by omega)]; rfl
    rw [hw] at h0
    rw [es 90 (fx 90 (by decide) (by decide)), e3 (1004 + 8 * s) (by omega) (by omega), hR 90 s (fx 90 (by decide) (by decide)) (by decide)]
    exact c11 s hs h0
  · have hR92 : ∀ a j, 92 ≤ a → a < 168 → gR S' a j = gR S a j := fun a j h1 h2 => r3 a j (by omega) (fun z => by have := (c1 89 (fx 89 (by decide) (by decide))).2.2.1; omega)
    obtain ⟨l1, l2, l3, l4⟩ := c17
    refine ⟨l1, ⟨by have := l2.1; omega, by rw [(o 92 (by omega)).1]; exact l2.2⟩, fun q hq h0 => ?_, fun i hi => by rw [hR92 _ _ (by decide) (by decide)]; exact l4 i hi⟩
    obtain ⟨q1, q2, q3⟩ := l3 q hq h0
    have hm := maf_lt q
    exact ⟨by rw [hR92 _ _ (by decide) (by decide)]; exact q1, ⟨by have := q2.1; omega, by rw [(o _ (by omega)).1]; exact q2.2⟩, by rw [(o _ (by omega)).2.1]; exact q3⟩
  · show (if 69 = 1010 + 8 * kV κ then 0 else κ.1 69 i).toInt8.toInt32 = if 69 = 1010 + 8 * kV κ then 0 else κ.1 69 i
    rw [if_neg (by omega)]; exact c20 i
  · have hr : ∀ q ∈ cNs, q.1 < 92 := by decide
    show (if q.1 = 1011 + 8 * kV κ then 0 else κ.2.2.1 q.1) = q.2
    rw [if_neg (by have := hr q hq; omega)]
    exact c21 q hq
section KNEWV
variable {X : Cx} {d : Nat} {M : MI} {pc pc2 : Nat} {lv : Lv} {st : List AV} {κ : Km} {Q : Res → Km → Prop}
/-- new, dup, the constructor, aastore: a voice more in the row of voices -/
theorem K_newV {ix ix2 : Nat} {i : Int32} (hlv : ∀ q ∈ lv, okv κ q.2) (hst : ∀ v ∈ st, okv κ v) (hd : decode M.2.1 pc = .ok (.new ix, 3)) (hw : Cond.classLink (kcn.getD M.2.2.2.2 "") ix RX10 ∈ lw_tbl) (hd1 : decode M.2.1 (pc + 3) = .ok (.dup, 1)) (hd2 : decode M.2.1 (pc + 3 + 1) = .ok (.invokespecial ix2, 3)) {host : String} (hw2 : Cond.methodLinkNest (kcn.getD M.2.2.2.2 "") ix2 MX10_init.1 host ∈ lw_tbl) (hd3 : decode M.2.1 (pc + 3 + 1 + 3) = .ok (.aastore, 1)) (hp : pc + 3 + 1 + 3 + 1 = pc2) (hs8 : (st.map cat).sum ≤ 5) (hdd : 2 ≤ d) (hV : kV κ < 60) (hi : i = nI (kV κ + 1)) (kk : K X d M pc2 lv st (newV κ) Q) : K X d M pc lv (vI i :: vR 89 :: st) κ Q := by
  subst hi
  obtain ⟨r, κ', ⟨mo, e⟩, q⟩ := kk
  refine ⟨r, κ', ⟨⟨mo.1, Nat.le_trans (Nat.le_succ _) mo.2⟩, fun ad S hC => ?_⟩, q⟩
  have h89 : isH κ 89 25 := fixH 89 25 (by decide) rfl
  have e89 : ad 89 = 89 := hC.2.2.1 89 (by unfold still; decide)
  have k89 : isK S 89 25 := by have := hC.k h89; rw [e89] at this; exact this
  have n89 : gN S 89 = 61 := by have := hC.n h89 (by decide); rw [e89] at this; rw [this]; exact hC.2.2.2.2.2.2.2.2.2.2.2.2.2.2.2.2.2.2.2.2 (89, 61) (by decide)
  have hT : 168 ≤ tp S := hC.2.2.2.2.2.2.2.2.2.2.2.2.2.2.2.1
  obtain ⟨CV', ob, fc⟩ := hC.addV (S' := uR (uR (nw S 10 0 16) (tp S) 12 27) 89 (kV κ + 1) (tp S)) (ad' := fun x => if x = 1010 + 8 * kV κ then tp S else if x = 1011 + 8 * kV κ then 27 else ad x) hV rfl rfl
    (fun a ha => ⟨(gK_nw (S := S) (k := 10) (n := 0) (w := 16)).trans (if_neg (by omega)), (gN_nw (S := S) (k := 10) (n := 0) (w := 16)).trans (if_neg (by omega)), by funext j; exact (gI_nw (S := S) (k := 10) (n := 0) (w := 16)).trans (if_neg (by omega)), by funext j; exact (gL_nw (S := S) (k := 10) (n := 0) (w := 16)).trans (if_neg (by omega))⟩)
    ((gK_nw (S := S) (k := 10) (n := 0) (w := 16)).trans (if_pos rfl)) (by funext j; exact (gI_nw (S := S) (k := 10) (n := 0) (w := 16)).trans (if_pos rfl)) (by funext j; exact (gL_nw (S := S) (k := 10) (n := 0) (w := 16)).trans (if_pos rfl))
    (by rw [gR_uR, if_neg (by omega), gR_uR, if_pos ⟨rfl, rfl⟩]) (by rw [e89, gR_uR, if_pos ⟨rfl, rfl⟩]) (fun a j ha hn => by rw [e89] at hn; rw [gR_uR, if_neg hn, gR_uR, if_neg (by omega), gR_nw, if_neg (by omega)]) (if_pos rfl) (by show (if 1011 + 8 * kV κ = 1010 + 8 * kV κ then _ else _) = _; rw [if_neg (by omega), if_pos rfl]) (fun g h1 h2 => by show (if g = _ then _ else _) = _; rw [if_neg h1, if_neg h2])
  obtain ⟨ad2, S2, ev, C2, ob2, fc2⟩ := e _ _ CV'
  rw [mpl_ok ob lv hlv, mps_ok ob st hst] at ev
  refine ⟨ad2, S2, ?_, C2, fun x hx hxk => (ob2 x (newV_live.mpr (Or.inl hx)) hxk).trans (ob x hx hxk), fc.trans fc2⟩
  have es : mps ad (vI (nI (kV κ + 1)) :: vR 89 :: st) = vI (nI (kV κ + 1)) :: vR 89 :: mps ad st := by
    show vI _ :: mps ad (vR 89 :: st) = _
    rw [mps_R (by decide), e89]
  rw [es]
  have vgo : V X d M pc (mpl ad lv) (vI (nI (kV κ + 1)) :: vR 89 :: mps ad st) S (fun r' T' => r' = mpr ad2 r ∧ T' = S2) := by
    refine V_newC kc10 (pc2 := pc + 3) hd hw it_10 ii_10 (by decide) rfl ?_
    refine V_dup (pc2 := pc + 3 + 1) hd1 rfl rfl ?_
    refine V_callIN (as := []) (st := vR (tp S) :: vI (nI (kV κ + 1)) :: vR 89 :: mps ad st) (M' := MX10_init) (d' := 1) (pc2 := pc + 3 + 1 + 3) hd2 hw2 mv_X10_init rfl rfl rfl (by show 1 + (1 + (1 + ((mps ad st).map cat).sum)) ≤ 8; rw [mps_cat]; omega) rfl (by omega) (by omega) (C_of_V (Q := fun r S1 => r = .inl none ∧ S1 = uR (nw S 10 0 16) (tp S) 12 27) rfl (Nat.le_of_ble_eq_true rfl) rfl (w_X10_init_0 (tp S) ⟨by decide, by omega, isK_new, fun S4 e4 => ⟨rfl, by rw [e4]⟩⟩)) ?_
    rintro r1 S1 ⟨rfl, rfl⟩
    refine ⟨none, rfl, ?_⟩
    refine V_aast25 (pc2 := pc2) hd3 hp (isK_nw k89) (by rw [gN_uR, gN_nw, if_neg (by omega), n89]; exact vp_in_lt (by omega) (by omega)) isK_new (by omega) ?_
    rw [cl_nI (by omega)]
    exact ⟨_, S2, ev, rfl, rfl⟩
  obtain ⟨r3, S3, ev3, rfl, rfl⟩ := vgo
  exact ev3
end KNEWV
