/-! a value is given back: both -/
section RNGIVE
variable {X : Cx} {d e ec : Nat} {κ0 κ κa κb κ1 κ' : Km} {σ0 σ σa σ1 σ9 σ' : Rm} {b V al S T sp z LT HT F0 v p n x q k how cl : Nat} {st st1 : Nat → Nat} {fr fr1 : Nat → List Frm} {pt : Nat → Nat} {fs r rr : List Frm} {ch cr : List Nat} {w wc : Nat → Nat} {f f' f1 f1' : Frm} {y u : Int32} {C : Km → Prop} {D : Rm → Prop} {F : Km → Prop}
variable {bd i j nv s md i' j' s' md' t h0 ph c j2 : Nat} {pl pl' : Int32} {vs vs' : Nat → Int32} {L L0 Lc M : List Ite} {O O' Oc : List Int32}
/-- one voice's calls are others, guards may be gone -/
theorem Rn.locS (h : Rn κ0 σ0 κ σ b V al S LT HT sp F0 st fr pt ch w v f r) (ko : Vo v κ κ') (ro : Ro (pt v) σ σ') (vk : VK κ' v (f' :: rr)) (vr : VR σ' v (pt v) (f' :: rr)) (fo : frM f' = 0 ∧ FrO κ0 σ0 F0 b f' ∧ ∀ h, h ∈ rr → frM h = 1 ∧ FrO κ0 σ0 F0 b h) (ha : arm (f' :: rr) ≤ arm (f :: r)) (hw : fws (f' :: rr) < fws (f :: r)) (hk : ∀ g, g < F0 → kps g (f' :: rr) ≤ kps g (f :: r)) (h1 : ∀ f0 it, f0 ∈ f' :: rr → it ∈ frL f0 → it.1 ≠ 0 → it.2.2.2.1 = 1 → ∃ f2, f2 ∈ f :: r ∧ it ∈ frL f2) :
    Rn κ0 σ0 κ' σ' b V al S LT HT sp F0 st (un fr v (f' :: rr)) pt ch w v f' rr ∧ pot V S st (un fr v (f' :: rr)) + fws (f :: r) = pot V S st fr + fws (f' :: rr) := by
  obtain ⟨a, c, m⟩ := h.bn (x := 0)
  obtain ⟨-, ⟨b1, b2, b3, b4, b5⟩, ⟨c1, c2, c3⟩, -, acc, col⟩ := h
  have hac := acc.loc (fs := f' :: rr) ⟨b1, b2⟩ (by rw [b4]; exact ha) (by rw [b4]; omega)
  have hp := hac.2
  rw [b4] at hp
  refine ⟨Rn.of (a.loc ⟨b1, b2⟩ (Or.inl rfl) ko ro vk (Or.inl vr) c3 (by rw [b4]; exact List.cons_ne_nil _ _) (List.cons_ne_nil _ _)) (c.cg (ro.s (by decide)) (ro.s (by decide)) (ro.s (by decide))) (fun n n1 n2 hn => ?_) ⟨b1, b2, b3, un_eq, by rw [(ko.h (h := 79) (by omega) (by omega)).1]; exact b5⟩ fo hac.1 ?_, hp⟩
  · rw [un_ne hn]
    exact (m n n1 n2 hn).cg (congrFun (ro.s (by decide)) n) (Nat.le_refl _)
  · refine col.sub (ko.h (h := 84) (by omega) (by omega)).1 (fun h h1 h2 => ⟨(ko.h (h := h) (by omega) (by omega)).1, (ko.h (h := h) (by omega) (by omega)).2.2⟩) (fun k k1 k2 => ro.s (by omega)) (fun y hy => ?_) (fun n f0 it n1 n2 hf hi i1 i2 => ?_)
    · have e := kps_un (g := y) (fr := fr) (fs := f' :: rr) (V := V) (v := v) ⟨b1, b2⟩
      rw [b4] at e
      have := hk y hy
      omega
    · by_cases cw : n = v
      · rw [cw, un_eq] at hf
        obtain ⟨f2, g1, g2⟩ := h1 f0 it hf hi i1 i2
        exact ⟨v, f2, b1, b2, by rw [b4]; exact g1, g2⟩
      · rw [un_ne cw] at hf
        exact ⟨n, f0, n1, n2, hf, hi⟩
theorem kc_endV (a : Bn κ0 σ0 κ σ b V al S T sp z LT HT F0 st fr pt x) (hv : 1 ≤ v ∧ v ≤ V) (ko : Vo v κ κ1) (vk : VK κ1 v fs) (hne : fr v ≠ []) (q : F (enK κ1 v sp y)) : KC' X 2 MX6_end [vR 79, vR (1002 + 8 * v), vI y] κ1 (kRV F) := by
  obtain ⟨s1, s2, s3, s4, s5, s6, s7, s8, s9, s10, s11, s12, s13, s14, s15⟩ := a.2.1
  have h12 := a.2.2.2.1.sp12 hv hne
  have r3 := a.2.2.2.1.2.2.1
  obtain ⟨c, o, o1, o2, o3⟩ := vk
  obtain ⟨w1, w2, w3⟩ := o3.2.2.1
  rw [← cel3] at w2 w3
  unfold enK at q
  refine kc_Stage_end (s := sp) hv.1 (by rw [ko.1.2.2.2]; omega) (by rw [(ko.h (h := 79) (by omega) (by omega)).1]; exact s6) (by omega) (fun _ => ⟨h12, ?_⟩) (fun w0 => by rw [if_pos w0] at q; exact q) (fun w0 => by rw [if_neg w0] at q; exact q)
  rw [(ko.h (h := 1004 + 8 * sp) (by omega) (by omega)).2.2]
  exact (r3 sp h12).2 (Nat.le_refl _)
/-- v is over, behind its last call -/
theorem Rn.leaves4 (h : Rn κ0 σ0 κ σ b V al S LT HT sp F0 st fr pt (v :: cr) w v f []) (hi : frI f < 9500) (hi' : frI f' ≤ 9500) (ko : Vo v κ κ1) (ro : Ro (pt v) σ σ1) (vk : VK κ1 v [f']) (vr : VRx σ1 v (pt v) [f']) (ro9 : Ro (pt v) σ1 σ9) (hs : 4 ≤ s ∧ s ≤ 6) (hcl : kI κ (1002 + 8 * v) 11 = nI cl) (hcl1 : cl ≤ 1) :
    Bk κ0 σ0 (enK κ1 v sp (nI s)) (enR σ9 v al (nI s)) b V (al - 1) S LT HT (sp + 1) F0 (un st v s) (un fr v []) pt cr w v cl ∧ pot V S (un st v s) (un fr v []) + 100 ≤ pot V S st fr := by
  obtain ⟨a, c, m⟩ := h.bn (x := 0)
  obtain ⟨-, ⟨b1, b2, b3, b4, b5⟩, ⟨c1, c2, c3⟩, -, acc, col⟩ := h
  have hne : fr v ≠ [] := by rw [b4]; exact List.cons_ne_nil _ _
  have hB1 := a.loc (x' := v) (fs := [f']) ⟨b1, b2⟩ (Or.inl rfl) ko ro vk (Or.inr ⟨rfl, vr⟩) c3 hne (List.cons_ne_nil _ _)
  have hE := hB1.end (x' := 0) (s := s) ⟨b1, b2⟩ (by rw [b3]; omega) hs (Or.inr rfl)
  rw [un_un, hasF_one (by rw [un_eq]; exact List.cons_ne_nil _ _)] at hE
  have hE2 := hE.part (ro9.ends (n := v) (al := al) (y := nI s)) (fun n n1 n2 hn => by
    by_cases cn' : n = v
    · rw [cn', un_eq] at hn; exact absurd rfl hn
    · rw [un_ne cn'] at hn
      exact a.2.2.2.1.2.2.2.2.1 n v n1 n2 b1 b2 cn' hn hne)
  have hf1 : 100 ≤ fwt f := by
    show 100 ≤ (9600 - frI f) + 22000 * frS f + gws (frL f)
    omega
  have e1 := arm_un2 (V := V) (st := st) (fr := fr) (s := s) (fs := []) ⟨b1, b2⟩
  have e2 := pot_un2 (V := V) (S := S) (st := st) (fr := fr) (s := s) (fs := []) ⟨b1, b2⟩
  rw [b4, vA_pos (by omega), vA_pos (by omega)] at e1
  rw [b4, vW_pos (by omega), vW_pos (by omega)] at e2
  have e1 : cn (vArm (un st v s) (un fr v [])) V + (frS f + 0) = cn (vArm st fr) V + 0 := e1
  have e2 : pot V S (un st v s) (un fr v []) + (fwt f + 0) = pot V S st fr + 0 := e2
  obtain ⟨ac1, ac2, ac3⟩ := acc
  have es : ∀ k, k ≠ 48 → k ≠ 49 → k ≠ 58 → k ≠ 59 → (k < 60 ∨ 74 < k) → aI (enR σ9 v al (nI s)) k = aI σ k := fun k k1 k2 k3 k4 k5 => by rw [enR_k k1 k2 k3 k4, ro9.s k5, ro.s k5]
  have ek : ∀ h, h ≠ 79 → h ≠ 1002 + 8 * v → h ≠ 1003 + 8 * v → h ≠ 1004 + 8 * sp → kI (enK κ1 v sp (nI s)) h = kI κ h ∧ kW (enK κ1 v sp (nI s)) h = kW κ h := fun h h1 h2 h3 h4 => ⟨by rw [(enK_h h1 h2 h4).1, (ko.h h2 (by rw [← cel3]; exact h3)).1], by rw [enK_w h3 h4, (ko.h h2 (by rw [← cel3]; exact h3)).2.2]⟩
  obtain ⟨r1, r2, r3, r4⟩ := c.res
  refine ⟨⟨hE2, ⟨b1, b2, by rw [enK_79 (by decide) (by decide), (ko.h (h := 79) (by omega) (by omega)).1]; exact b5, by rw [enK_v (by decide) (by decide), ko.2.2 11 (by decide) (by decide) (by decide) (by decide) (by decide)]; exact hcl, hcl1⟩, ⟨by rw [es 54 (by decide) (by decide) (by decide) (by decide) (by decide)]; exact r1, r3, fun z => ?_⟩, ?_, fun n h1 h2 => ?_, ⟨by omega, by omega, by omega⟩, ?_⟩, by omega⟩
  · obtain ⟨q1, q2, q3⟩ := r4 z
    exact ⟨q3, q2, by rw [un_ne q2]; exact q1⟩
  · exact c.back (s := s) (Or.inr hs.1) (fun z => by omega) (fun x _ => congrFun (es 54 (by decide) (by decide) (by decide) (by decide) (by decide)) x) (congrFun (es 54 (by decide) (by decide) (by decide) (by decide) (by decide)) v) (es 56 (by decide) (by decide) (by decide) (by decide) (by decide)) (es 57 (by decide) (by decide) (by decide) (by decide) (by decide))
  · by_cases cv : n = v
    · rw [cv, un_eq, un_eq]
      exact Or.inl ⟨Or.inr hs.1, rfl⟩
    · rw [un_ne cv, un_ne cv]
      exact (m n h1 h2 cv).cg (congrFun (es 56 (by decide) (by decide) (by decide) (by decide) (by decide)) n) (Nat.le_refl _)
  · refine col.sub (ek 84 (by omega) (by omega) (by omega) (by omega)).1 (fun h h1 h2 => ek h (by omega) (by omega) (by omega) (by omega)) (fun k k1 k2 => es k (by omega) (by omega) (by omega) (by omega) (by omega)) (fun y _ => ?_) (fun n f0 it n1 n2 hf hi i1 i2 => ?_)
    · have e := kps_un (g := y) (fr := fr) (fs := []) (V := V) (v := v) ⟨b1, b2⟩
      have : kps y [] = 0 := rfl
      omega
    · by_cases cv : n = v
      · rw [cv, un_eq] at hf
        exact absurd hf List.not_mem_nil
      · rw [un_ne cv] at hf
        exact ⟨n, f0, n1, n2, hf, hi⟩
end RNGIVE
