/-! a failure goes outwards in both: within a voice -/
section RXSTEP
variable {X : Cx} {d e er er' : Nat} {κ0 κ κ1 κ' : Km} {σ0 σ σ1 σ' : Rm} {b V al S T T' sp z LT HT LT' HT' F0 F0' v v' p p' n x x' q s g k : Nat} {st : Nat → Nat} {fr : Nat → List Frm} {pt : Nat → Nat} {fs r r' : List Frm} {ch : List Nat} {w : Nat → Nat} {f f' f1 : Frm} {y u : Int32} {C : Km → Prop} {D : Rm → Prop}
/-- both go on with the failure -/
theorem rx_step (allx : AllX X d e κ0 σ0 b (pot V S st fr)) (hx : x + pot V S st fr ≤ 199000000) (rf : ∃ σ1, D σ1 ∧ ∀ G, RaG X er' v' g p' σ1 G → RaG X er v g p σ G)
    (cl : ∀ Q : Res → Km → Prop, (∀ κ', C κ' → K X d MX6_run 2 [(0, vR 79), (1, vI (nI (x + 1)))] [] κ' Q) → K X d MX6_run 2 [(0, vR 79), (1, vI (nI x))] [] κ Q)
    (rx : ∀ κ' σ', C κ' → D σ' → ∃ V' al' S' LT' HT' sp' F0' st' fr' pt' ch' w' f' r', Rx κ0 σ0 κ' σ' b V' al' S' LT' HT' sp' F0' st' fr' pt' ch' w' v' f' r' g ∧ pt' v' = p' ∧ pot V' S' st' fr' < pot V S st fr ∧ HT' + 2 * pot V' S' st' fr' ≤ HT + 2 * pot V S st fr ∧ 5 * ch'.length ≤ er') : RunX X d e er κ0 σ0 κ σ b x (HT + 2 * pot V S st fr) v g p := by
  intro Q hQ
  obtain ⟨σ1, hD, adv⟩ := rf
  refine cl Q (fun κ' hC => ?_)
  obtain ⟨V', al', S', LT', HT', sp', F0', st', fr', pt', ch', w', f', r', h', rfl, hp, hb, hl⟩ := rx κ' σ1 hC hD
  exact allx _ _ _ _ _ _ _ _ _ _ _ _ _ _ _ _ _ _ _ _ h' hp (by omega) hl Q (fun κ2 σ2 V2 al2 S2 LT2 HT2 sp2 F2 z2 st2 fr2 pt2 w2 dk e15 hb2 adv' => hQ κ2 σ2 V2 al2 S2 LT2 HT2 sp2 F2 z2 st2 fr2 pt2 w2 dk e15 (by omega) (fun Q' hq => adv _ (adv' Q' hq)))
/-- the failure is caught, or a finally begins: both run on -/
theorem rx_done (all : AllOK X d e κ0 σ0 b (pot V S st fr)) (hx : x + pot V S st fr ≤ 199000000) (hk : 1 ≤ k) (rf : ∃ σ1, D σ1 ∧ ∀ G : Rm → Prop, G σ1 → RaG X er v g p σ G)
    (cl : ∀ Q : Res → Km → Prop, (∀ κ', C κ' → K X d MX6_run 2 [(0, vR 79), (1, vI (nI (x + k)))] [] κ' Q) → K X d MX6_run 2 [(0, vR 79), (1, vI (nI x))] [] κ Q)
    (rn : ∀ κ' σ', C κ' → D σ' → ∃ V' al' S' LT' HT' sp' F0' st' fr' pt' ch' w' v' f' r', Rn κ0 σ0 κ' σ' b V' al' S' LT' HT' sp' F0' st' fr' pt' ch' w' v' f' r' ∧ pot V' S' st' fr' + k ≤ pot V S st fr ∧ HT' + 2 * pot V' S' st' fr' ≤ HT + 2 * pot V S st fr) : RunX X d e er κ0 σ0 κ σ b x (HT + 2 * pot V S st fr) v g p := by
  intro Q hQ
  obtain ⟨σ1, hD, adv⟩ := rf
  refine cl Q (fun κ' hC => ?_)
  obtain ⟨V', al', S', LT', HT', sp', F0', st', fr', pt', ch', w', v', f', r', h', hp, hb⟩ := rn κ' σ1 hC hD
  exact all _ _ _ _ _ _ _ _ _ _ _ _ _ _ _ _ _ _ h' (by omega) (by omega) Q (fun κ2 σ2 V2 al2 S2 LT2 HT2 sp2 F2 z2 st2 fr2 pt2 w2 dk e15 hb2 adv' => hQ κ2 σ2 V2 al2 S2 LT2 HT2 sp2 F2 z2 st2 fr2 pt2 w2 dk e15 (by omega) (fun Q' hq => adv _ (adv' Q' hq)))
/-- the class's act while a failure is raised -/
theorem Rx.run (h : Rx κ0 σ0 κ σ b V al S LT HT sp F0 st fr pt ch w v f r g) (hx : x < 200000000) (hd : 1 ≤ d) (wc : ∃ eu, eu + 1 ≤ d ∧ KC' X eu MX6_unwind [vR 79, vR (1002 + 8 * v)] κ (kRV C)) : ∀ Q : Res → Km → Prop, (∀ κ', C κ' → K X d MX6_run 2 [(0, vR 79), (1, vI (nI (x + 1)))] [] κ' Q) → K X d MX6_run 2 [(0, vR 79), (1, vI (nI x))] [] κ Q := by
  intro Q hQ
  obtain ⟨a, -, -, ⟨b1, b2, b3, b4, b5, b6⟩, -⟩ := h
  obtain ⟨s1, s2, s3, s4, s5, s6, s7, s8, s9, s10, s11, s12, s13, s14, s15⟩ := a.2.1
  have hF := a.2.2.2.2.2.1.1.2.2
  obtain ⟨eu, he, hc⟩ := wc
  refine run_raise hd hx s1.1 s8 s9 s4.1 ⟨b1, b2⟩ s7.1 b5 (by omega) ⟨eu, he, hc.mono ?_⟩
  rintro r0 κ2 ⟨rfl, hC⟩
  exact ⟨rfl, hQ κ2 hC⟩
theorem Md.cg {s : Nat} (h : Md κ0 σ0 σ F0 b n s fs) (e : aI σ' 56 n = aI σ 56 n) (hF : F0 ≤ F0') : Md κ0 σ0 σ' F0' b n s fs := h.imp id (fun ⟨h1, m, h2, h3, h4, h5⟩ => ⟨h1, m, h2.up _ hF, h3, h4, by rw [e]; exact h5⟩)
theorem Rx.loc (h : Rx κ0 σ0 κ σ b V al S LT HT sp F0 st fr pt ch w v f r g) (ko : Vo v κ κ') (ro : Ro (pt v) σ σ') (vk : VK κ' v (f' :: r')) (vr : VRx σ' v (pt v) (f' :: r')) (fx : FrX κ0 σ0 F0 b f' ∧ ∀ h, h ∈ r' → frM h = 1 ∧ FrO κ0 σ0 F0 b h) (ha : arm (f' :: r') ≤ arm (f :: r)) (hw : fws (f' :: r') < fws (f :: r)) (hk : ∀ g, kps g (f' :: r') ≤ kps g (f :: r)) (h1 : ∀ f0 it, f0 ∈ f' :: r' → it ∈ frL f0 → it.1 ≠ 0 → it.2.2.2.1 = 1 → ∃ f2, f2 ∈ f :: r ∧ it ∈ frL f2) : Rx κ0 σ0 κ' σ' b V al S LT HT sp F0 st (un fr v (f' :: r')) pt ch w v f' r' g ∧ pot V S st (un fr v (f' :: r')) < pot V S st fr := by
  have hcl := h.cls
  obtain ⟨a, c, m, ⟨b1, b2, b3, b4, b5, b6⟩, fx0, acc, col⟩ := h
  have hac := acc.loc (fs := f' :: r') ⟨b1, b2⟩ (by rw [b4]; exact ha) (by rw [b4]; omega)
  have hp := hac.2
  rw [b4] at hp
  refine ⟨⟨a.loc ⟨b1, b2⟩ (Or.inr rfl) ko ro vk (Or.inr ⟨rfl, vr⟩) hcl.2.2.1 (by rw [b4]; exact List.cons_ne_nil _ _) (List.cons_ne_nil _ _), c.cg (ro.s (by decide)) (ro.s (by decide)) (ro.s (by decide)), fun n n1 n2 hn => ?_, ⟨b1, b2, b3, un_eq, by rw [(ko.h (h := 79) (by omega) (by omega)).1]; exact b5, b6⟩, fx, hac.1, ?_⟩, by omega⟩
  · rw [un_ne hn]
    exact (m n n1 n2 hn).cg (by rw [ro.s (by decide)]) (Nat.le_refl _)
  · refine col.sub (ko.h (h := 84) (by omega) (by omega)).1 (fun h h1 h2 => ⟨(ko.h (h := h) (by omega) (by omega)).1, (ko.h (h := h) (by omega) (by omega)).2.2⟩) (fun k k1 k2 => ro.s (by omega)) (fun y _ => ?_) (fun n f0 it n1 n2 hf hi i1 i2 => ?_)
    · have e := kps_un (g := y) (fr := fr) (fs := f' :: r') ⟨b1, b2⟩
      rw [b4] at e
      have := hk y
      omega
    · by_cases cn' : n = v
      · rw [cn', un_eq] at hf
        obtain ⟨f2, g1, g2⟩ := h1 f0 it hf hi i1 i2
        exact ⟨v, f2, b1, b2, by rw [b4]; exact g1, g2⟩
      · rw [un_ne cn'] at hf
        exact ⟨n, f0, n1, n2, hf, hi⟩
/-- what is left of the items -/
theorem FrX.cut {bd i j nv s md i' j' s' md' t h0 ph : Nat} {pl pl' : Int32} {vs vs' : Nat → Int32} {L0 Es : List Ite} {O O' : List Int32} (h : FrX κ0 σ0 F0 b (bd, i, j, pl, nv, vs, L0 ++ (1, t, h0, ph, u) :: Es, O, s, md)) (hs : s' ≤ 1) (hi' : i' ≤ 9500) : FrX κ0 σ0 F0 b (bd, i', j', pl', nv, vs', L0, O', s', md') := by
  obtain ⟨h1, h2, h3, h4, ⟨h5, -⟩, h6⟩ := h
  have h5 : (L0 ++ (1, t, h0, ph, u) :: Es).length ≤ 24 := h5
  rw [List.length_append] at h5
  refine ⟨h1, h2, hs, fun x hx => h4 x (List.mem_append_left _ hx), ⟨by show L0.length ≤ 24; omega, hi'⟩, fun L1 t1 h1' ph1 r1 e => ?_⟩
  refine h6 L1 t1 h1' ph1 (r1 ++ ((1, t, h0, ph, u) :: Es).map itm) ?_
  show (L0 ++ (1, t, h0, ph, u) :: Es).map itm = _
  rw [List.map_append]
  have e : L0.map itm = L1 ++ (1, t1, h1', ph1) :: r1 := e
  rw [e, List.append_assoc]
  rfl
/-- the innermost guard, by the text -/
theorem FrX.hd {bd i j nv s md t h0 ph : Nat} {pl : Int32} {vs : Nat → Int32} {L0 Es : List Ite} {O : List Int32} (h : FrX κ0 σ0 F0 b (bd, i, j, pl, nv, vs, L0 ++ (1, t, h0, ph, u) :: Es, O, s, md)) : t < 1000 ∧ ph ≤ 4 ∧ (ph = 3 ∨ ph = 1 → ∃ f, f < F0 ∧ u = nI (f + 1)) ∧ (ph < 2 → Hd κ0 σ0 (Good2 κ0 σ0 (fun _ => False)) bd (L0.map itm) t h0) := by
  obtain ⟨h1, h2, h3, h4, h5, h6⟩ := h
  have hi := h4 (1, t, h0, ph, u) (List.mem_append_right _ (List.mem_cons_self ..))
  have h6 := h6 (L0.map itm) t h0 (min ph 2) (Es.map itm) (by
    show (L0 ++ (1, t, h0, ph, u) :: Es).map itm = _
    rw [List.map_append]
    rfl)
  rcases hi with z | ⟨z1, z2, z3⟩
  · exact absurd z (show ¬ (1 : Nat) = 0 by decide)
  · have z2 : ph ≤ 4 := z2
    exact ⟨h6.1, z2, fun c => z3 (c.symm), fun c => h6.2.2 (by omega)⟩
theorem gws_cons {x : Ite} {r : List Ite} : gws (x :: r) = gwt x + gws r := rfl
end RXSTEP
