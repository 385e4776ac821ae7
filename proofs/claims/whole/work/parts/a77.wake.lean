/-! one that waits goes on; the turn goes back -/
section WAKE
variable {X : Cx} {d e ec : Nat} {κ0 κ κa κb κ' : Km} {σ0 σ σa σ1 σ' : Rm} {b V al S T sp z LT HT F0 v p n x q s w k al1 sp1 how cl : Nat} {st st1 : Nat → Nat} {fr fr1 : Nat → List Frm} {pt : Nat → Nat} {fs r rr : List Frm} {ch cr : List Nat} {wc : Nat → Nat} {f f' f1 f1' : Frm} {y u en : Int32} {Cg : Km → Prop} {Dg : Rm → Prop}
theorem Rn.wake (hB : Bn κ0 σ0 κa σa b V al S w sp 0 LT HT F0 st fr pt 0) (hc : Chan σa V w st ch) (hm : ∀ n, 1 ≤ n → n ≤ V → n ≠ w → Md κ0 σ0 σa F0 b n (st n) (fr n)) (hw : 1 ≤ w ∧ w ≤ V ∧ st w = 2 ∧ fr w = f1 :: rr ∧ kI κa 79 14 = 0) (ko : Vo w κa κ') (ro : Ro (pt w) σa σ') (vk : VK κ' w (f1' :: rr)) (vr : VR σ' w (pt w) (f1' :: rr)) (fo : frM f1' = 0 ∧ FrO κ0 σ0 F0 b f1' ∧ ∀ h, h ∈ rr → frM h = 1 ∧ FrO κ0 σ0 F0 b h) (acc : Acc V S F0 LT HT st fr) (col : Col κa σa V F0 fr wc (fun _ => 0)) (ha : frS f1' ≤ frS f1) (hwt : fwt f1' ≤ fwt f1) (hk : ∀ g, g < F0 → kpl g (frL f1') ≤ kpl g (frL f1)) (h1 : ∀ it, it ∈ frL f1' → it.1 ≠ 0 → it.2.2.2.1 = 1 → it ∈ frL f1) :
    Rn κ0 σ0 κ' σ' b V al S LT HT sp F0 st (un fr w (f1' :: rr)) pt ch wc w f1' rr ∧ pot V S st (un fr w (f1' :: rr)) + fwt f1 = pot V S st fr + fwt f1' := by
  obtain ⟨w1, w2, w3, w4, w5⟩ := hw
  have h59 : aI σa 59 (pt w) = 1 := by
    have hcl := hB.2.2.2.2.2.2 w w1 w2
    rw [w4] at hcl
    rcases hcl with ⟨z, -⟩ | ⟨-, -, -, z⟩
    · exact absurd z (List.cons_ne_nil _ _)
    · exact z
  have hne : fr w ≠ [] := by rw [w4]; exact List.cons_ne_nil _ _
  have hac := acc.loc (fs := f1' :: rr) ⟨w1, w2⟩ (by rw [w4, arm_cons, arm_cons]; omega) (by rw [w4, fws_cons, fws_cons]; omega)
  have hp := hac.2
  rw [w4, fws_cons, fws_cons] at hp
  refine ⟨Rn.of (hB.loc ⟨w1, w2⟩ (Or.inl rfl) ko ro vk (Or.inl vr) h59 hne (List.cons_ne_nil _ _)) (hc.cg (ro.s (by decide)) (ro.s (by decide)) (ro.s (by decide))) (fun n n1 n2 hn => ?_) ⟨w1, w2, w3, un_eq, by rw [(ko.h (h := 79) (by omega) (by omega)).1]; exact w5⟩ fo hac.1 ?_, by omega⟩
  · rw [un_ne hn]
    exact (hm n n1 n2 hn).cg (congrFun (ro.s (by decide)) n) (Nat.le_refl _)
  · refine col.sub (ko.h (h := 84) (by omega) (by omega)).1 (fun h h1 h2 => ⟨(ko.h (h := h) (by omega) (by omega)).1, (ko.h (h := h) (by omega) (by omega)).2.2⟩) (fun k k1 k2 => ro.s (by omega)) (fun y hy => ?_) (fun n f0 it n1 n2 hf hi i1 i2 => ?_)
    · have e := kps_un (g := y) (fr := fr) (fs := f1' :: rr) (V := V) (v := w) ⟨w1, w2⟩
      rw [w4, kps_cons, kps_cons] at e
      have := hk y hy
      omega
    · by_cases cw : n = w
      · rw [cw, un_eq] at hf
        rcases List.mem_cons.mp hf with e | hf
        · rw [e] at hi
          exact ⟨w, f1, w1, w2, by rw [w4]; exact List.mem_cons_self .., h1 it hi i1 i2⟩
        · exact ⟨w, f0, w1, w2, by rw [w4]; exact List.mem_cons_of_mem _ hf, hi⟩
      · rw [un_ne cw] at hf
        exact ⟨n, f0, n1, n2, hf, hi⟩
/-- what is told of both, as v hands the turn back: κa, σa stand ahead of the handing -/
def Bk (κ0 : Km) (σ0 : Rm) (κa : Km) (σa : Rm) (b V al S LT HT sp F0 : Nat) (st : Nat → Nat) (fr : Nat → List Frm) (pt : Nat → Nat) (cr : List Nat) (wc : Nat → Nat) (v cl : Nat) : Prop := Bn κ0 σ0 κa σa b V al S v sp 0 LT HT F0 st fr pt 0 ∧ (1 ≤ v ∧ v ≤ V ∧ kI κa 79 14 = 0 ∧ kI κa (1002 + 8 * v) 11 = nI cl ∧ cl ≤ 1) ∧ (aI σa 54 v = nI (cr.headD 0) ∧ cr.headD 0 ≤ V ∧ (cr ≠ [] → 1 ≤ cr.headD 0 ∧ cr.headD 0 ≠ v ∧ st (cr.headD 0) = 3)) ∧ Chan σa V (cr.headD 0) (if cr = [] then st else un st (cr.headD 0) 2) cr ∧ (∀ n, 1 ≤ n → n ≤ V → Md κ0 σ0 σa F0 b n (st n) (fr n)) ∧ Acc V S F0 LT (HT + 1) st fr ∧ Col κa σa V F0 fr wc (fun _ => 0)
/-- the turn goes back to the desk -/
theorem rn_back0 {kk : Nat} (hkk : kk ≤ 100) (hx : x + pot V S st fr ≤ 199000000) (hd : 7 ≤ d) (hhow : how ≤ 1) (hen : en = nI how) (hcl : cl ≤ 1) (hB0 : HT < 2000000000)
    (clg : ∀ Q : Res → Km → Prop, (∀ κg, Cg κg → KC' X 5 MX6_goBack [vR 79, vR (1002 + 8 * v), vI y, vI (nI how)] κg (kRV fun κ' => K X d MX6_run 2 [(0, vR 79), (1, vI (nI (x + kk)))] [] κ' Q)) → K X d MX6_run 2 [(0, vR 79), (1, vI (nI x))] [] κ Q)
    (rfg : ∀ P : Rm → Prop, (∀ σg σ2, Dg σg → HdR σg σ2 HT (nI v) (nI 0) → AC X 92 ec MX13_comes [vR 92, vI (nI 0), vI y, vI en, vI (nI cl)] σ2 (aRV P)) → ∃ σ1, P σ1 ∧ ∀ Q' : Res → Rm → Prop, A X 92 (e + 1) MX13_goes 0 [(0, vR 92)] [] σ1 Q' → A X 92 (e + 1) MX13_goes 0 [(0, vR 92)] [] σ Q')
    (jn : ∀ κg σg, Cg κg → Dg σg → ∃ al1 sp1 st1 fr1 wc1, Bk κ0 σ0 κg σg b V al1 S LT HT sp1 F0 st1 fr1 pt [] wc1 v cl ∧ HT + 1 + 2 * pot V S st1 fr1 ≤ HT + 2 * pot V S st fr) : RunOK X d (e + 1) κ0 σ0 κ σ b x (HT + 2 * pot V S st fr) := by
  intro Q hQ
  obtain ⟨σ1, ⟨σg, σ2, hDg, hR, rfl⟩, adv⟩ := rfg (fun σ' => ∃ σg σ2, Dg σg ∧ HdR σg σ2 HT (nI v) (nI 0) ∧ σ' = wS (wS (wS σ2 77 0) 78 (nI how)) 79 (if cl = 0 then y else sI σ2 79)) (fun σg σ2 hDg hR => by
    refine ac_comes0 ⟨σg, σ2, hDg, hR, ?_⟩
    have e1 : (if en = 0 then (0 : Int32) else 1) = nI how := by
      have hc : how = 0 ∨ how = 1 := by omega
      rcases hc with z | z
      · rw [hen, z]; rfl
      · rw [hen, z]; rfl
    rw [e1]
    by_cases c : cl = 0
    · rw [if_pos c, if_pos (by rw [c]; rfl)]
    · rw [if_neg c, if_neg (nI_ne0 (by omega) (by omega))])
  refine clg Q (fun κg hCg => ?_)
  obtain ⟨al1, sp1, st1, fr1, wc1, ⟨hB, ⟨v1, v2, v3, v4, v5⟩, ⟨r1, -, -⟩, hch, hmd, hac, hcol⟩, hpt⟩ := jn κg σg hCg hDg
  obtain ⟨s1, s2, s3, s4, s5, s6, s7, s8, s9, s10, s11, s12, s13, s14, s15⟩ := hB.2.1
  obtain ⟨gg, p1, p2⟩ := hB.hp
  have vof := hB.2.2.1 v v1 v2
  refine kc_goBack0 (V := V) (cl := cl) (isH_voice v1 (by omega)) vof.1 (vof.2.2.2.2.2.1.1.trans r1) p1 hB0 s1.1 s8 s9 v4 v5 (by omega) (fun κ1 hK => ?_)
  have hBh := (hB.hand hK hR).turn (T' := 0) (Nat.zero_le _)
  have hB2 := ((hBh.kx (g := 79) (k := 15) (y := nI how) (Or.inl ⟨rfl, Or.inr rfl⟩)).rx (k := 78) (i := 0) (y := nI how) (Or.inr (Or.inl rfl))).giv (y := if cl = 0 then y else kI κg 79 16)
  have e79 : (if cl = 0 then y else sI σ2 79) = if cl = 0 then y else kI κg 79 16 := by
    rw [s5, show sI σ2 79 = sI σg 79 from congrFun (hR.1 79 (by decide)).1 0]
  have es : ∀ k, k ≠ 77 → k ≠ 78 → k ≠ 79 → k ≠ 83 → k ≠ 84 → k ≠ 85 → aI (wS (wS (wS σ2 77 0) 78 (nI how)) 79 (if cl = 0 then y else kI κg 79 16)) k = aI σg k := fun k k1 k2 k3 k4 k5 k6 => by rw [aI_ne k3, aI_ne k2, aI_ne k1, (hR.1 k (by omega)).1]
  have ek : ∀ h, h ≠ 79 → h ≠ 82 → h ≠ 83 → kI (cI (cI (cI κ1 79 13 0) 79 15 (nI how)) 79 16 (if cl = 0 then y else kI κg 79 16)) h = kI κg h ∧ kW (cI (cI (cI κ1 79 13 0) 79 15 (nI how)) 79 16 (if cl = 0 then y else kI κg 79 16)) h = kW κg h := fun h h1 h2 h3 => by
    obtain ⟨z1, z2, z3⟩ := hK.1.1.1 h (by omega)
    exact ⟨by rw [kI_ne h1, kI_ne h1, kI_ne h1, z1], z3⟩
  rw [if_pos rfl] at hch
  have hch : Chan σg V 0 st1 [] := hch
  refine run_desk (by rw [kI_nk (by decide), kI_nk (by decide), kI_eq]) (by omega) (hQ _ _ V al1 S LT (HT + 1) sp1 F0 0 st1 fr1 pt wc1 (Desk.of hB2 (hch.cg (es 54 (by decide) (by decide) (by decide) (by decide) (by decide) (by decide)) (es 56 (by decide) (by decide) (by decide) (by decide) (by decide) (by decide)) (es 57 (by decide) (by decide) (by decide) (by decide) (by decide) (by decide))) (fun n n1 n2 => (hmd n n1 n2).cg (congrFun (es 56 (by decide) (by decide) (by decide) (by decide) (by decide) (by decide)) n) (Nat.le_refl _)) ?_ hac (hcol.cg (ek 84 (by decide) (by decide) (by decide)).1 (fun h h1 h2 => ek h (by omega) (by omega) (by omega)) (fun k k1 k2 => es k (by omega) (by omega) (by omega) (by omega) (by omega) (by omega)))) ?_ (by omega) (fun Q' hq => adv Q' (by rw [e79]; exact hq)))
  · rw [kI_nk (by decide), kI_nk (by decide), kI_nk (by decide), (hK.1.1.1 79 (by decide)).1]
    exact v3
  · rw [kI_nk (by decide), kI_eq, sI_ne (by decide), sI_eq]
end WAKE
