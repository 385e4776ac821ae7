/-! the turn goes back, to whomever -/
section BACKALL
variable {X : Cx} {d e ec : Nat} {κ0 κ κa κb κ' : Km} {σ0 σ σa σ1 σ' : Rm} {b V al S T sp z LT HT F0 v p n x q s k how cl : Nat} {st st1 : Nat → Nat} {fr fr1 : Nat → List Frm} {pt : Nat → Nat} {fs r rr : List Frm} {ch cr : List Nat} {w wc : Nat → Nat} {f f' f1 f1' : Frm} {y u : Int32} {Cg : Km → Prop} {Dg : Rm → Prop}
theorem rn_back (h : Rn κ0 σ0 κ σ b V al S LT HT sp F0 st fr pt (v :: cr) w v f r) (all : AllOK X d (e + 1) κ0 σ0 b (pot V S st fr)) {kk : Nat} (hkk : 1 ≤ kk ∧ kk ≤ 100) (hx : x + pot V S st fr ≤ 199000000) (hd : 7 ≤ d) (hec : 1 ≤ ec) (hhow : how ≤ 1) (hcl : cl ≤ 1)
    (clg : ∀ Q : Res → Km → Prop, (∀ κg, Cg κg → KC' X 5 MX6_goBack [vR 79, vR (1002 + 8 * v), vI y, vI (nI how)] κg (kRV fun κ' => K X d MX6_run 2 [(0, vR 79), (1, vI (nI (x + kk)))] [] κ' Q)) → K X d MX6_run 2 [(0, vR 79), (1, vI (nI x))] [] κ Q)
    (rfg : ∀ P : Rm → Prop, (∀ σg σ2, Dg σg → HdR σg σ2 HT (nI v) (nI (cr.headD 0)) → AC X 92 ec MX13_comes [vR 92, vI (nI (cr.headD 0)), vI y, vI (nI how), vI (nI cl)] σ2 (aRV P)) → ∃ σ1, P σ1 ∧ ∀ Q' : Res → Rm → Prop, A X 92 (e + 1) MX13_goes 0 [(0, vR 92)] [] σ1 Q' → A X 92 (e + 1) MX13_goes 0 [(0, vR 92)] [] σ Q')
    (dg : ∀ σg, Dg σg → (∀ n, n ≠ v → 1 ≤ n → n ≤ V → VR σ n (pt n) (fr n) → VR σg n (pt n) (fr n)) ∧ aI σg 56 = aI σ 56 ∧ ∀ k, 1 ≤ k → k ≤ 46 → aI σg k = aI σ0 k)
    (jn : ∀ κg σg, Cg κg → Dg σg → ∃ al1 sp1 st1 fr1 wc1, Bk κ0 σ0 κg σg b V al1 S LT HT sp1 F0 st1 fr1 pt cr wc1 v cl ∧ (∀ n, n ≠ v → fr1 n = fr n) ∧ pot V S st1 fr1 + kk ≤ pot V S st fr) : RunOK X d (e + 1) κ0 σ0 κ σ b x (HT + 2 * pot V S st fr) := by
  obtain ⟨-, -, -, -, -, -, c12, -, c14⟩ := h.cls
  obtain ⟨-, -, -, sta⟩ := h.f88
  obtain ⟨a, c, m⟩ := h.bn (x := 0)
  have hV60 := a.2.1.2.2.2.2.2.2.2.1
  have hac := h.2.2.2.2.1
  have hB0 : HT < 2000000000 := by have := hac.2.2; omega
  cases cr with
  | nil =>
    refine rn_back0 (pt := pt) (F0 := F0) (LT := LT) (how := how) (cl := cl) (y := y) hkk.2 hx hd hhow rfl hcl hB0 clg rfg (fun κg σg h1 h2 => ?_)
    obtain ⟨al1, sp1, st1, fr1, wc1, g1, g2, g3⟩ := jn κg σg h1 h2
    exact ⟨al1, sp1, st1, fr1, wc1, g1, by omega⟩
  | cons w0 cr =>
    have hres := c.res
    have er0 : (w0 :: cr).headD 0 = w0 := rfl
    rw [er0] at hres
    obtain ⟨-, -, hwV, hr3⟩ := hres
    obtain ⟨r3, rv, r1⟩ := hr3 (List.cons_ne_nil _ _)
    obtain ⟨f1, rr, mm, z1, z2, z3, z4, z5, z6, z7⟩ := (r3 ▸ m w0 r1 hwV rv).wait
    have hcw := a.2.2.2.2.2.2 w0 r1 hwV
    rw [z1] at hcw
    have vrw : VR σ w0 (pt w0) (fr w0) := by
      rw [z1]
      rcases hcw with ⟨z, -⟩ | ⟨-, -, z, -⟩
      · exact absurd z (List.cons_ne_nil _ _)
      · exact z.elim id (fun z => absurd z.1 (by omega))
    have dg' : ∀ σg, Dg σg → VR σg w0 (pt w0) (f1 :: rr) ∧ aI σg 56 w0 = nI mm ∧ (1 ≤ w0 ∧ w0 ≤ 60) ∧ ∀ k, 1 ≤ k → k ≤ 46 → aI σg k = aI σ0 k := fun σg hDg => by
      obtain ⟨d1, d2, d3⟩ := dg σg hDg
      have := d1 w0 rv r1 hwV vrw
      rw [z1] at this
      exact ⟨this, by rw [d2]; exact z3, ⟨r1, by omega⟩, d3⟩
    have jn' : ∀ κg σg, Cg κg → Dg σg → ∃ al1 sp1 st1 fr1 wc1 cl1, Bk κ0 σ0 κg σg b V al1 S LT HT sp1 F0 st1 fr1 pt (w0 :: cr) wc1 v cl1 ∧ fr1 w0 = f1 :: rr ∧ pot V S st1 fr1 + kk ≤ pot V S st fr := fun κg σg h1 h2 => by
      obtain ⟨al1, sp1, st1, fr1, wc1, g1, g2, g3⟩ := jn κg σg h1 h2
      exact ⟨al1, sp1, st1, fr1, wc1, cl, g1, by rw [g2 w0 rv]; exact z1, g3⟩
    obtain ⟨m9, c68, hm9, -⟩ := sta.2.1
    obtain ⟨b1, i1, j1, p1, n1, w1, L1, O1, s1', m1⟩ := f1
    have z2 : m1 = mm := z2
    subst z2
    rcases z6.2.2.2.2 with ⟨y1, _⟩ | ⟨y1, y2, ⟨i, y3, y4, y5⟩, y6⟩ | ⟨y1, y2, y3, i, j, L0, y0, vv, i2, j2, g1, g2, g3, g4, g5, g6, ⟨g7, g8, g9, g10⟩, g11, g12, g13, g14, g15⟩ | ⟨y1, y2, y3, ⟨i, y4, y5⟩, y6⟩
    · have y1 : m1 = 0 := y1
      omega
    · have y1 : m1 = 1 := y1
      have y2 : s1' = 1 := y2
      have y3 : i1 = i + 1 := y3
      subst y1 y2 y3
      exact rn_back1 (ec := ec) (s1' := 1) (m := m9) (w := w0) (cr := cr) (y := y) (how := nI how) (en := nI how) (cl := nI cl) y4 y5 all hkk hx hd hec hB0 z6 z7 sta ⟨c68, hm9⟩ clg rfg dg' jn'
    · have y1 : m1 = 2 := y1
      have y2 : s1' = 1 := y2
      have y3 : O1 = [] := y3
      have g1 : i1 = i + 1 := g1
      have g2 : j1 = j + 1 := g2
      have g3 : L1 = L0 ++ [(0, 0, 0, 0, y0)] := g3
      subst y1 y2 y3 g1 g2 g3
      have hc : how = 1 ∨ how = 0 := by omega
      rcases hc with hc | hc
      · exact rn_back2e (ec := ec) (s1' := 1) (m := m9) (O1 := []) (w := w0) (cr := cr) (y := y) (how := nI how) (en := nI how) (cl := nI cl) g4 g7 g8 g9 g10 g11 g12 g13 g14 g15 (by rw [hc]; rfl) (by rw [hc]; decide) all hkk hx hd hec hB0 z6 z7 sta ⟨c68, hm9⟩ clg rfg dg' jn'
      · exact rn_back2y (ec := ec) (s1' := 1) (m := m9) (O1 := []) (w := w0) (cr := cr) (y := y) (how := nI how) (en := nI how) (cl := nI cl) g4 g7 g8 g9 g10 g11 g12 g13 g14 g15 (by rw [hc]; decide) (by rw [hc]; rfl) all hkk hx hd hec hB0 z6 z7 sta ⟨c68, hm9⟩ clg rfg dg' jn'
    · have y1 : m1 = 3 := y1
      have y4 : i1 = i + 1 := y4
      subst y1 y4
      exact rn_back3 (ec := ec) (s1' := s1') (m := m9) (w := w0) (cr := cr) (y := y) (how := nI how) (en := nI how) (cl := nI cl) all hkk hx hd hec hB0 z6 z7 sta ⟨c68, hm9⟩ clg rfg dg' jn'
end BACKALL
