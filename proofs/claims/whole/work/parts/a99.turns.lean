/-! the turn goes to another, who is waited for -/
section TURNS
variable {X : Cx} {d e er : Nat} {κ0 κ κa κb κc κ1 κ' : Km} {σ0 σ σa σc σr σ1 σ' : Rm} {b V al S T sp z LT HT F0 v p n x q g k s1 sc kn nw a0 j2 mm : Nat} {st : Nat → Nat} {fr fr' : Nat → List Frm} {pt : Nat → Nat} {fs fs0 r rr : List Frm} {ch cr : List Nat} {w rz : Nat → Nat} {y u arg fm0 : Int32} {f f1 f' : Frm}
theorem GvC.frm (h : GvC κ κ' HT n sp s1 fm0 fs) {g : Nat} (h1 : g ≠ 79) (h2 : g ≠ 82) (h3 : g ≠ 83) (h4 : g < 1000 ∨ (g % 8 = 2 ∧ g ≠ 1002 + 8 * n)) : kI κ' g = kI κ g ∧ (g < 1000 → kW κ' g = kW κ g) := by
  obtain ⟨κ1, κ3, hd, hc, vk, rfl⟩ := h
  obtain ⟨y1, y2, y3⟩ := hd.1.1.1 g (by omega)
  have e : kI (cI κ3 (1002 + 8 * n) 1 2) g = kI κ3 g := kI_ne (by omega)
  rw [e]
  show kI κ3 g = kI κ g ∧ (g < 1000 → kW κ3 g = kW κ g)
  rcases hc with ⟨-, vo⟩ | ⟨-, bf⟩
  · obtain ⟨z1, z2, z3⟩ := vo.h (h := g) (by omega) (by omega)
    exact ⟨by rw [z1, kI_ne h1, y1], fun _ => by rw [z3]; exact y3⟩
  · obtain ⟨z1, z2, z3⟩ := bf.1 g h1 (by omega) (by omega) (by omega)
    exact ⟨by rw [z1, kI_ne h1, y1], fun _ => by rw [z3]; exact y3⟩
theorem GvC.k14 (h : GvC κ κ' HT n sp s1 fm0 fs) : kI κ' 79 14 = kI κ 79 14 := by
  obtain ⟨κ1, κ3, hd, hc, vk, rfl⟩ := h
  obtain ⟨y1, y2, y3⟩ := hd.1.1.1 79 (by omega)
  rw [kI_ne (by omega)]
  rcases hc with ⟨-, vo⟩ | ⟨-, bf⟩
  · rw [(vo.h (h := 79) (by omega) (by omega)).1, kI_nk (by decide), y1]
  · rw [bf.2.1 14 (by decide), kI_nk (by decide), y1]
theorem GvR.eqv (h : GvR σ σ' HT n p s1 fm0 fs) {k : Nat} (h1 : k ≠ 49 ∧ k ≠ 58 ∧ k ≠ 59 ∧ k ≠ 77 ∧ k ≠ 83 ∧ k ≠ 84 ∧ k ≠ 85) (h2 : k < 60 ∨ 74 < k) : aI σ' k = aI σ k := by
  obtain ⟨σ1, hd, hc, vr⟩ := h
  have e1 := (hd.1 k (by omega)).1
  rcases hc with ⟨-, ro⟩ | ⟨-, ro⟩
  · rw [ro.s h2, aI_ne (by omega), aI_ne (by omega), e1]
  · rw [ro.s h2, aI_ne (by omega), aI_ne (by omega), aI_ne (by omega), aI_ne (by omega), e1]
theorem Rn.turnTo (h : Rn κ0 σ0 κ σ b V al S LT HT sp F0 st fr pt (v :: cr) w v f r) (hn : 1 ≤ n ∧ n ≤ V) (hs : st n ≤ 1) (ko : Vo v κ κa) (ro : Ro (pt v) σ σa) (vk : VK κa v (f1 :: r)) (vr : VR σa v (pt v) (f1 :: r)) (hm1 : frM f1 = mm ∧ 1 ≤ mm) (fo : FrO κ0 σ0 F0 b f1) (hfs : frS f1 ≤ frS f) (hL : frL f1 = frL f) (hw : fwt f1 < fwt f) (gn : GvN κ0 σ0 F0 b (st n) (fr n) fs) (h1 : st n = 1 → p = pt n) (h0 : st n = 0 → (fr n = [] ∧ cn (hasF fr) V < 12) ∧ p < 12 ∧ aI σ 59 p = 0)
    (gk : GvC (cI (cI κa (1002 + 8 * v) 1 3) (1002 + 8 * n) 5 (nI v)) κ' HT n sp (st n) fm0 fs) (gr : GvR (wI (wI (wI σa 49 v 3) 56 v (nI mm)) 54 n (nI v)) σ' HT n p (st n) fm0 fs) :
    ∃ sp' st' fr' pt' f' r', Rn κ0 σ0 κ' σ' b V al S LT (HT + 1) sp' F0 st' fr' pt' (n :: v :: cr) w n f' r' ∧ pot V S st' fr' < pot V S st fr ∧ HT + 1 + 2 * pot V S st' fr' ≤ HT + 2 * pot V S st fr := by
  obtain ⟨a, c, m⟩ := h.bn (x := 0)
  obtain ⟨-, ⟨b1, b2, b3, b4, b5⟩, ⟨c1, c2, c3⟩, ⟨d1, d2, d3⟩, acc, col⟩ := h
  have hne : fr v ≠ [] := by rw [b4]; exact List.cons_ne_nil _ _
  have hnv : n ≠ v := fun z => by rw [z, b3] at hs; omega
  have a1 := a.loc (x' := 0) (fs := f1 :: r) ⟨b1, b2⟩ (Or.inl rfl) ko ro vk (Or.inl vr) c3 hne (List.cons_ne_nil _ _)
  have a2 := ((a1.sst (n := v) (s := 3) (by omega) (by rw [b3]; omega)).rx (k := 56) (i := v) (y := nI mm) (Or.inl rfl)).res (n := n) (y := nI v) (Or.inr ⟨v, b2, rfl⟩)
  have esn : un st v 3 n = st n := un_ne hnv
  have efn : un fr v (f1 :: r) n = fr n := un_ne hnv
  have hhf : cn (hasF (un fr v (f1 :: r))) V = cn (hasF fr) V := cn_cg V (fun m m1 m2 => by
    by_cases cm : m = v
    · rw [cm, hasF_one (by rw [un_eq]; exact List.cons_ne_nil _ _), hasF_one hne]
    · unfold hasF; rw [un_ne cm])
  have hV60 : V ≤ 60 := a.2.1.2.2.2.2.2.2.2.1
  have e59 : ∀ q, aI (wI (wI (wI σa 49 v (nI 3)) 56 v (nI mm)) 54 n (nI v)) 59 q = aI σ 59 q := fun q => by rw [aI_ne (by decide), aI_ne (by decide), aI_ne (by decide), ro.s (by decide)]
  obtain ⟨f', r', rfl, ⟨m0, fo', hr'⟩, vA1, vW1, hkp, hit⟩ := gn
  have hfn1 : st n = 1 → fr n ≠ [] := fun z y => by
    rcases m n hn.1 hn.2 hnv with ⟨q1, -⟩ | ⟨-, mm', q2, -⟩
    · omega
    · exact q2.ne y
  obtain ⟨sp', a3⟩ := a2.give (κ' := κ') (σ' := σ') (n := n) (p := p) (fm0 := fm0) (fs := f' :: r') hn (by rw [esn]; exact hs) (by rw [esn]; exact gk) (by rw [esn]; exact gr) (fun z => by rw [esn] at z; rw [efn]; exact ⟨h1 z, hfn1 z⟩) (fun z => by
    rw [esn] at z
    rw [efn, hhf, e59]
    exact h0 z) (List.cons_ne_nil _ _)
  -- what stays in the reference
  have es : ∀ k, k ≠ 49 → k ≠ 54 → k ≠ 56 → k ≠ 58 → k ≠ 59 → k ≠ 77 → k ≠ 83 → k ≠ 84 → k ≠ 85 → (k < 60 ∨ 74 < k) → aI σ' k = aI σ k := fun k k1 k2 k3 k4 k5 k6 k7 k8 k9 k10 => by rw [gr.eqv ⟨k1, k4, k5, k6, k7, k8, k9⟩ k10, aI_ne k2, aI_ne k3, aI_ne k1, ro.s k10]
  have e54 : aI σ' 54 = aI (wI (wI (wI σa 49 v 3) 56 v (nI mm)) 54 n (nI v)) 54 := gr.eqv (by decide) (by decide)
  have e54n : ∀ x, x ≠ n → aI σ' 54 x = aI σ 54 x := fun x hx => by rw [e54, aI_ni hx, aI_ne (by decide), aI_ne (by decide), ro.s (by decide)]
  have e54a : aI σ' 54 n = nI v := by rw [e54, aI_eq]
  have e56 : aI σ' 56 = aI (wI (wI (wI σa 49 v 3) 56 v (nI mm)) 54 n (nI v)) 56 := gr.eqv (by decide) (by decide)
  have e56n : ∀ x, x ≠ v → aI σ' 56 x = aI σ 56 x := fun x hx => by rw [e56, aI_ne (by decide), aI_ni hx, aI_ne (by decide), ro.s (by decide)]
  have e56v : aI σ' 56 v = nI mm := by rw [e56, aI_ne (by decide), aI_eq]
  have e57 : aI σ' 57 = aI σ 57 := es 57 (by decide) (by decide) (by decide) (by decide) (by decide) (by decide) (by decide) (by decide) (by decide) (by decide)
  have h57 : aI σ 57 n ≠ 1 := fun z => by
    have := c.2.2.2.2.2.2 n hn.1 hn.2 z
    omega
  have cc := c.push (σ' := σ') hV60 hn (by omega) e54n e54a e56n (fun x _ => by rw [e57]) (fun z => absurd (by rw [← e57]; exact z) h57)
  -- counts
  have ea1 := arm_un2 (V := V) (st := st) (fr := fr) (n := v) (s := 3) (fs := f1 :: r) ⟨b1, b2⟩
  have ep1 := pot_un2 (V := V) (S := S) (st := st) (fr := fr) (n := v) (s := 3) (fs := f1 :: r) ⟨b1, b2⟩
  have ea2 := arm_un2 (V := V) (st := un st v 3) (fr := un fr v (f1 :: r)) (n := n) (s := 2) (fs := f' :: r') hn
  have ep2 := pot_un2 (V := V) (S := S) (st := un st v 3) (fr := un fr v (f1 :: r)) (n := n) (s := 2) (fs := f' :: r') hn
  rw [b4, vA_pos (by omega), vA_pos (by omega), arm_cons, arm_cons] at ea1
  rw [b4, vW_pos (by omega), vW_pos (by omega), fws_cons, fws_cons] at ep1
  rw [esn, efn] at ea2 ep2
  obtain ⟨ac1, ac2, ac3⟩ := acc
  -- what stays in the class
  have ek : ∀ g, 84 ≤ g → g ≤ 91 → kI κ' g = kI κ g ∧ kW κ' g = kW κ g := fun g g1 g2 => by
    obtain ⟨y1, y2⟩ := gk.frm (g := g) (by omega) (by omega) (by omega) (by omega)
    obtain ⟨z1, z2, z3⟩ := ko.h (h := g) (by omega) (by omega)
    exact ⟨by rw [y1, kI_ne (by omega), kI_ne (by omega), z1], by rw [y2 (by omega)]; exact z3⟩
  refine ⟨sp', _, _, _, f', r', Rn.of a3 cc (fun m' q1 q2 q3 => ?_) ⟨hn.1, hn.2, un_eq, un_eq, ?_⟩ ⟨m0, fo', hr'⟩ ⟨by omega, by omega, by omega⟩ ?_, by omega, by omega⟩
  · rw [un_ne q3, un_ne q3]
    by_cases cv : m' = v
    · rw [cv, un_eq, un_eq]
      exact Or.inr ⟨by omega, mm, ⟨hm1.1, fo, d3⟩, fun z => by omega, fun z => by omega, fun _ => ⟨e56v, hm1.2⟩⟩
    · rw [un_ne cv, un_ne cv]
      exact (m m' q1 q2 cv).cg (e56n m' cv) (Nat.le_refl _)
  · rw [gk.k14, kI_ne (by omega), kI_ne (by omega), (ko.h (h := 79) (by omega) (by omega)).1]
    exact b5
  · refine col.sub (ek 84 (by omega) (by omega)).1 (fun h h1 h2 => ek h (by omega) (by omega)) (fun k k1 k2 => es k (by omega) (by omega) (by omega) (by omega) (by omega) (by omega) (by omega) (by omega) (by omega) (by omega)) (fun y _ => ?_) (fun m' f0 it q1 q2 hf hi i1 i2 => ?_)
    · have e1 := kps_un (g := y) (fr := fr) (fs := f1 :: r) (V := V) (v := v) ⟨b1, b2⟩
      have e2 := kps_un (g := y) (fr := un fr v (f1 :: r)) (fs := f' :: r') (V := V) (v := n) hn
      rw [b4, kps_cons, kps_cons, hL] at e1
      rw [efn, hkp y] at e2
      omega
    · by_cases cn' : m' = n
      · rw [cn', un_eq] at hf
        obtain ⟨f2, g1, g2⟩ := hit f0 it hf hi
        exact ⟨n, f2, hn.1, hn.2, g1, g2⟩
      · rw [un_ne cn'] at hf
        by_cases cv : m' = v
        · rw [cv, un_eq] at hf
          rcases List.mem_cons.mp hf with e | hf
          · rw [e, hL] at hi
            exact ⟨v, f, b1, b2, by rw [b4]; exact List.mem_cons_self .., hi⟩
          · exact ⟨v, f0, b1, b2, by rw [b4]; exact List.mem_cons_of_mem _ hf, hi⟩
        · rw [un_ne cv] at hf
          exact ⟨m', f0, q1, q2, hf, hi⟩
end TURNS
