/-! COLOURS of failures: what is raised, kept, caught, put beneath -/
section COLOURS
variable {κ0 κ κ1 κ' : Km} {σ0 σ σ1 σ' : Rm} {b V F0 F0' v p n x q g lo m : Nat} {fr fr' : Nat → List Frm} {fs r : List Frm} {f f1 : Frm} {y u : Int32} {w rz rz' : Nat → Nat}
theorem kid_col {G G' : Nat → List (Nat × Nat × Nat) → List (Nat × Nat × Nat)} (hF : F0 ≤ 7900) (hG : ∀ c, c < F0 → w c = 0 → ∀ a, G' c a = G c a) (h96 : ∀ x, x < F0 → w x = 0 → aI σ' 96 x = aI σ 96 x ∧ (aI σ 96 x = -9 ∨ ∃ c, c < F0 ∧ w c = 0 ∧ aI σ 96 x = nI c)) : ∀ m c a, (c = -9 ∨ ∃ k, k < F0 ∧ w k = 0 ∧ c = nI k) → kid σ' G' m c a = kid σ G m c a := by
  intro m
  induction m with
  | zero => intro c a _; rfl
  | succ m ih =>
    intro c a hc
    show (if c < 0 ∨ 40 ≤ a.length then a else kid σ' G' m (aI σ' 96 c.toNatClampNeg) (G' c.toNatClampNeg a)) = if c < 0 ∨ 40 ≤ a.length then a else kid σ G m (aI σ 96 c.toNatClampNeg) (G c.toNatClampNeg a)
    rcases hc with rfl | ⟨k, k1, k2, rfl⟩
    · rw [if_pos (Or.inl (by decide)), if_pos (Or.inl (by decide))]
    · by_cases d : nI k < 0 ∨ 40 ≤ a.length
      · rw [if_pos d, if_pos d]
      · rw [if_neg d, if_neg d, cl_nI (by omega), hG k k1 k2, (h96 k k1 k2).1]
        exact ih _ _ (h96 k k1 k2).2
theorem vis_col (hF : F0 ≤ 7900) (hs : ∀ x, x < F0 → w x = 0 → ∀ k, (k = 93 ∨ k = 94 ∨ k = 96) → aI σ' k x = aI σ k x ∧ (aI σ k x = -9 ∨ ∃ c, c < F0 ∧ w c = 0 ∧ aI σ k x = nI c)) : ∀ m f, f < F0 → w f = 0 → ∀ dp hw a, vis σ' m f dp hw a = vis σ m f dp hw a := by
  intro m
  induction m with
  | zero => intro f _ _ dp hw a; rfl
  | succ m ih =>
    intro f f1 f2 dp hw a
    show (if 40 ≤ a.length then a else kid σ' (fun c a => vis σ' m c (dp + 1) 2 a) 40 (aI σ' 94 f) (if aI σ' 93 f < 0 then a ++ [(f, dp, hw)] else vis σ' m (aI σ' 93 f).toNatClampNeg (dp + 1) 1 (a ++ [(f, dp, hw)]))) = if 40 ≤ a.length then a else kid σ (fun c a => vis σ m c (dp + 1) 2 a) 40 (aI σ 94 f) (if aI σ 93 f < 0 then a ++ [(f, dp, hw)] else vis σ m (aI σ 93 f).toNatClampNeg (dp + 1) 1 (a ++ [(f, dp, hw)]))
    obtain ⟨e93, c93⟩ := hs f f1 f2 93 (by decide)
    obtain ⟨e94, c94⟩ := hs f f1 f2 94 (by decide)
    by_cases d : 40 ≤ a.length
    · rw [if_pos d, if_pos d]
    · rw [if_neg d, if_neg d, e93, e94]
      have e : (if aI σ 93 f < 0 then a ++ [(f, dp, hw)] else vis σ' m (aI σ 93 f).toNatClampNeg (dp + 1) 1 (a ++ [(f, dp, hw)])) = if aI σ 93 f < 0 then a ++ [(f, dp, hw)] else vis σ m (aI σ 93 f).toNatClampNeg (dp + 1) 1 (a ++ [(f, dp, hw)]) := by
        rcases c93 with z | ⟨c, z1, z2, z3⟩
        · rw [z, if_pos (by decide), if_pos (by decide)]
        · rw [z3, cl_nI (by omega), ih c z1 z2]
      rw [e]
      exact kid_col hF (fun c c1 c2 a => ih c c1 c2 _ _ _) (fun x x1 x2 => hs x x1 x2 96 (by decide)) _ _ _ c94
/-- edges of failures, as numbers -/
theorem FRl.edge (h : FRl κ σ F0) (hx : x < F0) {k : Nat} (hk : k = 93 ∨ k = 94 ∨ k = 95 ∨ k = 96) : aI σ k x = -9 ∨ ∃ c, c < F0 ∧ aI σ k x = nI c := by
  obtain ⟨-, -, ⟨g1, g2, g3, g4⟩, -⟩ := h.2.2 x hx
  rcases hk with rfl | rfl | rfl | rfl
  · exact g1
  · exact g2
  · exact g3
  · exact g4
/-- the listing, where only failures under way have other edges -/
theorem lsn_col (hc : Col κ σ V F0 fr w rz) (fl : FRl κ1 σ F0) (e97 : sI σ' 97 = sI σ 97) (he : ∀ x, x < F0 → w x = 0 → aI σ' 93 x = aI σ 93 x ∧ aI σ' 94 x = aI σ 94 x ∧ aI σ' 96 x = aI σ 96 x) : lsn σ' = lsn σ := by
  obtain ⟨c1, c2, c3, c4, c5⟩ := hc
  unfold lsn
  rw [e97]
  rcases c4 with ⟨z, -⟩ | ⟨l, l1, l2, l3, l4⟩
  · rw [z, if_pos (by decide), if_pos (by decide)]
  · have hF := fl.1.2.2
    rw [l2, cl_nI (by omega)]
    by_cases d : nI l < 0
    · rw [if_pos d, if_pos d]
    · rw [if_neg d, if_neg d]
      refine vis_col (w := w) hF (fun x x1 x2 k hk => ?_) 41 l l1 l4 _ _ _
      obtain ⟨a1, a2, a3, a4⟩ := c1 x x1
      obtain ⟨b1, b2, b3⟩ := he x x1 x2
      rcases hk with rfl | rfl | rfl
      · refine ⟨b1, (fl.edge x1 (Or.inl rfl)).imp id (fun ⟨c, h1, h2⟩ => ⟨c, h1, a1 c h1 h2, h2⟩)⟩
      · refine ⟨b2, (fl.edge x1 (Or.inr (Or.inl rfl))).imp id (fun ⟨c, h1, h2⟩ => ⟨c, h1, (a2 c h1 h2).trans x2, h2⟩)⟩
      · refine ⟨b3, (fl.edge x1 (Or.inr (Or.inr (Or.inr rfl)))).imp id (fun ⟨c, h1, h2⟩ => ⟨c, h1, (a4 c h1 h2).trans x2, h2⟩)⟩
/-- fewer guards keep failures -/
theorem Col.sub (h : Col κ σ V F0 fr w rz) (ek : kI κ' 84 = kI κ 84) (e86 : ∀ h, 86 ≤ h → h ≤ 88 → kI κ' h = kI κ h ∧ kW κ' h = kW κ h) (es : ∀ k, 88 ≤ k → k ≤ 97 → aI σ' k = aI σ k) (hk : ∀ g, g < F0 → cn (fun n => kps g (fr' n)) V + rz' g ≤ cn (fun n => kps g (fr n)) V + rz g) (h1 : ∀ n f x, 1 ≤ n → n ≤ V → f ∈ fr' n → x ∈ frL f → x.1 ≠ 0 → x.2.2.2.1 = 1 → ∃ m f0, 1 ≤ m ∧ m ≤ V ∧ f0 ∈ fr m ∧ x ∈ frL f0) : Col κ' σ' V F0 fr' w rz' := by
  obtain ⟨c1, c2, c3, c4, c5⟩ := h.cg ek e86 es
  refine ⟨c1, fun g hg => ?_, fun n f x n1 n2 hf hx x1 x2 g hg e => ?_, c4, c5⟩
  · obtain ⟨d1, d2⟩ := c2 g hg
    have := hk g hg
    exact ⟨by omega, fun z => d2 (by omega)⟩
  · obtain ⟨m, f0, a0, a1, a2, a3⟩ := h1 n f x n1 n2 hf hx x1 x2
    exact c3 m f0 x a0 a1 a2 a3 x1 x2 g hg e
/-- one voice's calls are others -/
theorem kps_un (hv : 1 ≤ v ∧ v ≤ V) : cn (fun n => kps g (un fr v fs n)) V + kps g (fr v) = cn (fun n => kps g (fr n)) V + kps g fs := by
  have e := cn_up (g := fun n => kps g (fr n)) (g' := fun n => kps g (un fr v fs n)) (n := v) (fun k hk => by rw [un_ne hk]) V hv.1 hv.2
  simp only [un_eq] at e
  exact e
/-- all of a colour become over -/
def whi (w : Nat → Nat) (g : Nat) : Nat → Nat := fun x => if w x = g + 1 then 0 else w x
theorem whi_0 (h : w x = 0) : whi w g x = 0 := by unfold whi; split <;> omega
theorem whi_g (h : w g = g + 1) : whi w g g = 0 := if_pos h
theorem whi_ne (h : w x = x + 1) (hx : x ≠ g) : whi w g x = x + 1 := by unfold whi; rw [if_neg (by omega)]; exact h
theorem whi_eq {c : Nat} (h : w c = w x) : whi w g c = whi w g x := by unfold whi; rw [h]
/-- it is caught, or comes out -/
theorem Col.white (h : Col κ σ V F0 fr w rz) (hF : F0 ≤ 7900) (ek : kI κ' 84 = kI κ 84) (e86 : ∀ h, 86 ≤ h → h ≤ 88 → kI κ' h = kI κ h ∧ kW κ' h = kW κ h) (es : ∀ k, 88 ≤ k → k ≤ 97 → aI σ' k = aI σ k) (hz : rz g = 1) (hg : g < F0) (hk : ∀ y, y < F0 → cn (fun n => kps y (fr' n)) V + rz' y ≤ cn (fun n => kps y (fr n)) V + if y = g then 0 else rz y) (h1 : ∀ n f x, 1 ≤ n → n ≤ V → f ∈ fr' n → x ∈ frL f → x.1 ≠ 0 → x.2.2.2.1 = 1 → x.2.2.2.2 = nI (g + 1) ∨ ∃ m f0, 1 ≤ m ∧ m ≤ V ∧ f0 ∈ fr m ∧ x ∈ frL f0) : Col κ' σ' V F0 fr' (whi w g) rz' := by
  obtain ⟨c1, c2, c3, c4, c5⟩ := h.cg ek e86 es
  have wg : w g = g + 1 := (c2 g hg).2 (by omega)
  refine ⟨fun x hx => ?_, fun y hy => ?_, fun n f x n1 n2 hf hx x1 x2 y hy e => ?_, c4.imp id (fun ⟨l, l1, l2, l3, l4⟩ => ⟨l, l1, l2, l3, whi_0 l4⟩), c5⟩
  · obtain ⟨a1, a2, a3, a4⟩ := c1 x hx
    exact ⟨fun c d1 d2 => whi_0 (a1 c d1 d2), fun c d1 d2 => whi_eq (a2 c d1 d2), fun c d1 d2 => whi_eq (a3 c d1 d2), fun c d1 d2 => whi_eq (a4 c d1 d2)⟩
  · obtain ⟨d1, d2⟩ := c2 y hy
    have := hk y hy
    by_cases c : y = g
    · subst c
      rw [if_pos rfl] at this
      exact ⟨by omega, fun z => by omega⟩
    · rw [if_neg c] at this
      exact ⟨by omega, fun z => whi_ne (d2 (by omega)) c⟩
  · rcases h1 n f x n1 n2 hf hx x1 x2 with z | ⟨m, f0, a0, a1, a2, a3⟩
    · have eq : y = g := by
        rw [z] at e
        have := (nI_eq (a := g + 1) (b := y + 1) (by omega) (by omega)).mp e
        omega
      rw [eq]
      exact whi_g wg
    · exact whi_0 (c3 m f0 x a0 a1 a2 a3 x1 x2 y hy e)
end COLOURS
