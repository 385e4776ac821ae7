/-! least faults; the reference resolves all uses of a body -/
/-- the least of a set of places, 5000 where there is none -/
def Lst (S : Nat → Prop) (x : Nat) : Prop := x ≤ 5000 ∧ ∀ z, z ≤ 5000 → (z ≤ x ↔ ∀ y, S y → z ≤ y)
theorem Lst.turn {S S' : Nat → Prop} {x : Nat} (h : Lst S x) (e : ∀ z, z ≤ 5000 → ((∀ y, S y → z ≤ y) ↔ ∀ y, S' y → z ≤ y)) : Lst S' x := ⟨h.1, fun z hz => (h.2 z hz).trans (e z hz)⟩
theorem Lst.cong {S S' : Nat → Prop} {x : Nat} (h : Lst S x) (e : ∀ p, p < 5000 → (S p ↔ S' p)) : Lst S' x := h.turn (fun z hz => ⟨fun a y hy => by
    by_cases c : y < 5000
    · exact a y ((e y c).mpr hy)
    · omega, fun a y hy => by
    by_cases c : y < 5000
    · exact a y ((e y c).mp hy)
    · omega⟩)
theorem Lst.uniq {S : Nat → Prop} {x y : Nat} (h : Lst S x) (g : Lst S y) : x = y := by
  have a := (g.2 x h.1).mpr ((h.2 x h.1).mp (Nat.le_refl _))
  have b := (h.2 y g.1).mpr ((g.2 y g.1).mp (Nat.le_refl _))
  omega
theorem Lst.one {x : Nat} (h : x ≤ 5000) : Lst (fun p => p = x) x := ⟨h, fun z _ => ⟨fun hz y e => by omega, fun hz => hz x rfl⟩⟩
theorem Lst.nil : Lst (fun _ => False) 5000 := ⟨Nat.le_refl _, fun z hz => ⟨fun _ y hy => hy.elim, fun _ => hz⟩⟩
theorem Lst.or {S S' : Nat → Prop} {x y : Nat} (h : Lst S x) (g : Lst S' y) : Lst (fun p => S p ∨ S' p) (min x y) := by
  have h1 := h.1
  refine ⟨by omega, fun z hz => ⟨fun c p hp => ?_, fun c => ?_⟩⟩
  · rcases hp with hp | hp
    · exact (h.2 z hz).mp (by omega) p hp
    · exact (g.2 z hz).mp (by omega) p hp
  · have a := (h.2 z hz).mpr (fun p hp => c p (Or.inl hp))
    have b := (g.2 z hz).mpr (fun p hp => c p (Or.inr hp))
    omega
section USES
variable {X : Cx} {x1 x2 x3 x4 x5 : Int32} {Q : Res → Rm → Prop} {e : Nat}
/-- uses whose names are not among the n of the reference -/
def MsR (σ : Rm) (n u0 u1 p : Nat) : Prop := ∃ u t, u0 ≤ u ∧ u < u1 ∧ aI σ 43 u = nI t ∧ t < 3001 ∧ (∀ w, w < n → aL σ 24 w ≠ aL σ 9 t) ∧ aI σ 6 t = nI p ∧ p < 3001
/-- the uses u0 .. u1 are resolved -/
def UsQ (σ : Rm) (n u0 u1 : Nat) (σ' : Rm) : Prop := AF (fun k => k = 14 ∨ k = 37) σ σ' ∧ (∀ q, (∀ u, u0 ≤ u → u < u1 → aI σ 42 u ≠ nI q) → aI σ' 14 q = aI σ 14 q) ∧
  (∀ u q t v, u0 ≤ u → u < u1 → q < 12000 → t < 3001 → aI σ 42 u = nI q → aI σ 43 u = nI t → FstR σ n (aL σ 9 t) v → aI σ' 14 q = nI v) ∧
  (sI σ' 37 = -9 ∨ ∃ f, f < 3001 ∧ sI σ' 37 = nI f) ∧ Lst (fun p => p = fN (sI σ 37) ∨ MsR σ n u0 u1 p) (fN (sI σ' 37))
/-- what is known of the uses -/
def UsH (σ : Rm) (U n : Nat) : Prop := sI σ 44 = nI U ∧ U ≤ 1500 ∧ sI σ 25 = nI n ∧ n < 1600 ∧ (∀ u, u < U → ∃ t q f, aI σ 43 u = nI t ∧ t < 3001 ∧ aI σ 42 u = nI q ∧ q < 12000 ∧ aI σ 6 t = nI f ∧ f < 3001) ∧
  (∀ u w, u < w → w < U → ∃ q r, q < r ∧ r < 12000 ∧ aI σ 42 u = nI q ∧ aI σ 42 w = nI r) ∧ (sI σ 37 = -9 ∨ ∃ f, f < 3001 ∧ sI σ 37 = nI f)
theorem fN_le (x : Int32) (h : x = -9 ∨ ∃ f, f < 3001 ∧ x = nI f) : fN x ≤ 5000 := by
  rcases h with rfl | ⟨f, hf, rfl⟩
  · rw [fN_neg]
    omega
  · rw [fN_nI (by omega)]; omega
theorem use_st {σ σ1 : Rm} {n t q : Nat} {y : Int32} (ln : LnR σ n t y σ1) : AF (fun k => k = 14 ∨ k = 37) σ (wI σ1 14 q y) ∧ (∀ r, r ≠ q → aI (wI σ1 14 q y) 14 r = aI σ 14 r) ∧ aI (wI σ1 14 q y) 14 q = y ∧ sI (wI σ1 14 q y) 37 = sI σ1 37 := by
  have a : AF (fun k => k = 14 ∨ k = 37) σ σ1 := by
    rcases ln with ⟨v, -, -, rfl⟩ | ⟨-, -, rfl⟩
    · exact AF.refl
    · exact AF.wI (Or.inr rfl)
  have b : aI σ1 14 = aI σ 14 := by
    rcases ln with ⟨v, -, -, rfl⟩ | ⟨-, -, rfl⟩
    · rfl
    · exact bl_a (by decide)
  exact ⟨a.trans (AF.wI (Or.inl rfl)), fun r hr => by rw [aI_ni hr, b], aI_eq, sI_ne (by decide)⟩
theorem UsH.af {σ σ2 : Rm} {U n : Nat} (h : UsH σ U n) (a : AF (fun k => k = 14 ∨ k = 37) σ σ2) (h37 : sI σ2 37 = -9 ∨ ∃ f, f < 3001 ∧ sI σ2 37 = nI f) : UsH σ2 U n := by
  obtain ⟨h1, h2, h3, h4, h5, h6, -⟩ := h
  have s44 : sI σ2 44 = sI σ 44 := congrFun (a 44 (by decide)).1 0
  have s25 : sI σ2 25 = sI σ 25 := congrFun (a 25 (by decide)).1 0
  refine ⟨by rw [s44]; exact h1, h2, by rw [s25]; exact h3, h4, ?_, ?_, h37⟩
  · rw [(a 43 (by decide)).1, (a 42 (by decide)).1, (a 6 (by decide)).1]; exact h5
  · rw [(a 42 (by decide)).1]; exact h6
theorem uses_all {U n : Nat} (he : 1 ≤ e) : ∀ (m u : Nat) (σ : Rm), u + m = U → UsH σ U n → (∀ σ', UsQ σ n u U σ' → Q (.inl none) σ') → A X 92 e MX13_readBody 397 (LU x1 x2 x3 x4 x5 (nI u)) [] σ Q := by
  intro m
  induction m with
  | zero =>
    intro u σ hu uh k
    obtain ⟨h1, h2, h3, h4, h5, h6, h7⟩ := uh
    refine a_readBody_397 _ _ _ _ _ _ ?_
    rw [h1, le_nI (by omega) (by omega)]
    refine ⟨fun _ => k σ ⟨AF.refl, fun _ _ => rfl, fun v q t w l1 l2 => absurd l1 (by omega), h7, (Lst.one (fN_le _ h7)).cong (fun p _ => ⟨fun z => Or.inl z, fun z => ?_⟩)⟩, fun z => absurd (by omega) z⟩
    rcases z with z | ⟨v, t, l1, l2, -⟩
    · exact z
    · omega
  | succ m ih =>
    intro u σ hu uh k
    have uh' := uh
    obtain ⟨h1, h2, h3, h4, h5, h6, h7⟩ := uh
    obtain ⟨t, q, f, e43, ht, e42, hq, e6, hf⟩ := h5 u (by omega)
    refine a_readBody_397 _ _ _ _ _ _ ?_
    rw [h1, le_nI (by omega) (by omega)]
    refine ⟨fun z => absurd z (by omega), fun _ => use_one he (by omega) e43 ht e42 hq h3 h4 (fun y σ1 ln => ?_) n 0 (-9) (by omega) (Or.inl ⟨rfl, fun w hw => absurd hw (Nat.not_lt_zero _)⟩)⟩
    obtain ⟨a, s14, s14q, s37⟩ := use_st (q := q) ln
    have f37 : sI (wI σ1 14 q y) 37 = -9 ∨ ∃ f, f < 3001 ∧ sI (wI σ1 14 q y) 37 = nI f := by
      rw [s37]
      rcases ln with ⟨v, -, -, rfl⟩ | ⟨-, -, rfl⟩
      · exact h7
      · exact Or.inr (bl_fN e6 hf h7).2
    have uh2 := uh'.af a f37
    generalize hs : wI σ1 14 q y = σ2 at a s14 s14q s37 f37 uh2
    have a42 := (a 42 (by decide)).1
    have a43 := (a 43 (by decide)).1
    have a6 := (a 6 (by decide)).1
    have l24 := (a 24 (by decide)).2
    have l9 := (a 9 (by decide)).2
    refine ih (u + 1) σ2 (by omega) uh2 (fun σ' uq => k σ' ?_)
    obtain ⟨b, c1, c2, c3, c4⟩ := uq
    refine ⟨a.trans b, fun r hr => ?_, fun w r s v l1 l2 lr lt er es fr => ?_, c3, c4.turn (fun z hz => ?_)⟩
    · rw [c1 r (fun w l1 l2 => by rw [a42]; exact hr w (by omega) l2)]
      exact s14 r (fun z => hr u (Nat.le_refl _) (by omega) (by rw [z]; exact e42))
    · by_cases cu : w = u
      · subst cu
        have eq : r = q := (nI_eq (by omega) (by omega)).mp (er.symm.trans e42)
        have et : s = t := (nI_eq (by omega) (by omega)).mp (es.symm.trans e43)
        subst eq et
        rw [c1 r (fun x l3 l4 => ?_), s14q]
        · rcases ln with ⟨v2, fv, ev, -⟩ | ⟨no, -, -⟩
          · rw [ev]
            have : v2 = v := by
              by_cases g1 : v2 < v
              · exact absurd fv.2.1 (fr.2.2 v2 g1)
              · by_cases g2 : v < v2
                · exact absurd fr.2.1 (fv.2.2 v g2)
                · omega
            rw [this]
          · exact absurd fr.2.1 (no v fr.1)
        · obtain ⟨q1, r1, z1, z2, z3, z4⟩ := h6 w x (by omega) l4
          rw [a42, z4]
          have : r = q1 := (nI_eq (by omega) (by omega)).mp (e42.symm.trans z3)
          exact nI_ne (by omega) (by omega) (by omega)
      · refine c2 w r s v (by omega) l2 lr lt (by rw [a42]; exact er) (by rw [a43]; exact es) ?_
        unfold FstR at fr ⊢
        rw [l24, l9]
        exact fr
    · have ms : ∀ p, MsR σ2 n (u + 1) U p → MsR σ n u U p := fun p ⟨w, s, l1, l2, l3, l4, l5, l6, l7⟩ => ⟨w, s, by omega, l2, by rw [← a43]; exact l3, l4, by rw [← l24, ← l9]; exact l5, by rw [← a6]; exact l6, l7⟩
      have sm : ∀ p, MsR σ n u U p → MsR σ2 n (u + 1) U p ∨ ((∀ w, w < n → aL σ 24 w ≠ aL σ 9 t) ∧ p = f) := fun p ⟨w, s, l1, l2, l3, l4, l5, l6, l7⟩ => by
        by_cases cu : w = u
        · subst cu
          have et : s = t := (nI_eq (by omega) (by omega)).mp (l3.symm.trans e43)
          subst et
          exact Or.inr ⟨l5, (nI_eq (by omega) (by omega)).mp (l6.symm.trans e6)⟩
        · exact Or.inl ⟨w, s, by omega, l2, by rw [a43]; exact l3, l4, by rw [l24, l9]; exact l5, by rw [a6]; exact l6, l7⟩
      rcases ln with ⟨v, fv, ev, rfl⟩ | ⟨no, ev, rfl⟩
      · refine ⟨fun A p hp => ?_, fun A p hp => ?_⟩
        · rcases hp with hp | hp
          · exact A p (Or.inl (by rw [s37]; exact hp))
          · rcases sm p hp with h | h
            · exact A p (Or.inr h)
            · exact absurd fv.2.1 (h.1 v fv.1)
        · rcases hp with hp | hp
          · exact A p (Or.inl (by rw [← s37]; exact hp))
          · exact A p (Or.inr (ms p hp))
      · have bf := (bl_fN e6 hf h7).1
        rw [← s37] at bf
        refine ⟨fun A p hp => ?_, fun A p hp => ?_⟩
        · have := A _ (Or.inl rfl)
          rcases hp with hp | hp
          · omega
          · rcases sm p hp with h | h
            · exact A p (Or.inr h)
            · omega
        · rcases hp with hp | hp
          · have g1 := A _ (Or.inl rfl)
            have g2 := A f (Or.inr ⟨u, t, Nat.le_refl _, by omega, e43, ht, no, e6, hf⟩)
            omega
          · exact A p (Or.inr (ms p hp))
end USES
