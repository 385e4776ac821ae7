/-! the reference resolves what is called and made -/
section ASKS
variable {X : Cx} {e : Nat} {σ σ1 : Rm} {Q : Res → Rm → Prop}
/-- body c of the reference is the first one with a name, of kind s, with so many arguments -/
def AskR (σ : Rm) (b t s m c : Nat) : Prop := c < b ∧ aL σ 26 c = aL σ 9 t ∧ (∀ u, u < c → aL σ 26 u ≠ aL σ 9 t) ∧ aI σ 19 c = nI s ∧ aI σ 20 c = nI m
/-- one ask: its number y; blamed, or not -/
def AskO (σ : Rm) (b t s m : Nat) (y : Int32) (σ1 : Rm) : Prop := ((∃ c, AskR σ b t s m c ∧ y = nI c) ∧ σ1 = σ) ∨ ((∀ c, ¬ AskR σ b t s m c) ∧ σ1 = bl σ t)
theorem ask_one {u t q m b : Nat} (he : 1 ≤ e) (hu : u < 1600) (h38 : aI σ 38 u = nI q) (hq : q < 12000) (h39 : aI σ 39 u = nI t) (ht : t < 3001) (h40 : aI σ 40 u = nI m) (hm : m < 8) (hb : sI σ 18 = nI b) (h12 : b ≤ 12) (hA : ∀ c, c < b → ∃ s n, s < 2 ∧ n < 8 ∧ aI σ 19 c = nI s ∧ aI σ 20 c = nI n)
    (k : ∀ y σ1, AskO σ b t (if aI σ 13 q = 16 then 1 else 0) m y σ1 → A X 92 e MX13_compile 139 [(0, vR 92), (1, vI (nI (u + 1)))] [] (wI σ1 14 q y) Q) : ∀ (r i : Nat) (y : Int32), i + r = b → ((y = -9 ∧ ∀ w, w < i → aL σ 26 w ≠ aL σ 9 t) ∨ ∃ c, c < i ∧ aL σ 26 c = aL σ 9 t ∧ (∀ w, w < c → aL σ 26 w ≠ aL σ 9 t) ∧ y = nI c) → A X 92 e MX13_compile 152 [(0, vR 92), (1, vI (nI u)), (2, vI y), (3, vI (nI i))] [] σ Q := by
  intro r
  induction r with
  | zero =>
    intro i y hi hy
    have fin : ∀ (σ1 : Rm) (x3 : Int32), AskO σ b t (if aI σ 13 q = 16 then 1 else 0) m y σ1 → A X 92 e MX13_compile 262 [(0, vR 92), (1, vI (nI u)), (2, vI y), (3, vI x3)] [] σ1 Q := fun σ1 x3 ao => by
      have e38 : aI σ1 38 u = nI q := by
        rcases ao with ⟨-, rfl⟩ | ⟨-, rfl⟩
        · exact h38
        · rw [bl_a (by decide)]; exact h38
      refine a_compile_262 _ _ _ ?_
      rw [vpn (by omega), cl_nI (by omega), e38, vpn (by omega), cl_nI (by omega), nI_1]
      refine ⟨hu, hq, ?_⟩
      rintro s3 rfl
      exact k y σ1 ao
    have bad : ∀ x3, (∀ c, ¬ AskR σ b t (if aI σ 13 q = 16 then 1 else 0) m c) → A X 92 e MX13_compile 252 [(0, vR 92), (1, vI (nI u)), (2, vI y), (3, vI x3)] [] σ Q := fun x3 no => a_compile_252 _ _ _ (by
      rw [vpn (by omega), cl_nI (by omega), h39]
      exact ⟨hu, 0, by omega, ac_blame (by omega) (fin _ _ (Or.inr ⟨no, rfl⟩))⟩)
    have tail : ∀ s : Nat, (if aI σ 13 q = 16 then 1 else 0) = s → s < 2 → A X 92 e MX13_compile 220 [(0, vR 92), (1, vI (nI u)), (2, vI y), (3, vI (nI i))] [vI (nI s)] σ Q := fun s es hs => by
      refine a_compile_220 _ _ _ _ ?_
      rw [es] at bad fin
      rcases hy with ⟨h1, h2⟩ | ⟨c, h1, h2, h3, h4⟩
      · exact ⟨fun _ => bad _ (fun c hc => h2 c (by have := hc.1; omega) hc.2.1), fun z => absurd h1 z⟩
      · obtain ⟨s', n', hs', hn', g1, g2⟩ := hA c (by omega)
        rw [h4, vpn (by omega), cl_nI (by omega), g1, g2, vpn (by omega), cl_nI (by omega), h40, eq_nI (by omega) (by omega), eq_nI (by omega) (by omega)]
        have un : ∀ c', AskR σ b t s m c' → c' = c := fun c' hc => by
          rcases Nat.lt_trichotomy c' c with z | z | z
          · exact absurd hc.2.1 (h3 c' z)
          · exact z
          · exact absurd h2 (hc.2.2.1 c z)
        rw [h4] at bad fin
        refine ⟨fun z => absurd z (neg9 (by omega)), fun _ => ⟨by omega, fun cs => ⟨by omega, hu, fun cn => fin σ _ (Or.inl ⟨⟨c, ⟨by omega, h2, h3, by rw [g1, cs], by rw [g2, cn]⟩, rfl⟩, rfl⟩), fun cn => bad _ (fun c' hc => ?_)⟩, fun cs => bad _ (fun c' hc => ?_)⟩⟩
        · have e := un c' hc
          subst e
          have := (nI_eq (by omega) (by omega)).mp (g2.symm.trans hc.2.2.2.2)
          omega
        · have e := un c' hc
          subst e
          have := (nI_eq (by omega) (by omega)).mp (g1.symm.trans hc.2.2.2.1)
          omega
    refine a_compile_152 _ _ _ ?_
    rw [hb, le_nI (by omega) (by omega), vpn (by omega), cl_nI (by omega), h38, vpn (by omega), cl_nI (by omega)]
    exact ⟨fun _ => ⟨hu, hq, fun c => tail 1 (if_pos c) (by omega), fun c => tail 0 (if_neg c) (by omega)⟩, fun z => absurd (by omega) z⟩
  | succ r ih =>
    intro i y hi hy
    refine a_compile_152 _ _ _ ?_
    rw [hb, le_nI (by omega) (by omega), vpn (by omega), cl_nI (by omega), vpn (by omega), cl_nI (by omega), h39, vpn (by omega), cl_nI (by omega), lg0]
    refine ⟨fun z => absurd z (by omega), fun _ => ⟨fun c => ⟨by omega, hu, by omega, fun c2 => a_compile_192 _ _ _ _ ?_, fun c2 => a_compile_191 _ _ _ (a_compile_192 _ _ _ _ ?_)⟩, fun c => a_compile_191 _ _ _ (a_compile_192 _ _ _ _ ?_)⟩⟩
    · rw [nI_1]
      refine ih (i + 1) _ (by omega) (Or.inr ⟨i, by omega, c2, fun w hw => ?_, rfl⟩)
      rcases hy with ⟨h1, h2⟩ | ⟨v, h1, h2, h3, h4⟩
      · exact h2 w hw
      · rw [h4] at c
        exact absurd c (neg9 (by omega))
    · rw [nI_1]
      refine ih (i + 1) _ (by omega) (Or.inl ⟨c, fun w hw => ?_⟩)
      rcases hy with ⟨h1, h2⟩ | ⟨v, h1, h2, h3, h4⟩
      · by_cases e : w = i
        · rw [e]; exact c2
        · exact h2 w (by omega)
      · rw [h4] at c
        exact absurd c (neg9 (by omega))
    · rw [nI_1]
      refine ih (i + 1) _ (by omega) ?_
      rcases hy with ⟨h1, h2⟩ | ⟨v, h1, h2, h3, h4⟩
      · exact absurd h1 c
      · exact Or.inr ⟨v, by omega, h2, h3, h4⟩
/-- asks that are wrong: those before u1 -/
def AsW (σ : Rm) (b u1 p : Nat) : Prop := ∃ u q t m, u < u1 ∧ aI σ 38 u = nI q ∧ q < 12000 ∧ aI σ 39 u = nI t ∧ t < 3001 ∧ aI σ 40 u = nI m ∧ m < 8 ∧ (∀ c, ¬ AskR σ b t (if aI σ 13 q = 16 then 1 else 0) m c) ∧ aI σ 6 t = nI p ∧ p < 3001
/-- the asks before u1 are resolved -/
def AsD (σ0 σ : Rm) (b u1 : Nat) : Prop := (∀ k, k ≠ 14 → k ≠ 37 → aI σ k = aI σ0 k) ∧ (∀ k, aL σ k = aL σ0 k) ∧ (∀ q, (∀ u, u < u1 → aI σ0 38 u ≠ nI q) → aI σ 14 q = aI σ0 14 q) ∧
  (∀ u q t m, u < u1 → aI σ0 38 u = nI q → q < 12000 → aI σ0 39 u = nI t → t < 3001 → aI σ0 40 u = nI m → m < 8 → ∀ c, AskR σ0 b t (if aI σ0 13 q = 16 then 1 else 0) m c → aI σ 14 q = nI c)
/-- the name's fault, and what is wrong -/
def Wr (σ : Rm) (S : Nat → Prop) : Prop := (sI σ 37 = -9 ∨ ∃ g, g < 3001 ∧ sI σ 37 = nI g) ∧ Lst S (fN (sI σ 37))
theorem AskR.cong {σ' : Rm} {b t s m c : Nat} (a : ∀ k, k = 19 ∨ k = 20 → aI σ' k = aI σ k) (l : ∀ k, aL σ' k = aL σ k) : AskR σ' b t s m c ↔ AskR σ b t s m c := by
  unfold AskR
  rw [a 19 (by omega), a 20 (by omega), l 26, l 9]
theorem asks_all {S : Nat → Prop} {A0 b : Nat} {σ0 : Rm} (he : 1 ≤ e) (h41 : sI σ0 41 = nI A0) (hA0 : A0 ≤ 1500) (hb : sI σ0 18 = nI b) (h12 : b ≤ 12) (hA : ∀ c, c < b → ∃ s n, s < 2 ∧ n < 8 ∧ aI σ0 19 c = nI s ∧ aI σ0 20 c = nI n)
    (hq : ∀ u, u < A0 → ∃ q t m, aI σ0 38 u = nI q ∧ q < 12000 ∧ aI σ0 39 u = nI t ∧ t < 3001 ∧ aI σ0 40 u = nI m ∧ m < 8 ∧ (∃ f, f < 3001 ∧ aI σ0 6 t = nI f)) (inj : ∀ u w q, u < A0 → w < A0 → q < 12000 → aI σ0 38 u = nI q → aI σ0 38 w = nI q → u = w)
    (k : ∀ σ', AsD σ0 σ' b A0 → Wr σ' (fun z => S z ∨ AsW σ0 b A0 z) → A X 92 e MX13_compile 139 [(0, vR 92), (1, vI (nI A0))] [] σ' Q) : ∀ (r u : Nat) (σ : Rm), u + r = A0 → AsD σ0 σ b u → Wr σ (fun z => S z ∨ AsW σ0 b u z) → A X 92 e MX13_compile 139 [(0, vR 92), (1, vI (nI u))] [] σ Q := by
  intro r
  induction r with
  | zero =>
    intro u σ hu d w
    have e : u = A0 := by omega
    subst e
    exact k σ d w
  | succ r ih =>
    intro u σ hu d w
    obtain ⟨q, t, m, g1, g2, g3, g4, g5, g6, f, f1, f2⟩ := hq u (by omega)
    obtain ⟨d1, d2, d3, d4⟩ := d
    have s18 : sI σ 18 = nI b := (congrFun (d1 18 (by decide) (by decide)) 0).trans hb
    have s41 : sI σ 41 = nI A0 := (congrFun (d1 41 (by decide) (by decide)) 0).trans h41
    refine a_compile_139 _ ?_
    rw [s41, le_nI (by omega) (by omega)]
    refine ⟨fun z => absurd z (by omega), fun _ => ask_one (t := t) (q := q) (m := m) (b := b) he (by omega) (by rw [d1 38 (by decide) (by decide)]; exact g1) g2 (by rw [d1 39 (by decide) (by decide)]; exact g3) g4 (by rw [d1 40 (by decide) (by decide)]; exact g5) g6 s18 h12 (fun c hc => ?_) (fun y σ1 ao => ?_) b 0 (-9) (by omega) (Or.inl ⟨rfl, fun w hw => absurd hw (Nat.not_lt_zero _)⟩)⟩
    · rw [d1 19 (by decide) (by decide), d1 20 (by decide) (by decide)]
      exact hA c hc
    · have ac : ∀ {s m c}, AskR σ b t s m c ↔ AskR σ0 b t s m c := AskR.cong (fun k hk => d1 k (by omega) (by omega)) d2
      have e13 : aI σ 13 = aI σ0 13 := d1 13 (by decide) (by decide)
      have e6 : aI σ 6 t = nI f := by rw [d1 6 (by decide) (by decide)]; exact f2
      have a1 : ∀ k, k ≠ 37 → aI σ1 k = aI σ k := fun k hk => by
        rcases ao with ⟨-, rfl⟩ | ⟨-, rfl⟩
        · rfl
        · exact bl_a hk
      have l1 : aL σ1 = aL σ := by
        rcases ao with ⟨-, rfl⟩ | ⟨-, rfl⟩
        · rfl
        · rfl
      refine ih (u + 1) _ (by omega) ⟨fun k n1 n2 => ?_, fun k => ?_, fun q' hq' => ?_, fun u' q' t' m' l1' l2 l3 l4 l5 l6 l7 c hc => ?_⟩ ?_
      · rw [aI_ne n1, a1 k n2]; exact d1 k n1 n2
      · show aL σ1 k = _
        rw [l1]; exact d2 k
      · have nq : q' ≠ q := fun z => hq' u (by omega) (by rw [z]; exact g1)
        rw [aI_ni nq, a1 14 (by decide)]
        exact d3 q' (fun u' hu' => hq' u' (by omega))
      · by_cases cu : u' = u
        · subst cu
          have eq : q' = q := (nI_eq (by omega) (by omega)).mp (l2.symm.trans g1)
          have et : t' = t := (nI_eq (by omega) (by omega)).mp (l4.symm.trans g3)
          have em : m' = m := (nI_eq (by omega) (by omega)).mp (l6.symm.trans g5)
          subst eq et em
          rw [aI_eq]
          rcases ao with ⟨⟨c', hc', rfl⟩, -⟩ | ⟨no, -⟩
          · rw [e13] at hc'
            have h0 := ac.mp hc'
            rcases Nat.lt_trichotomy c' c with z | z | z
            · exact absurd h0.2.1 (hc.2.2.1 c' z)
            · rw [z]
            · exact absurd hc.2.1 (h0.2.2.1 c z)
          · rw [e13] at no
            exact absurd (ac.mpr hc) (no c)
        · have nq : q' ≠ q := fun z => cu (inj u' u q (by omega) (by omega) g2 (by rw [← z]; exact l2) g1)
          rw [aI_ni nq, a1 14 (by decide)]
          exact d4 u' q' t' m' (by omega) l2 l3 l4 l5 l6 l7 c hc
      · have s37 : sI (wI σ1 14 q y) 37 = sI σ1 37 := congrFun (aI_ne (by decide)) 0
        unfold Wr
        rw [s37]
        have old : ∀ z, AsW σ0 b u z → AsW σ0 b (u + 1) z := fun z ⟨u', q', t', m', x1, x2⟩ => ⟨u', q', t', m', by omega, x2⟩
        have new : ∀ z, AsW σ0 b (u + 1) z → AsW σ0 b u z ∨ ((∀ c, ¬ AskR σ0 b t (if aI σ0 13 q = 16 then 1 else 0) m c) ∧ z = f) := fun z ⟨u', q', t', m', x1, x2, x3, x4, x5, x6, x7, x8, x9, x10⟩ => by
          by_cases cu : u' = u
          · subst cu
            have eq : q' = q := (nI_eq (by omega) (by omega)).mp (x2.symm.trans g1)
            have et : t' = t := (nI_eq (by omega) (by omega)).mp (x4.symm.trans g3)
            have em : m' = m := (nI_eq (by omega) (by omega)).mp (x6.symm.trans g5)
            subst eq et em
            exact Or.inr ⟨x8, (nI_eq (by omega) (by omega)).mp (x9.symm.trans f2)⟩
          · exact Or.inl ⟨u', q', t', m', by omega, x2, x3, x4, x5, x6, x7, x8, x9, x10⟩
        rcases ao with ⟨⟨c', hc', -⟩, rfl⟩ | ⟨no, rfl⟩
        · refine ⟨w.1, w.2.cong (fun p _ => ⟨fun g => g.elim Or.inl (fun g => Or.inr (old p g)), fun g => g.elim Or.inl (fun g => (new p g).elim Or.inr (fun ⟨g, _⟩ => ?_))⟩)⟩
          rw [e13] at hc'
          exact absurd (ac.mp hc') (g c')
        · obtain ⟨b1, g, b2, b3⟩ := bl_fN e6 f1 w.1
          refine ⟨Or.inr ⟨g, b2, b3⟩, ?_⟩
          rw [b1]
          refine (w.2.or (Lst.one (x := f) (by omega))).cong (fun p _ => ⟨fun g => ?_, fun g => ?_⟩)
          · rcases g with (g | g) | g
            · exact Or.inl g
            · exact Or.inr (old p g)
            · refine Or.inr ⟨u, q, t, m, by omega, g1, g2, g3, g4, g5, g6, fun c hc => ?_, by rw [g]; exact f2, by omega⟩
              rw [e13] at no
              exact no c (ac.mpr hc)
          · rcases g with g | g
            · exact Or.inl (Or.inl g)
            · rcases new p g with g | ⟨-, g⟩
              · exact Or.inl (Or.inr g)
              · exact Or.inr g
end ASKS
