/-! misuse: both -/
section MISUSE
variable {X : Cx} {d e er : Nat} {κ0 κ κa κb κc κ1 κ' : Km} {σ0 σ σa σc σr σ1 σ' : Rm} {b V al S T sp z LT HT F0 v p n x q g k op sc : Nat} {st : Nat → Nat} {fr fr' : Nat → List Frm} {pt : Nat → Nat} {fs r rr : List Frm} {ch cr l : List Nat} {w rz : Nat → Nat} {f f1 f' : Frm} {y u a num val vo pl ca : Int32} {C : Km → Prop} {D P : Rm → Prop} {G : Rm → Prop} {o : Option (List Nat)}
/-- the ring is another, or as it was -/
def RoC (κ κ' : Km) (o : Option (List Nat)) : Prop := (o = none ∧ κ' = κ) ∨ ∃ l, o = some l ∧ RgC κ κ' l
def RoR (σ σ' : Rm) (o : Option (List Nat)) : Prop := (o = none ∧ σ' = σ) ∨ ∃ l, o = some l ∧ RgR σ σ' l
/-- what is asked for is no voice that is ready -/
def Mis (σ : Rm) (V v : Nat) (st : Nat → Nat) (a : Int32) (o : Option (List Nat)) : Prop := ((a < 1 ∨ nI V < a) ∧ o = none) ∨ ∃ n, (1 ≤ n ∧ n ≤ V) ∧ a = nI n ∧ ((4 ≤ st n ∧ st n ≤ 6 ∧ o = none) ∨ ((st n = 2 ∨ st n = 3) ∧ ∃ l, o = some l ∧ Pth σ n l ∧ l.headD 0 = v ∧ l.length ≤ 12 ∧ ∀ x, x ∈ l → 1 ≤ x ∧ x ≤ V))
theorem RgR.par {g k : Nat} (hg : g ≠ 86 ∧ g ≠ 87) (h : RgR σ σ' l) : RgR (wI σ g k y) (wI σ' g k y) l := by
  obtain ⟨h1, h2, h3⟩ := h
  exact ⟨af_par h1, by rw [sI_ne (by omega)]; exact h2, fun k hk => by rw [aI_ne (by omega)]; exact h3 k hk⟩
theorem rgr_flS (h : RgR σ σ' l) : RgR (flS σ F0 num val vo pl ca) (flS σ' F0 num val vo pl ca) l := by
  unfold flS
  exact (((((((((h.par (by decide)).par (by decide)).par (by decide)).par (by decide)).par (by decide)).par (by decide)).par (by decide)).par (by decide)).par (by decide))
theorem Bn.ring (h : Bn κ0 σ0 κ σ b V al S T sp z LT HT F0 st fr pt x) (hk : RgC κ κ' l) (hr : RgR σ σ' l) (hl : l.length ≤ 12) : Bn κ0 σ0 κ' σ' b V al S T sp z LT HT F0 st fr pt x := by
  obtain ⟨⟨⟨k1, k2, k3⟩, sta, rg⟩, a4, a5, a7, ⟨⟨g1, c1, c2⟩, ⟨g2, c3, c4⟩, R, r0, r1, r2, r3, r4⟩, a9, a10⟩ := h
  obtain ⟨e2, eh, e79, e9, e91⟩ := hk
  obtain ⟨af, f87, f86⟩ := hr
  have ew : kW κ' = kW κ := by show κ'.2.2.1 = κ.2.2.1; rw [e2]
  have eL : kL κ' = kL κ := by show κ'.2.1 = κ.2.1; rw [e2]
  have eB : kB κ' = kB κ := by show κ'.2.2.2.2.1 = κ.2.2.2.2.1; rw [e2]
  have eV : kV κ' = kV κ := by show κ'.2.2.2.2.2.1 = κ.2.2.2.2.2.1; rw [e2]
  have eT : kT κ' = kT κ := by show κ'.2.2.2.2.2.2.1 = κ.2.2.2.2.2.2.1; rw [e2]
  have eZ : kZ κ' = kZ κ := by show κ'.2.2.2.2.2.2.2 = κ.2.2.2.2.2.2.2; rw [e2]
  have es : ∀ k, k ≠ 86 → k ≠ 87 → aI σ' k = aI σ k := fun k h1 h2 => (af k (by omega)).1
  refine ⟨⟨⟨fun g hg => ?_, ⟨eB.trans k2.1, k2.2.cg (Nat.le_of_eq eV.symm) (fun m k _ => by rw [eh _ (by omega) (by omega)]) (e79 10 (by decide)) (fun k hk => es k (by omega) (by omega))⟩, fun k h1 h2 => ?_⟩, sta, rg.trans (RG.same ew eV eB eT eZ)⟩, a4.cg (fun k hk => e79 k (by omega)) eV (fun k hk => congrFun (es k (by omega) (by omega)) 0), fun n n1 n2 => (a5 n n1 n2).cg (fun k hk => by rw [eh _ (by omega) (by omega)]) (fun k h1 h2 => by rw [es k (by omega) (by omega)]) (es 19 (by decide) (by decide)), a7.cg ew (es 59 (by decide) (by decide)) (fun _ => rfl), ⟨⟨g1, c1.fr (eh 80 (by decide) (by decide)) (eh 81 (by decide) (by decide)) (by rw [ew]), c2.fr (es 80 (by decide) (by decide)) (es 81 (by decide) (by decide)) (es 82 (by decide) (by decide))⟩, ⟨g2, c3.fr (eh 82 (by decide) (by decide)) (eh 83 (by decide) (by decide)) (by rw [ew]), c4.fr (es 83 (by decide) (by decide)) (es 84 (by decide) (by decide)) (es 85 (by decide) (by decide))⟩, l.length, by rw [ew]; exact r0, e9, f87, hl, fun k hk => (e91 k hk).trans (f86 k hk).symm⟩, a9.fr (by rw [eh 84 (by decide) (by decide)]) (eh 85 (by decide) (by decide)) (by rw [ew]) (fun k h1 h2 => es k (by omega) (by omega)), fun n n1 n2 => (a10 n n1 n2).cg (fun k hk => by rw [eh _ (by omega) (by omega)]) (eh _ (by omega) (by omega)) (by rw [ew]) (by rw [eV]; exact Nat.le_refl _) (fun k h1 h2 => es k (by omega) (by omega))⟩
  · have hg' := hg
    unfold hCd at hg'
    rw [eh g (by omega) (by omega), ew, eL]
    exact k1 g hg
  · rw [es k (by omega) (by omega), (af k (by omega)).2]
    exact k3 k h1 h2
/-- the ring, while a failure is raised -/
theorem Rx.ring (h : Rx κ0 σ0 κ σ b V al S LT HT sp F0 st fr pt ch w v f r g) (hk : RgC κ κ' l) (hr : RgR σ σ' l) (hl : l.length ≤ 12) : Rx κ0 σ0 κ' σ' b V al S LT HT sp F0 st fr pt ch w v f r g := by
  obtain ⟨a, c, m, ⟨b1, b2, b3, b4, b5, b6⟩, fx, acc, col⟩ := h
  have es : ∀ k, k ≠ 86 → k ≠ 87 → aI σ' k = aI σ k := fun k h1 h2 => (hr.1 k (by omega)).1
  have ew : kW κ' = kW κ := by show κ'.2.2.1 = κ.2.2.1; rw [hk.1]
  exact ⟨a.ring hk hr hl, c.cg (es 54 (by decide) (by decide)) (es 56 (by decide) (by decide)) (es 57 (by decide) (by decide)), fun n n1 n2 hn => (m n n1 n2 hn).cg (congrFun (es 56 (by decide) (by decide)) n) (Nat.le_refl _), ⟨b1, b2, b3, b4, by rw [hk.2.2.1 14 (by decide)]; exact b5, b6⟩, fx, acc, col.cg (hk.2.1 84 (by decide) (by decide)) (fun h h1 h2 => ⟨hk.2.1 h (by omega) (by omega), by rw [ew]⟩) (fun k h1 h2 => es k (by omega) (by omega))⟩
theorem Rx.ro (h : Rx κ0 σ0 κ σ b V al S LT HT sp F0 st fr pt ch w v f r g) (hk : RoC κ κ' o) (hr : RoR σ σ' o) (hl : ∀ l, o = some l → l.length ≤ 12) : Rx κ0 σ0 κ' σ' b V al S LT HT sp F0 st fr pt ch w v f r g := by
  rcases hk with ⟨rfl, rfl⟩ | ⟨l, rfl, hk⟩
  · rcases hr with ⟨-, rfl⟩ | ⟨l, z, -⟩
    · exact h
    · exact absurd z (fun z => nomatch z)
  · rcases hr with ⟨z, -⟩ | ⟨l', z, hr⟩
    · exact absurd z (fun z => nomatch z)
    · have e : l = l' := Option.some.inj z
      subst e
      exact h.ring hk hr (hl l rfl)
theorem ror_flS (h : RoR σ σ' o) : RoR (flS σ F0 num val vo pl ca) (flS σ' F0 num val vo pl ca) o := h.imp (fun ⟨h1, h2⟩ => ⟨h1, by rw [h2]⟩) (fun ⟨l, h1, h2⟩ => ⟨l, h1, rgr_flS h2⟩)
theorem Mis.len (h : Mis σ V v st a o) : ∀ l, o = some l → l.length ≤ 12 := by
  rintro l rfl
  rcases h with ⟨-, z⟩ | ⟨n, -, -, ⟨-, -, z⟩ | ⟨-, l', z, -, -, h2, -⟩⟩
  · exact absurd z (fun z => nomatch z)
  · exact absurd z (fun z => nomatch z)
  · rw [Option.some.inj z]; exact h2
theorem Mis.cg (h : Mis σ V v st a o) (e : aI σ' 54 = aI σ 54) : Mis σ' V v st a o := by
  refine h.imp id (fun ⟨n, h1, h2, h3⟩ => ⟨n, h1, h2, h3.imp id (fun ⟨g1, l, g2, g3, g4, g5, g6⟩ => ⟨g1, l, g2, g3.cg _ (fun x _ => by rw [e]), g4, g5, g6⟩)⟩)
/-- what is asked for is ready, or it is a misuse -/
theorem Rn.target (h : Rn κ0 σ0 κ σ b V al S LT HT sp F0 st fr pt ch w v f r) (a : Int32) : (∃ n, (1 ≤ n ∧ n ≤ V) ∧ a = nI n ∧ st n ≤ 1) ∨ ∃ o, Mis σ V v st a o := by
  obtain ⟨bn, c, m⟩ := h.bn (x := 0)
  have hV := bn.2.1.2.2.2.2.2.2.2.1
  rcases vno a hV with ⟨n, n1, n2, rfl⟩ | hz
  · by_cases c1 : st n ≤ 1
    · exact Or.inl ⟨n, ⟨n1, n2⟩, rfl, c1⟩
    · obtain ⟨-, ⟨-, -, v3⟩, -⟩ := bn.2.2.1 n n1 n2
      by_cases c2 : 4 ≤ st n
      · exact Or.inr ⟨none, Or.inr ⟨n, ⟨n1, n2⟩, rfl, Or.inl ⟨c2, v3, rfl⟩⟩⟩
      · have hlen := c.len
        obtain ⟨h1, h2, h3, h4, h5, h6, h7⟩ := c
        have h23 : st n = 2 ∨ st n = 3 := by omega
        obtain ⟨l, l1, l2, l3, l4⟩ := lnk_pth ch h6 (h4 n n1 n2 h23)
        have hal : al ≤ 12 := bn.2.1.2.2.2.2.2.2.2.2.2.2.1
        have hr1 := bn.2.2.2.1.1
        exact Or.inr ⟨some l, Or.inr ⟨n, ⟨n1, n2⟩, rfl, Or.inr ⟨h23, l, rfl, l1, l2.trans h1, by omega, fun x hx => ⟨(h3 x (l4 x hx)).1, (h3 x (l4 x hx)).2.1⟩⟩⟩⟩
  · exact Or.inr ⟨none, Or.inl ⟨hz, rfl⟩⟩
end MISUSE
