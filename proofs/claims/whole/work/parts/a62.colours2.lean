/-! colours: a failure is made, comes beneath another -/
section COLOURS2
variable {κ0 κ κ1 κ' : Km} {σ0 σ σ1 σ' : Rm} {b V F0 F0' v p n x q g lo m : Nat} {fr fr' : Nat → List Frm} {fs r : List Frm} {f f1 : Frm} {y u num val vo pl ca : Int32} {w rz rz' : Nat → Nat} {cc : Int32}
theorem kp1_lt {it : Ite} (h : ItO F0 it) (hF : F0 ≤ 7900) (hg : F0 ≤ g) (hg2 : g < 8000) : kp1 g it = 0 := by
  unfold kp1
  refine if_neg (fun z => ?_)
  rcases h with h | ⟨h1, h2, h3⟩
  · exact z.1 h
  · obtain ⟨f, f1, f2⟩ := h3 (Or.inr z.2.1)
    rw [f2] at z
    have := (nI_eq (a := f + 1) (b := g + 1) (by omega) (by omega)).mp z.2.2
    omega
theorem kpl_lt : ∀ L : List Ite, (∀ it, it ∈ L → ItO F0 it) → F0 ≤ 7900 → F0 ≤ g → g < 8000 → kpl g L = 0 := by
  intro L
  induction L with
  | nil => intro _ _ _ _; rfl
  | cons a r ih =>
    intro h h1 h2 h3
    show kp1 g a + kpl g r = 0
    rw [kp1_lt (h a (List.mem_cons_self ..)) h1 h2 h3, ih (fun it hi => h it (List.mem_cons_of_mem _ hi)) h1 h2 h3]
theorem kps_lt : ∀ fs : List Frm, (∀ f, f ∈ fs → ∀ it, it ∈ frL f → ItO F0 it) → F0 ≤ 7900 → F0 ≤ g → g < 8000 → kps g fs = 0 := by
  intro fs
  induction fs with
  | nil => intro _ _ _ _; rfl
  | cons a r ih =>
    intro h h1 h2 h3
    show kpl g (frL a) + kps g r = 0
    rw [kpl_lt _ (h a (List.mem_cons_self ..)) h1 h2 h3, ih (fun f hf => h f (List.mem_cons_of_mem _ hf)) h1 h2 h3]
theorem cn_zero {G : Nat → Nat} : ∀ m, (∀ n, 1 ≤ n → n ≤ m → G n = 0) → cn G m = 0 := by
  intro m
  induction m with
  | zero => intro _; rfl
  | succ m ih =>
    intro h
    show cn G m + G (m + 1) = 0
    rw [ih (fun n h1 h2 => h n h1 (by omega)), h (m + 1) (by omega) (Nat.le_refl _)]
/-- the items of all voices -/
def AllI (F0 V : Nat) (fr : Nat → List Frm) : Prop := ∀ n, 1 ≤ n → n ≤ V → ∀ f, f ∈ fr n → ∀ it, it ∈ frL f → ItO F0 it
theorem Md.items {s : Nat} (h : Md κ0 σ0 σ F0 b n s fs) : ∀ f, f ∈ fs → ∀ it, it ∈ frL f → ItO F0 it := by
  intro f hf it hi
  rcases h with ⟨-, h2⟩ | ⟨-, m, h2, -⟩
  · rw [h2] at hf
    exact absurd hf List.not_mem_nil
  · cases fs with
    | nil => exact absurd hf List.not_mem_nil
    | cons a r =>
      obtain ⟨-, o1, o2⟩ := h2
      rcases List.mem_cons.mp hf with rfl | hf
      · exact o1.2.2.2.1 it hi
      · exact (o2 f hf).2.2.2.2.1 it hi
/-- a failure is made -/
theorem Col.make (h : Col κ σ V F0 fr w (fun _ => 0)) (fl : FRl κ σ F0) (hF : F0 < 7900) (hi : AllI F0 V fr) (ek : ∀ k, k ≠ 1 → kI κ' 84 k = kI κ 84 k) (e86 : ∀ h, 86 ≤ h → h ≤ 88 → kI κ' h = kI κ h ∧ kW κ' h = kW κ h) (hc : ca = -9 ∨ ∃ c, c < F0 ∧ ca = nI c ∧ w c = 0) : Col κ' (flS σ F0 num val vo pl ca) V (F0 + 1) fr (un w F0 (F0 + 1)) (fun y => if y = F0 then 1 else 0) := by
  have hl : lsn (flS σ F0 num val vo pl ca) = lsn σ := by
    refine lsn_col h fl (congrFun (flS_ne (by omega)) 0) (fun x x1 x2 => ?_)
    exact ⟨flS_ni (by omega) (by omega), flS_ni (by omega) (by omega), flS_ni (by omega) (by omega)⟩
  obtain ⟨c1, c2, c3, c4, c5⟩ := h
  have fe : ∀ q, 93 ≤ q → q ≤ 96 → aI (flS σ F0 num val vo pl ca) q F0 = if q = 93 then ca else -9 := fun q q1 q2 => by
    unfold flS
    have hq : q = 93 ∨ q = 94 ∨ q = 95 ∨ q = 96 := by omega
    rcases hq with rfl | rfl | rfl | rfl
    · rw [aI_ne (by decide), aI_ne (by decide), aI_ne (by decide), aI_eq]; rfl
    · rw [aI_ne (by decide), aI_ne (by decide), aI_eq]; rfl
    · rw [aI_ne (by decide), aI_eq]; rfl
    · rw [aI_eq]; rfl
  refine ⟨fun x hx => ?_, fun y hy => ?_, fun n f x n1 n2 hf hx x1 x2 y hy e => ?_, ?_, c5.cg ⟨ek 3 (by decide), ek 4 (by decide)⟩ e86 hl⟩
  · by_cases c : x = F0
    · subst c
      rw [fe 93 (by omega) (by omega), fe 94 (by omega) (by omega), fe 95 (by omega) (by omega), fe 96 (by omega) (by omega)]
      refine ⟨fun c d1 d2 => ?_, fun c d1 d2 => absurd d2.symm (neg9 (by omega)), fun c d1 d2 => absurd d2.symm (neg9 (by omega)), fun c d1 d2 => absurd d2.symm (neg9 (by omega))⟩
      have d2 : ca = nI c := d2
      rcases hc with z | ⟨c0, z1, z2, z3⟩
      · rw [z] at d2
        exact absurd d2.symm (neg9 (by omega))
      · rw [z2] at d2
        have := (nI_eq (a := c0) (b := c) (by omega) (by omega)).mp d2
        subst this
        rw [un_ne (by omega)]
        exact z3
    · have hx' : x < F0 := by omega
      obtain ⟨a1, a2, a3, a4⟩ := c1 x hx'
      have lt : ∀ k, k = 93 ∨ k = 94 ∨ k = 95 ∨ k = 96 → ∀ c, c < F0 + 1 → aI σ k x = nI c → c < F0 := fun k hk c d1 d2 => by
        rcases fl.edge hx' hk with z | ⟨c0, z1, z2⟩
        · rw [z] at d2
          exact absurd d2.symm (neg9 (by omega))
        · rw [z2] at d2
          have := (nI_eq (a := c0) (b := c) (by omega) (by omega)).mp d2
          omega
      rw [flS_ni (by omega) c, flS_ni (by omega) c, flS_ni (by omega) c, flS_ni (by omega) c, un_ne c]
      refine ⟨fun c d1 d2 => ?_, fun c d1 d2 => ?_, fun c d1 d2 => ?_, fun c d1 d2 => ?_⟩
      · have := lt 93 (by decide) c d1 d2
        rw [un_ne (by omega)]; exact a1 c this d2
      · have := lt 94 (by decide) c d1 d2
        rw [un_ne (by omega)]; exact a2 c this d2
      · have := lt 95 (by decide) c d1 d2
        rw [un_ne (by omega)]; exact a3 c this d2
      · have := lt 96 (by decide) c d1 d2
        rw [un_ne (by omega)]; exact a4 c this d2
  · by_cases c : y = F0
    · have ez : (fun y => if y = F0 then 1 else 0) y = 1 := if_pos c
      rw [cn_zero V (fun n n1 n2 => kps_lt (fr n) (hi n n1 n2) (by omega) (by omega) (by omega)), ez, c, un_eq]
      exact ⟨by omega, fun _ => rfl⟩
    · obtain ⟨d1, d2⟩ := c2 y (by omega)
      have ez : (fun y => if y = F0 then 1 else 0) y = 0 := if_neg c
      rw [ez, un_ne c]
      exact ⟨d1, d2⟩
  · rcases hi n n1 n2 f hf x hx with z | ⟨z1, z2, z3⟩
    · exact absurd z x1
    · obtain ⟨f0, f1, f2⟩ := z3 (Or.inl x2)
      have e := e
      rw [f2] at e
      have := (nI_eq (a := f0 + 1) (b := y + 1) (by omega) (by omega)).mp e
      rw [un_ne (by omega)]
      exact c3 n f x n1 n2 hf hx x1 x2 y (by omega) (by rw [f2]; exact e)
  · rw [show sI (flS σ F0 num val vo pl ca) 97 = sI σ 97 from congrFun (flS_ne (by omega)) 0, ek 2 (by decide)]
    exact c4.imp id (fun ⟨l, l1, l2, l3, l4⟩ => ⟨l, by omega, l2, l3, by rw [un_ne (by omega)]; exact l4⟩)
/-- all of a colour get another -/
def dye (w : Nat → Nat) (lo g : Nat) : Nat → Nat := fun x => if w x = lo + 1 then g + 1 else w x
theorem dye_0 (h : w x = 0) : dye w lo g x = 0 := by unfold dye; rw [if_neg (by omega)]; exact h
theorem dye_eq {c : Nat} (h : w c = w x) : dye w lo g c = dye w lo g x := by unfold dye; rw [h]
theorem Col.bnt (h : Col κ σ V F0 fr w rz) (fl : FRl κ σ F0) (hg : g < F0) (hlo : lo < F0) (hz : rz g = 1) (hk : 1 ≤ cn (fun n => kps lo (fr n)) V) (hk0 : ∀ y, y < F0 → cn (fun n => kps y (fr' n)) V + (if y = lo then 1 else 0) ≤ cn (fun n => kps y (fr n)) V) (h1 : ∀ n f x, 1 ≤ n → n ≤ V → f ∈ fr' n → x ∈ frL f → x.1 ≠ 0 → x.2.2.2.1 = 1 → ∃ m f0, 1 ≤ m ∧ m ≤ V ∧ f0 ∈ fr m ∧ x ∈ frL f0) (ek : kI κ' 84 = kI κ 84) (e86 : ∀ h, 86 ≤ h → h ≤ 88 → kI κ' h = kI κ h ∧ kW κ' h = kW κ h) : Col κ' (bnR σ g lo) V F0 fr' (dye w lo g) rz := by
  have hF := fl.1.2.2
  obtain ⟨k1, k2⟩ := h.2.1 lo hlo
  obtain ⟨j1, j2⟩ := h.2.1 g hg
  have wlo : w lo = lo + 1 := k2 (by omega)
  have wg : w g = g + 1 := j2 (by omega)
  have ne : g ≠ lo := fun z => by rw [z] at hz; omega
  have dlo : dye w lo g lo = g + 1 := if_pos wlo
  have dg : dye w lo g g = g + 1 := by unfold dye; rw [if_neg (by omega)]; exact wg
  have hs : ∀ x, x < F0 → ∀ c, c < F0 → aI (bnR σ g lo) 93 x = aI σ 93 x ∧ (aI (bnR σ g lo) 94 x = nI c → dye w lo g c = dye w lo g x) ∧ (aI (bnR σ g lo) 95 x = nI c → dye w lo g c = dye w lo g x) ∧ (aI (bnR σ g lo) 96 x = nI c → dye w lo g c = dye w lo g x) ∧ (w x = 0 → aI (bnR σ g lo) 94 x = aI σ 94 x ∧ aI (bnR σ g lo) 96 x = aI σ 96 x) := fun x hx c hc => by
    obtain ⟨a1, a2, a3, a4⟩ := h.1 x hx
    have lt : nI lo = nI c → dye w lo g c = g + 1 := fun z => by
      have := (nI_eq (a := lo) (b := c) (by omega) (by omega)).mp z
      rw [← this]; exact dlo
    unfold bnR
    by_cases e : aI σ 95 g = -9
    · rw [if_pos e]
      by_cases cx : x = g
      · subst cx
        rw [aI_ne (by decide), aI_ne (by decide), aI_ne (k' := 94) (k := 95) (by decide), aI_eq, aI_eq, aI_ne (k' := 96) (k := 95) (by decide), aI_ne (k' := 96) (k := 94) (by decide), dg]
        exact ⟨rfl, lt, lt, fun z => (dye_eq (a4 c hc z)).trans dg, fun z => by omega⟩
      · rw [aI_ni cx, aI_ni cx, aI_ni cx, aI_ni cx, aI_ni cx, aI_ni cx, aI_ni cx, aI_ni cx]
        exact ⟨rfl, fun z => dye_eq (a2 c hc z), fun z => dye_eq (a3 c hc z), fun z => dye_eq (a4 c hc z), fun z => ⟨rfl, rfl⟩⟩
    · rw [if_neg e]
      rcases fl.edge hg (Or.inr (Or.inr (Or.inl rfl))) with z | ⟨l, l1, l2⟩
      · exact absurd z e
      · have wl : w l = w g := (h.1 g hg).2.2.1 l l1 l2
        have dl : dye w lo g l = g + 1 := (dye_eq wl).trans dg
        rw [l2, cl_nI (by omega)]
        have p94 : aI (wI (wI σ 96 l (nI lo)) 95 g (nI lo)) 94 x = aI σ 94 x := by rw [aI_ne (by decide), aI_ne (by decide)]
        have p93 : aI (wI (wI σ 96 l (nI lo)) 95 g (nI lo)) 93 x = aI σ 93 x := by rw [aI_ne (by decide), aI_ne (by decide)]
        have p96 : aI (wI (wI σ 96 l (nI lo)) 95 g (nI lo)) 96 x = if x = l then nI lo else aI σ 96 x := by
          rw [aI_ne (by decide)]
          by_cases c : x = l
          · rw [c, aI_eq, if_pos rfl]
          · rw [aI_ni c, if_neg c]
        have p95 : aI (wI (wI σ 96 l (nI lo)) 95 g (nI lo)) 95 x = if x = g then nI lo else aI σ 95 x := by
          by_cases c : x = g
          · rw [c, aI_eq, if_pos rfl]
          · rw [aI_ni c, aI_ne (by decide), if_neg c]
        rw [p93, p94, p95, p96]
        refine ⟨rfl, fun z => dye_eq (a2 c hc z), fun z => ?_, fun z => ?_, fun z => ⟨rfl, ?_⟩⟩
        · by_cases cx : x = g
          · rw [if_pos cx] at z
            rw [lt z, cx, dg]
          · rw [if_neg cx] at z
            exact dye_eq (a3 c hc z)
        · by_cases cx : x = l
          · rw [if_pos cx] at z
            rw [lt z, cx, dl]
          · rw [if_neg cx] at z
            exact dye_eq (a4 c hc z)
        · rw [if_neg (fun cx => by rw [cx] at z; omega)]
  have hl : lsn (bnR σ g lo) = lsn σ := lsn_col h fl (congrFun (bnR_ne (by omega)) 0) (fun x x1 x2 => by
    obtain ⟨s1, -, -, -, s5⟩ := hs x x1 x x1
    exact ⟨s1, s5 x2⟩)
  obtain ⟨c1, c2, c3, c4, c5⟩ := h
  refine ⟨fun x hx => ?_, fun y hy => ?_, fun n f x n1 n2 hf hx x1 x2 y hy e => ?_, ?_, c5.cg ⟨by rw [ek], by rw [ek]⟩ e86 hl⟩
  · refine ⟨fun c d1 d2 => ?_, fun c d1 d2 => (hs x hx c d1).2.1 d2, fun c d1 d2 => (hs x hx c d1).2.2.1 d2, fun c d1 d2 => (hs x hx c d1).2.2.2.1 d2⟩
    rw [(hs x hx c d1).1] at d2
    exact dye_0 ((c1 x hx).1 c d1 d2)
  · obtain ⟨d1, d2⟩ := c2 y hy
    have := hk0 y hy
    by_cases c : y = lo
    · subst c
      rw [if_pos rfl] at this
      exact ⟨by omega, fun z => by omega⟩
    · rw [if_neg c] at this
      refine ⟨by omega, fun z => ?_⟩
      have e := d2 (by omega)
      unfold dye
      rw [if_neg (by omega)]
      exact e
  · obtain ⟨m, f0, a0, a1, a2, a3⟩ := h1 n f x n1 n2 hf hx x1 x2
    exact dye_0 (c3 m f0 x a0 a1 a2 a3 x1 x2 y hy e)
  · rw [show sI (bnR σ g lo) 97 = sI σ 97 from congrFun (bnR_ne (by omega)) 0, ek]
    exact c4.imp id (fun ⟨l, l1, l2, l3, l4⟩ => ⟨l, l1, l2, l3, dye_0 l4⟩)
end COLOURS2
