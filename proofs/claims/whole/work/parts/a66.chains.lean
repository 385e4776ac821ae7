/-! who waits for whom: the turn goes on, goes back, is handed on; what is counted -/
section CHAINS
variable {κ0 κ κ' : Km} {σ0 σ σ' : Rm} {b V S T LT HT F0 v a n x s m : Nat} {st : Nat → Nat} {fr : Nat → List Frm} {fs : List Frm} {ch : List Nat}
theorem un_self {α : Type} {f : Nat → α} : un f n (f n) = f := by
  funext k
  unfold un
  split
  · rename_i c; rw [c]
  · rfl
theorem un_un {α : Type} {f : Nat → α} {x y : α} : un (un f n x) n y = un f n y := by
  funext k
  unfold un
  split <;> rfl
theorem Lnk.on : ∀ l : List Nat, Lnk σ l → (∀ x, x ∈ l → aI σ' 54 x = aI σ 54 x) → Lnk σ' l := by
  intro l
  induction l with
  | nil => intro _ _; trivial
  | cons x r ih => intro h e; exact ⟨(e x (List.mem_cons_self ..)).trans h.1, ih h.2 (fun y hy => e y (List.mem_cons_of_mem _ hy))⟩
/-- the next of one in the chain is not its head -/
theorem Lnk.next : ∀ l : List Nat, Lnk σ l → ∀ x, x ∈ l → ∃ y, (y = 0 ∨ (y ∈ l ∧ ∀ h, l.head? = some h → l.Nodup → y ≠ h)) ∧ aI σ 54 x = nI y := by
  intro l
  induction l with
  | nil => intro _ x hx; exact absurd hx List.not_mem_nil
  | cons z r ih =>
    intro h x hx
    rcases List.mem_cons.mp hx with e | hx
    · rw [e]
      refine ⟨r.headD 0, ?_, h.1⟩
      cases r with
      | nil => exact Or.inl rfl
      | cons q r2 =>
        refine Or.inr ⟨List.mem_cons_of_mem _ (List.mem_cons_self ..), fun h0 e0 nd => ?_⟩
        have e0 : z = h0 := by injection e0
        subst e0
        exact fun z2 => (List.nodup_cons.mp nd).1 (z2 ▸ List.mem_cons_self ..)
    · obtain ⟨y, h1, h2⟩ := ih h.2 x hx
      refine ⟨y, h1.imp id (fun ⟨h3, h4⟩ => ⟨List.mem_cons_of_mem _ h3, fun h0 e0 nd => ?_⟩), h2⟩
      have e0 : z = h0 := by injection e0
      subst e0
      exact fun z2 => (List.nodup_cons.mp nd).1 (z2 ▸ h3)
theorem Chan.head (h : Chan σ V v st ch) (hv : 1 ≤ v) : ∃ r, ch = v :: r := by
  have h1 := h.1
  cases ch with
  | nil => have h1 : 0 = v := h1; omega
  | cons z r => have h1 : z = v := h1; exact ⟨r, by rw [h1]⟩
theorem Chan.nil (h : Chan σ V 0 st ch) : ch = [] := by
  cases ch with
  | nil => rfl
  | cons z r =>
    have h1 : z = 0 := h.1
    have := (h.2.2.1 z (List.mem_cons_self ..)).1
    omega
/-- the resumer of the one that has the turn -/
theorem Chan.res {r : List Nat} (h : Chan σ V v st (v :: r)) : aI σ 54 v = nI (r.headD 0) ∧ (r.headD 0 = 0 ↔ r = []) ∧ r.headD 0 ≤ V ∧ (r ≠ [] → st (r.headD 0) = 3 ∧ r.headD 0 ≠ v ∧ 1 ≤ r.headD 0) := by
  obtain ⟨h1, h2, h3, h4, h5, h6, h7⟩ := h
  cases r with
  | nil => exact ⟨h6.1, ⟨fun _ => rfl, fun _ => rfl⟩, Nat.zero_le _, fun z => absurd rfl z⟩
  | cons q r2 =>
    have hq := h3 q (List.mem_cons_of_mem _ (List.mem_cons_self ..))
    have ne : q ≠ v := fun z => (List.nodup_cons.mp h2).1 (z ▸ List.mem_cons_self ..)
    refine ⟨h6.1, ⟨fun z => ?_, fun z => absurd z (List.cons_ne_nil _ _)⟩, hq.2.1, fun _ => ⟨?_, ne, hq.1⟩⟩
    · have z : q = 0 := z
      omega
    · show st q = 3
      have := (h5 q (List.mem_cons_of_mem _ (List.mem_cons_self ..)))
      rcases hq.2.2 with z | z
      · exact absurd (this.mp z) ne
      · exact z
/-- the turn goes back -/
theorem Chan.back {r : List Nat} (h : Chan σ V v st (v :: r)) (hs : s = 1 ∨ 4 ≤ s) (h1c : s = 1 → aI σ 57 v ≠ 1) (e54 : ∀ x, x ≠ v → aI σ' 54 x = aI σ 54 x) (e54v : aI σ' 54 v = aI σ 54 v) (e56 : aI σ' 56 = aI σ 56) (e57 : aI σ' 57 = aI σ 57) : Chan σ' V (r.headD 0) (if r = [] then un st v s else un (un st v s) (r.headD 0) 2) r := by
  have hr := h.res
  obtain ⟨h1, h2, h3, h4, h5, h6, h7⟩ := h
  have nd := List.nodup_cons.mp h2
  have ee : aI σ' 54 = aI σ 54 := by
    funext x
    by_cases c : x = v
    · rw [c, e54v]
    · exact e54 x c
  cases r with
  | nil =>
    rw [if_pos rfl]
    refine ⟨rfl, List.nodup_nil, fun x hx => absurd hx List.not_mem_nil, fun x x1 x2 hx => ?_, fun x hx => absurd hx List.not_mem_nil, trivial, fun x x1 x2 hx => ?_⟩
    · by_cases c : x = v
      · rw [c, un_eq] at hx; omega
      · rw [un_ne c] at hx
        have := h4 x x1 x2 hx
        rcases List.mem_cons.mp this with z | z
        · exact absurd z c
        · exact z
    · rw [e57] at hx
      obtain ⟨a1, a2, a3⟩ := h7 x x1 x2 hx
      rw [ee, e56]
      by_cases c : x = v
      · subst c
        rw [un_eq]
        exact ⟨by omega, fun z => h1c z hx, fun z => by
          rcases hs with z2 | z2
          · exact absurd hx (h1c z2)
          · omega⟩
      · rw [un_ne c]; exact ⟨a1, a2, a3⟩
  | cons q r2 =>
    rw [if_neg (List.cons_ne_nil _ _)]
    have eq0 : (q :: r2).headD 0 = q := rfl
    rw [eq0] at hr ⊢
    have hq := hr.2.2.2 (List.cons_ne_nil _ _)
    have sx : ∀ x, x ≠ v → x ≠ q → un (un st v s) q 2 x = st x := fun x c1 c2 => by rw [un_ne c2, un_ne c1]
    refine ⟨rfl, nd.2, fun x hx => ?_, fun x x1 x2 hx => ?_, fun x hx => ?_, h6.2.cg ee _, fun x x1 x2 hx => ?_⟩
    · have hxv : x ≠ v := fun z => nd.1 (z ▸ hx)
      have := h3 x (List.mem_cons_of_mem _ hx)
      refine ⟨this.1, this.2.1, ?_⟩
      by_cases c : x = q
      · rw [c, un_eq]; exact Or.inl rfl
      · rw [sx x hxv c]; exact this.2.2
    · by_cases c : x = q
      · rw [c]; exact List.mem_cons_self ..
      · by_cases c2 : x = v
        · rw [c2, un_ne (fun z => hq.2.1 z.symm), un_eq] at hx; omega
        · rw [sx x c2 c] at hx
          rcases List.mem_cons.mp (h4 x x1 x2 hx) with z | z
          · exact absurd z c2
          · exact z
    · have hxv : x ≠ v := fun z => nd.1 (z ▸ hx)
      by_cases c : x = q
      · rw [c, un_eq]; exact ⟨fun _ => rfl, fun _ => rfl⟩
      · rw [sx x hxv c]
        have := h5 x (List.mem_cons_of_mem _ hx)
        exact ⟨fun z => absurd (this.mp z) hxv, fun z => absurd z c⟩
    · rw [e57] at hx
      obtain ⟨a1, a2, a3⟩ := h7 x x1 x2 hx
      rw [ee, e56]
      by_cases c : x = q
      · rw [c, un_eq]
        rw [c] at a3
        exact ⟨by omega, by omega, fun _ => a3 (by omega)⟩
      · by_cases c2 : x = v
        · subst c2
          rw [un_ne c, un_eq]
          exact ⟨by omega, fun z => h1c z hx, fun z => by
            rcases hs with z2 | z2
            · exact absurd hx (h1c z2)
            · omega⟩
        · rw [sx x c2 c]; exact ⟨a1, a2, a3⟩
/-- the turn goes on to a, which v resumes -/
theorem Chan.push {r : List Nat} (h : Chan σ V v st (v :: r)) (hV : V ≤ 60) (ha : 1 ≤ a ∧ a ≤ V) (has : st a = 0 ∨ st a = 1) (e54 : ∀ x, x ≠ a → aI σ' 54 x = aI σ 54 x) (e54a : aI σ' 54 a = nI v) (e56 : ∀ x, x ≠ v → aI σ' 56 x = aI σ 56 x) (e57 : ∀ x, x ≠ a → aI σ' 57 x = aI σ 57 x) (h57 : aI σ' 57 a = 1 → aI σ' 56 v = 3) : Chan σ' V a (un (un st v 3) a 2) (a :: v :: r) := by
  obtain ⟨h1, h2, h3, h4, h5, h6, h7⟩ := id h
  have hv := h3 v (List.mem_cons_self ..)
  have stv : st v = 2 := (h5 v (List.mem_cons_self ..)).mpr rfl
  have nav : a ≠ v := fun z => by rw [z, stv] at has; omega
  have nin : a ∉ v :: r := fun z => by have := (h3 a z).2.2; omega
  have sx : ∀ x, x ≠ v → x ≠ a → un (un st v 3) a 2 x = st x := fun x c1 c2 => by rw [un_ne c2, un_ne c1]
  refine ⟨rfl, List.nodup_cons.mpr ⟨nin, h2⟩, fun x hx => ?_, fun x x1 x2 hx => ?_, fun x hx => ?_, ⟨e54a, h6.on _ (fun x hx => e54 x (fun z => nin (z ▸ hx)))⟩, fun x x1 x2 hx => ?_⟩
  · rcases List.mem_cons.mp hx with c | hx
    · rw [c, un_eq]; exact ⟨ha.1, ha.2, Or.inl rfl⟩
    · have hxa : x ≠ a := fun z => nin (z ▸ hx)
      have := h3 x hx
      refine ⟨this.1, this.2.1, ?_⟩
      by_cases c : x = v
      · rw [c, un_ne (fun z => nav z.symm), un_eq]; exact Or.inr rfl
      · rw [sx x c hxa]; exact this.2.2
  · by_cases c : x = a
    · rw [c]; exact List.mem_cons_self ..
    · refine List.mem_cons_of_mem _ ?_
      by_cases c2 : x = v
      · rw [c2]; exact List.mem_cons_self ..
      · rw [sx x c2 c] at hx
        exact h4 x x1 x2 hx
  · rcases List.mem_cons.mp hx with c | hx
    · rw [c, un_eq]; exact ⟨fun _ => rfl, fun _ => rfl⟩
    · have hxa : x ≠ a := fun z => nin (z ▸ hx)
      by_cases c : x = v
      · rw [c, un_ne (fun z => nav z.symm), un_eq]; exact ⟨fun z => by omega, fun z => absurd z.symm nav⟩
      · rw [sx x c hxa]
        exact ⟨fun z => absurd ((h5 x hx).mp z) c, fun z => absurd z hxa⟩
  · by_cases c : x = a
    · subst c
      rw [un_eq]
      exact ⟨by omega, by omega, fun _ => Or.inr ⟨v, hv.1, hv.2.1, e54a, h57 hx⟩⟩
    · rw [e57 x c] at hx
      obtain ⟨a1, a2, a3⟩ := h7 x x1 x2 hx
      rw [e54 x c]
      have key : st x ≤ 3 → (aI σ 54 x = 0 ∨ ∃ y, 1 ≤ y ∧ y ≤ V ∧ aI σ 54 x = nI y ∧ aI σ' 56 y = 3) := fun hx3 => by
        rcases a3 hx3 with z | ⟨y, y1, y2, y3, y4⟩
        · exact Or.inl z
        · refine Or.inr ⟨y, y1, y2, y3, ?_⟩
          have hin : x ∈ v :: r := h4 x x1 x2 (by omega)
          obtain ⟨y', p1, p2⟩ := h6.next _ x hin
          rw [y3] at p2
          have ey : y = y' := (nI_eq (by omega) (by
            rcases p1 with z | ⟨z, -⟩
            · omega
            · have := (h3 y' z).2.1; omega)).mp p2
          have : y ≠ v := by
            rcases p1 with z | ⟨-, z⟩
            · omega
            · rw [ey]; exact z v rfl h2
          rw [e56 y this]; exact y4
      by_cases c2 : x = v
      · subst c2
        rw [un_ne c, un_eq]
        exact ⟨by omega, by omega, fun _ => key (by omega)⟩
      · rw [sx x c2 c]
        exact ⟨a1, a2, key⟩
/-- the turn goes on to a, from the desk -/
theorem Chan.desk (h : Chan σ V 0 st []) (ha : 1 ≤ a ∧ a ≤ V) (has : st a = 0 ∨ st a = 1) (e54 : ∀ x, x ≠ a → aI σ' 54 x = aI σ 54 x) (e54a : aI σ' 54 a = 0) (e56 : aI σ' 56 = aI σ 56) (e57 : ∀ x, x ≠ a → aI σ' 57 x = aI σ 57 x) : Chan σ' V a (un st a 2) [a] := by
  obtain ⟨h1, h2, h3, h4, h5, h6, h7⟩ := h
  refine ⟨rfl, List.nodup_cons.mpr ⟨List.not_mem_nil, List.nodup_nil⟩, fun x hx => ?_, fun x x1 x2 hx => ?_, fun x hx => ?_, ⟨e54a, trivial⟩, fun x x1 x2 hx => ?_⟩
  · rw [List.mem_singleton.mp hx, un_eq]; exact ⟨ha.1, ha.2, Or.inl rfl⟩
  · by_cases c : x = a
    · rw [c]; exact List.mem_singleton.mpr rfl
    · rw [un_ne c] at hx
      exact absurd (h4 x x1 x2 hx) List.not_mem_nil
  · rw [List.mem_singleton.mp hx, un_eq]; exact ⟨fun _ => rfl, fun _ => rfl⟩
  · by_cases c : x = a
    · subst c
      rw [un_eq]
      exact ⟨by omega, by omega, fun _ => Or.inl e54a⟩
    · rw [e57 x c] at hx
      obtain ⟨a1, a2, a3⟩ := h7 x x1 x2 hx
      rw [un_ne c, e54 x c, e56]
      exact ⟨a1, a2, a3⟩
/-- the turn is handed on -/
theorem Chan.hand {r : List Nat} (h : Chan σ V v st (v :: r)) (ha : 1 ≤ a ∧ a ≤ V) (has : st a = 0 ∨ st a = 1) (hc : aI σ 57 v ≠ 1) (hca : aI σ 57 a ≠ 1) (e54 : ∀ x, x ≠ a → aI σ' 54 x = aI σ 54 x) (e54a : aI σ' 54 a = aI σ 54 v) (e56 : aI σ' 56 = aI σ 56) (e57 : aI σ' 57 = aI σ 57) : Chan σ' V a (un (un st v 1) a 2) (a :: r) := by
  obtain ⟨h1, h2, h3, h4, h5, h6, h7⟩ := id h
  have nd := List.nodup_cons.mp h2
  have stv : st v = 2 := (h5 v (List.mem_cons_self ..)).mpr rfl
  have nav : a ≠ v := fun z => by rw [z, stv] at has; omega
  have nin : a ∉ v :: r := fun z => by have := (h3 a z).2.2; omega
  have sx : ∀ x, x ≠ v → x ≠ a → un (un st v 1) a 2 x = st x := fun x c1 c2 => by rw [un_ne c2, un_ne c1]
  refine ⟨rfl, List.nodup_cons.mpr ⟨fun z => nin (List.mem_cons_of_mem _ z), nd.2⟩, fun x hx => ?_, fun x x1 x2 hx => ?_, fun x hx => ?_, ⟨e54a.trans h6.1, h6.2.on _ (fun x hx => e54 x (fun z => nin (List.mem_cons_of_mem _ (z ▸ hx))))⟩, fun x x1 x2 hx => ?_⟩
  · rcases List.mem_cons.mp hx with c | hx
    · rw [c, un_eq]; exact ⟨ha.1, ha.2, Or.inl rfl⟩
    · have hxa : x ≠ a := fun z => nin (List.mem_cons_of_mem _ (z ▸ hx))
      have hxv : x ≠ v := fun z => nd.1 (z ▸ hx)
      have := h3 x (List.mem_cons_of_mem _ hx)
      rw [sx x hxv hxa]; exact this
  · by_cases c : x = a
    · rw [c]; exact List.mem_cons_self ..
    · refine List.mem_cons_of_mem _ ?_
      by_cases c2 : x = v
      · rw [c2, un_ne (fun z => nav z.symm), un_eq] at hx; omega
      · rw [sx x c2 c] at hx
        rcases List.mem_cons.mp (h4 x x1 x2 hx) with z | z
        · exact absurd z c2
        · exact z
  · rcases List.mem_cons.mp hx with c | hx
    · rw [c, un_eq]; exact ⟨fun _ => rfl, fun _ => rfl⟩
    · have hxa : x ≠ a := fun z => nin (List.mem_cons_of_mem _ (z ▸ hx))
      have hxv : x ≠ v := fun z => nd.1 (z ▸ hx)
      rw [sx x hxv hxa]
      exact ⟨fun z => absurd ((h5 x (List.mem_cons_of_mem _ hx)).mp z) hxv, fun z => absurd z hxa⟩
  · rw [e57] at hx
    have c : x ≠ a := fun z => hca (z ▸ hx)
    have c2 : x ≠ v := fun z => hc (z ▸ hx)
    obtain ⟨a1, a2, a3⟩ := h7 x x1 x2 hx
    rw [e54 x c, e56, sx x c2 c]
    exact ⟨a1, a2, a3⟩
/-- one that is not in the chain is over, or made, or only its numbers are others -/
theorem Chan.side (h : Chan σ V T st ch) (hn : n ∉ ch) (hs : s = 0 ∨ s = 1 ∨ 4 ≤ s) (hc : s < 4 → aI σ 57 n ≠ 1) (e54 : aI σ' 54 = aI σ 54) (e56 : aI σ' 56 = aI σ 56) (e57 : aI σ' 57 = aI σ 57) : Chan σ' V T (un st n s) ch := by
  obtain ⟨h1, h2, h3, h4, h5, h6, h7⟩ := h
  refine ⟨h1, h2, fun x hx => ?_, fun x x1 x2 hx => ?_, fun x hx => ?_, h6.cg e54 _, fun x x1 x2 hx => ?_⟩
  · rw [un_ne (fun z : x = n => hn (z ▸ hx))]; exact h3 x hx
  · by_cases c : x = n
    · rw [c, un_eq] at hx; omega
    · rw [un_ne c] at hx; exact h4 x x1 x2 hx
  · rw [un_ne (fun z : x = n => hn (z ▸ hx))]; exact h5 x hx
  · rw [e57] at hx
    obtain ⟨a1, a2, a3⟩ := h7 x x1 x2 hx
    rw [e54, e56]
    by_cases c : x = n
    · subst c
      rw [un_eq]
      by_cases d : s < 4
      · exact absurd hx (hc d)
      · exact ⟨by omega, by omega, fun z => by omega⟩
    · rw [un_ne c]; exact ⟨a1, a2, a3⟩
/-- the chain is no longer than those that are not over -/
theorem Chan.len (h : Chan σ V T st ch) : ch.length ≤ cn (aliv st) V := by
  obtain ⟨h1, h2, h3, h4, h5, h6, h7⟩ := h
  refine cn_mem ch (aliv st) V h2 (fun x hx => ⟨(h3 x hx).1, (h3 x hx).2.1, ?_⟩)
  have := (h3 x hx).2.2
  unfold aliv
  rw [if_pos (by omega)]
  exact Nat.le_refl _
/-- what is counted, of one voice -/
def vA (s : Nat) (fs : List Frm) : Nat := arm fs + if s = 0 then 1 else 0
def vW (s : Nat) (fs : List Frm) : Nat := fws fs + if s = 0 then 9800 else 0
theorem arm_un2 (hv : 1 ≤ n ∧ n ≤ V) : cn (vArm (un st n s) (un fr n fs)) V + vA (st n) (fr n) = cn (vArm st fr) V + vA s fs := by
  have e1 := cn_up (g := vArm st fr) (g' := vArm (un st n s) (un fr n fs)) (n := n) (fun k hk => by unfold vArm; rw [un_ne hk, un_ne hk]) V hv.1 hv.2
  have e4 : vArm (un st n s) (un fr n fs) n = vA s fs := by unfold vArm vA; rw [un_eq, un_eq]
  rw [e4] at e1
  exact e1
theorem pot_un2 (hv : 1 ≤ n ∧ n ≤ V) : pot V S (un st n s) (un fr n fs) + vW (st n) (fr n) = pot V S st fr + vW s fs := by
  have e1 := cn_up (g := vWt st fr) (g' := vWt (un st n s) (un fr n fs)) (n := n) (fun k hk => by unfold vWt; rw [un_ne hk, un_ne hk]) V hv.1 hv.2
  have e4 : vWt (un st n s) (un fr n fs) n = vW s fs := by unfold vWt vW; rw [un_eq, un_eq]
  have e5 : vWt st fr n = vW (st n) (fr n) := rfl
  rw [e4, e5] at e1
  unfold pot
  omega
theorem vA_pos (h : s ≠ 0) : vA s fs = arm fs := by unfold vA; rw [if_neg h]; rfl
theorem vW_pos (h : s ≠ 0) : vW s fs = fws fs := by unfold vW; rw [if_neg h]; rfl
theorem vA_0 : vA 0 fs = arm fs + 1 := rfl
theorem vW_0 : vW 0 fs = fws fs + 9800 := rfl
end CHAINS
