/-! FRAMES of a voice: what lies in the class's cells -/
/-- an item: (0, ..) the voice x of an each; (1, t, h, ph, x) a guard: its try, its handlers, its phase, what it keeps -/
abbrev Ite : Type := Nat × Nat × Nat × Nat × Int32
/-- a call: body, act of the class, act of the reference, place, variables (how many, which), items, operands, whether inside a statement, what it waits for -/
abbrev Frm : Type := Nat × Nat × Nat × Int32 × Nat × (Nat → Int32) × List Ite × List Int32 × Nat × Nat
abbrev frB (f : Frm) : Nat := f.1
abbrev frI (f : Frm) : Nat := f.2.1
abbrev frJ (f : Frm) : Nat := f.2.2.1
abbrev frP (f : Frm) : Int32 := f.2.2.2.1
abbrev frN (f : Frm) : Nat := f.2.2.2.2.1
abbrev frV (f : Frm) : Nat → Int32 := f.2.2.2.2.2.1
abbrev frL (f : Frm) : List Ite := f.2.2.2.2.2.2.1
abbrev frO (f : Frm) : List Int32 := f.2.2.2.2.2.2.2.1
abbrev frS (f : Frm) : Nat := f.2.2.2.2.2.2.2.2.1
abbrev frM (f : Frm) : Nat := f.2.2.2.2.2.2.2.2.2
/-- cells of an item, of items; the guard behind them -/
def isz (x : Ite) : Nat := if x.1 = 0 then 1 else 4
def psz : List Ite → Nat
  | [] => 0
  | x :: r => isz x + psz r
def gdo : Nat → Int32 → List Ite → Int32
  | _, g, [] => g
  | p, g, x :: r => gdo (p + isz x) (if x.1 = 0 then g else nI p) r
def ItC (c : Nat → Int32) (p : Nat) (g : Int32) (x : Ite) : Prop := (x.1 = 0 → c p = x.2.2.2.2) ∧ (x.1 ≠ 0 → c p = g ∧ c (p + 1) = nI x.2.2.1 ∧ c (p + 2) = nI x.2.2.2.1 ∧ c (p + 3) = x.2.2.2.2)
def ItsC (c : Nat → Int32) : Nat → Int32 → List Ite → Prop
  | _, _, [] => True
  | p, g, x :: r => ItC c p g x ∧ ItsC c (p + isz x) (if x.1 = 0 then g else nI p) r
def fsz (f : Frm) : Nat := 4 + frN f + psz (frL f) + (frO f).length
/-- of calls, the innermost first, from o on: their cells; the guard; the base; the act -/
def tsz (o : Nat) : List Frm → Nat
  | [] => o
  | f :: r => tsz o r + fsz f
def tgd (o : Nat) : List Frm → Int32
  | [] => -9
  | f :: r => gdo (tsz o r + 4 + frN f) (tgd o r) (frL f)
def bse (o : Nat) : List Frm → Nat
  | [] => 0
  | _ :: r => tsz o r
def pcs : List Frm → Int32
  | [] => -9
  | f :: _ => nI (frI f)
def FrC (c : Nat → Int32) (bs : Nat) (g cb gb : Int32) (f : Frm) : Prop := (c bs = nI (frN f) ∧ c (bs + 1) = gb ∧ c (bs + 2) = cb ∧ c (bs + 3) = frP f) ∧ (∀ k, k < frN f → c (bs + 4 + k) = frV f k) ∧ ItsC c (bs + 4 + frN f) g (frL f) ∧ ∀ k, k < (frO f).length → c (bs + 4 + frN f + psz (frL f) + k) = (frO f).getD k 0
def FsC (c : Nat → Int32) (o : Nat) : List Frm → Prop
  | [] => True
  | f :: r => FsC c o r ∧ FrC c (tsz o r) (tgd o r) (nI (bse o r)) (pcs r) f
/-- voice n of the class has these calls -/
def VK (κ : Km) (n : Nat) (fs : List Frm) : Prop := ∃ c o, o ≤ 1 ∧ FsC c o fs ∧ Vc κ n c (tsz o fs) (bse o fs) (tgd o fs) (pcs fs) fs.length
section FRAMES
variable {c c' : Nat → Int32} {g : Int32} {p o : Nat}
theorem psz_app : ∀ L M : List Ite, psz (L ++ M) = psz L + psz M := by
  intro L M
  induction L with
  | nil => show psz M = 0 + psz M; omega
  | cons x r ih => show isz x + psz (r ++ M) = isz x + psz r + psz M; rw [ih]; omega
theorem gdo_app : ∀ (L M : List Ite) (p : Nat) (g : Int32), gdo p g (L ++ M) = gdo (p + psz L) (gdo p g L) M := by
  intro L M
  induction L with
  | nil => intro p g; rfl
  | cons x r ih =>
    intro p g
    show gdo (p + isz x) (if x.1 = 0 then g else nI p) (r ++ M) = gdo (p + (isz x + psz r)) (gdo (p + isz x) (if x.1 = 0 then g else nI p) r) M
    rw [ih, Nat.add_assoc]
theorem ItsC_app : ∀ (L M : List Ite) (p : Nat) (g : Int32), ItsC c p g (L ++ M) ↔ ItsC c p g L ∧ ItsC c (p + psz L) (gdo p g L) M := by
  intro L M
  induction L with
  | nil => intro p g; exact ⟨fun h => ⟨trivial, h⟩, fun h => h.2⟩
  | cons x r ih =>
    intro p g
    have h := ih (p + isz x) (if x.1 = 0 then g else nI p)
    have e : p + psz (x :: r) = p + isz x + psz r := by show p + (isz x + psz r) = _; omega
    rw [e]
    constructor
    · rintro ⟨a, b⟩
      exact ⟨⟨a, (h.mp b).1⟩, (h.mp b).2⟩
    · rintro ⟨⟨a, b1⟩, b2⟩
      exact ⟨a, h.mpr ⟨b1, b2⟩⟩
theorem ItC.cg {x : Ite} (h : ItC c p g x) (e : ∀ k, p ≤ k → k < p + isz x → c' k = c k) : ItC c' p g x := by
  unfold isz at e
  refine ⟨fun z => ?_, fun z => ?_⟩
  · rw [if_pos z] at e
    rw [e p (by omega) (by omega)]
    exact h.1 z
  · rw [if_neg z] at e
    rw [e p (by omega) (by omega), e (p + 1) (by omega) (by omega), e (p + 2) (by omega) (by omega), e (p + 3) (by omega) (by omega)]
    exact h.2 z
theorem ItsC.cg : ∀ (L : List Ite) (p : Nat) (g : Int32), ItsC c p g L → (∀ k, p ≤ k → k < p + psz L → c' k = c k) → ItsC c' p g L := by
  intro L
  induction L with
  | nil => intro p g _ _; trivial
  | cons x r ih =>
    intro p g h e
    have e' : psz (x :: r) = isz x + psz r := rfl
    exact ⟨h.1.cg (fun k h1 h2 => e k h1 (by omega)), ih _ _ h.2 (fun k h1 h2 => e k (by omega) (by omega))⟩
theorem FrC.cg {bs : Nat} {g cb gb : Int32} {f : Frm} (h : FrC c bs g cb gb f) (e : ∀ k, bs ≤ k → k < bs + fsz f → c' k = c k) : FrC c' bs g cb gb f := by
  unfold fsz at e
  obtain ⟨⟨h1, h2, h3, h4⟩, h5, h6, h7⟩ := h
  refine ⟨⟨?_, ?_, ?_, ?_⟩, fun k hk => ?_, ItsC.cg _ _ _ h6 (fun k k1 k2 => e k (by omega) (by omega)), fun k hk => ?_⟩
  · rw [e bs (by omega) (by omega)]; exact h1
  · rw [e (bs + 1) (by omega) (by omega)]; exact h2
  · rw [e (bs + 2) (by omega) (by omega)]; exact h3
  · rw [e (bs + 3) (by omega) (by omega)]; exact h4
  · rw [e _ (by omega) (by omega)]; exact h5 k hk
  · rw [e _ (by omega) (by omega)]; exact h7 k hk
theorem FsC.cg : ∀ (fs : List Frm), FsC c o fs → (∀ k, k < tsz o fs → c' k = c k) → FsC c' o fs := by
  intro fs
  induction fs with
  | nil => intro _ _; trivial
  | cons f r ih =>
    intro h e
    have e' : tsz o (f :: r) = tsz o r + fsz f := rfl
    exact ⟨ih h.1 (fun k hk => e k (by omega)), h.2.cg (fun k h1 h2 => e k (by omega))⟩
theorem getD_app1 {O : List Int32} {x : Int32} {k : Nat} (hk : k < O.length) : (O ++ [x]).getD k 0 = O.getD k 0 := by
  rw [List.getD_eq_getElem?_getD, List.getD_eq_getElem?_getD, List.getElem?_append_left hk]
theorem getD_app2 {O : List Int32} {x : Int32} : (O ++ [x]).getD O.length 0 = x := by
  rw [List.getD_eq_getElem?_getD, List.getElem?_append_right (Nat.le_refl _), Nat.sub_self]
  rfl
/-- the guard lies below -/
theorem gdo_bd : ∀ (L : List Ite) (p : Nat) (g : Int32), gdo p g L = g ∨ ∃ q, p ≤ q ∧ q < p + psz L ∧ gdo p g L = nI q := by
  intro L
  induction L with
  | nil => intro p g; exact Or.inl rfl
  | cons x r ih =>
    intro p g
    have e' : psz (x :: r) = isz x + psz r := rfl
    have pos : 1 ≤ isz x := by unfold isz; split <;> omega
    by_cases z : x.1 = 0
    · have e2 : gdo p g (x :: r) = gdo (p + isz x) g r := by
        show gdo (p + isz x) (if x.1 = 0 then g else nI p) r = _
        rw [if_pos z]
      rcases ih (p + isz x) g with h | ⟨q, h1, h2, h3⟩
      · exact Or.inl (e2.trans h)
      · exact Or.inr ⟨q, by omega, by omega, e2.trans h3⟩
    · have e2 : gdo p g (x :: r) = gdo (p + isz x) (nI p) r := by
        show gdo (p + isz x) (if x.1 = 0 then g else nI p) r = _
        rw [if_neg z]
      rcases ih (p + isz x) (nI p) with h | ⟨q, h1, h2, h3⟩
      · exact Or.inr ⟨p, by omega, by omega, e2.trans h⟩
      · exact Or.inr ⟨q, by omega, by omega, e2.trans h3⟩
/-- no guard among them -/
def noG (L : List Ite) : Prop := ∀ x, x ∈ L → x.1 = 0
theorem gdo_noG : ∀ (L : List Ite) (p : Nat) (g : Int32), noG L → gdo p g L = g := by
  intro L
  induction L with
  | nil => intro p g _; rfl
  | cons x r ih =>
    intro p g h
    show gdo (p + isz x) (if x.1 = 0 then g else nI p) r = g
    rw [if_pos (h x (List.mem_cons_self ..))]
    exact ih _ _ (fun y hy => h y (List.mem_cons_of_mem _ hy))
/-- the last guard -/
theorem gdo_last {L0 Es : List Ite} {x : Ite} (hx : x.1 ≠ 0) (he : noG Es) : gdo p g (L0 ++ x :: Es) = nI (p + psz L0) := by
  rw [gdo_app]
  show gdo (p + psz L0 + isz x) (if x.1 = 0 then gdo p g L0 else nI (p + psz L0)) Es = _
  rw [if_neg hx, gdo_noG Es _ _ he]
theorem split_G : ∀ L : List Ite, noG L ∨ ∃ L0 x Es, L = L0 ++ x :: Es ∧ x.1 ≠ 0 ∧ noG Es := by
  intro L
  induction L with
  | nil => exact Or.inl (fun x h => absurd h List.not_mem_nil)
  | cons y r ih =>
    rcases ih with h | ⟨L0, x, Es, h1, h2, h3⟩
    · by_cases z : y.1 = 0
      · exact Or.inl (fun x hx => by
          rcases List.mem_cons.mp hx with e | e
          · rw [e]; exact z
          · exact h x e)
      · exact Or.inr ⟨[], y, r, rfl, z, h⟩
    · exact Or.inr ⟨y :: L0, x, Es, by rw [h1]; rfl, h2, h3⟩
/-- guards of calls lie below the next base -/
theorem tgd_lt : ∀ fs : List Frm, tsz o fs < 1000000 → tgd o fs = -9 ∨ ∃ q, q < tsz o fs ∧ tgd o fs = nI q := by
  intro fs
  induction fs with
  | nil => intro _; exact Or.inl rfl
  | cons f r ih =>
    intro h
    have e' : tsz o (f :: r) = tsz o r + fsz f := rfl
    unfold fsz at e'
    rcases gdo_bd (frL f) (tsz o r + 4 + frN f) (tgd o r) with h1 | ⟨q, h1, h2, h3⟩
    · have h1' : tgd o (f :: r) = tgd o r := h1
      rcases ih (by omega) with h2 | ⟨q, h2, h3⟩
      · exact Or.inl (h1'.trans h2)
      · exact Or.inr ⟨q, by omega, h1'.trans h3⟩
    · exact Or.inr ⟨q, by omega, h3⟩
theorem tsz_o : ∀ fs : List Frm, tsz o fs = o + tsz 0 fs := by
  intro fs
  induction fs with
  | nil => rfl
  | cons f r ih => show tsz o r + fsz f = o + (tsz 0 r + fsz f); rw [ih]; omega
/-- what the innermost catch keeps -/
def cau (a : Int32) : List Ite → Int32
  | [] => a
  | x :: r => cau (if x.1 ≠ 0 ∧ x.2.2.2.1 = 1 then x.2.2.2.2 else a) r
theorem cau_app : ∀ (L M : List Ite) (a : Int32), cau a (L ++ M) = cau (cau a L) M := by
  intro L M
  induction L with
  | nil => intro a; rfl
  | cons x r ih => intro a; exact ih _
theorem cau_noG : ∀ (L : List Ite) (a : Int32), noG L → cau a L = a := by
  intro L
  induction L with
  | nil => intro a _; rfl
  | cons x r ih =>
    intro a h
    show cau (if x.1 ≠ 0 ∧ x.2.2.2.1 = 1 then x.2.2.2.2 else a) r = a
    rw [if_neg (fun z => z.1 (h x (List.mem_cons_self ..)))]
    exact ih _ (fun y hy => h y (List.mem_cons_of_mem _ hy))
theorem cau_last {L0 Es : List Ite} {x : Ite} {a : Int32} (hx : x.1 ≠ 0) (he : noG Es) : cau a (L0 ++ x :: Es) = if x.2.2.2.1 = 1 then x.2.2.2.2 else cau a L0 := by
  rw [cau_app]
  show cau (if x.1 ≠ 0 ∧ x.2.2.2.1 = 1 then x.2.2.2.2 else cau a L0) Es = _
  rw [cau_noG _ _ he]
  by_cases z : x.2.2.2.1 = 1
  · rw [if_pos ⟨hx, z⟩, if_pos z]
  · rw [if_neg (fun y => z y.2), if_neg z]
end FRAMES
