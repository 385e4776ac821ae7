/-! the reference's calls of a voice -/
abbrev itm (x : Ite) : Itm := if x.1 = 0 then (0, 0, 0, 0) else (1, x.2.1, x.2.2.1, min x.2.2.2.1 2)
abbrev ecI (L : List Ite) : Nat := ecn (L.map itm)
abbrev ccI (L : List Ite) : Nat := ccn (L.map itm)
def gct (x : Ite) : Nat := if x.1 = 0 then 0 else 1
def ect (x : Ite) : Nat := if x.1 = 0 then 1 else 0
def cct (x : Ite) : Nat := if x.1 ≠ 0 ∧ x.2.2.2.1 = 1 then 1 else 0
/-- guards among items -/
def gcn : List Ite → Nat
  | [] => 0
  | x :: r => gct x + gcn r
/-- an item of the call at c of part p: its guard's number, eaches and catches before it -/
def ItR (σ : Rm) (p c gi e cc : Nat) (x : Ite) : Prop := (x.1 = 0 → aI σ 66 (40 * c + 12 + e) = x.2.2.2.2) ∧ (x.1 ≠ 0 → aI σ 69 (1500 * p + gi) = nI x.2.1 ∧ aI σ 70 (1500 * p + gi) = nI (min x.2.2.2.1 2) ∧ (x.2.2.2.1 = 1 → aI σ 67 (25 * c + cc) = x.2.2.2.2 - 1) ∧ (x.2.2.2.1 = 2 → aI σ 71 (1500 * p + gi) = 0) ∧ (x.2.2.2.1 = 3 → aI σ 71 (1500 * p + gi) = 1 ∧ aI σ 72 (1500 * p + gi) = x.2.2.2.2 - 1) ∧ (x.2.2.2.1 = 4 → aI σ 71 (1500 * p + gi) = 2 ∧ aI σ 72 (1500 * p + gi) = x.2.2.2.2))
def ItsR (σ : Rm) (p c : Nat) : Nat → Nat → Nat → List Ite → Prop
  | _, _, _, [] => True
  | gi, e, cc, x :: r => ItR σ p c gi e cc x ∧ ItsR σ p c (gi + gct x) (e + ect x) (cc + cct x) r
/-- bounds of a call -/
def FB (f : Frm) : Prop := frN f ≤ 12 ∧ (frL f).length ≤ 24 ∧ (frO f).length ≤ 150 ∧ frB f < 12 ∧ frI f < 20000 ∧ frJ f < 12001
def FrR (σ : Rm) (p d g0 o0 : Nat) (f : Frm) : Prop := FB f ∧ (aI σ 61 (60 * p + d) = nI (frB f) ∧ aI σ 62 (60 * p + d) = nI (frJ f) ∧ aI σ 63 (60 * p + d) = frP f ∧ aI σ 64 (60 * p + d) = nI g0 ∧ aI σ 65 (60 * p + d) = nI o0) ∧ (∀ k, k < frN f → aI σ 66 (40 * (60 * p + d) + k) = frV f k) ∧ ItsR σ p (60 * p + d) g0 0 0 (frL f) ∧ ∀ k, k < (frO f).length → aI σ 74 (10200 * p + o0 + k) = (frO f).getD k 0
/-- guards and operands of calls -/
def gcs : List Frm → Nat
  | [] => 0
  | f :: r => gcs r + gcn (frL f)
def ocs : List Frm → Nat
  | [] => 0
  | f :: r => ocs r + (frO f).length
def FsR (σ : Rm) (p : Nat) : List Frm → Prop
  | [] => True
  | f :: r => FsR σ p r ∧ FrR σ p r.length (gcs r) (ocs r) f
/-- voice n of the reference has these calls, in part p -/
def VR (σ : Rm) (n p : Nat) (fs : List Frm) : Prop := (p < 12 ∧ 1 ≤ n ∧ n ≤ 60 ∧ fs.length ≤ 60) ∧ aI σ 58 n = nI p ∧ (aI σ 60 p = nI fs.length ∧ aI σ 68 p = nI (gcs fs) ∧ aI σ 73 p = nI (ocs fs)) ∧ FsR σ p fs
/-- a part of the rows -/
def pw (k : Nat) : Nat := if k = 60 ∨ k = 68 ∨ k = 73 then 1 else if k ≤ 65 then 60 else if k = 66 then 2400 else if k ≤ 72 then 1500 else 10200
/-- only the rows of part p are others -/
def Ro (p : Nat) (σ σ' : Rm) : Prop := (∀ k, ¬ (60 ≤ k ∧ k ≤ 74) → aI σ' k = aI σ k) ∧ aL σ' = aL σ ∧ ∀ k i, 60 ≤ k → k ≤ 74 → (i < pw k * p ∨ pw k * (p + 1) ≤ i) → aI σ' k i = aI σ k i
/-- what the first d calls, g guards and o operands of part p rest on is the same -/
def AgR (σ σ' : Rm) (p d g o : Nat) : Prop := (∀ k i, 61 ≤ k → k ≤ 65 → i < d → aI σ' k (60 * p + i) = aI σ k (60 * p + i)) ∧ (∀ i, i < 40 * d → aI σ' 66 (2400 * p + i) = aI σ 66 (2400 * p + i)) ∧ (∀ i, i < 25 * d → aI σ' 67 (1500 * p + i) = aI σ 67 (1500 * p + i)) ∧ (∀ k i, 69 ≤ k → k ≤ 72 → i < g → aI σ' k (1500 * p + i) = aI σ k (1500 * p + i)) ∧ ∀ i, i < o → aI σ' 74 (10200 * p + i) = aI σ 74 (10200 * p + i)
section RFRAMES
variable {σ σ' σ1 σ2 : Rm} {p c : Nat}
theorem Ro.refl : Ro p σ σ := ⟨fun _ _ => rfl, rfl, fun _ _ _ _ _ => rfl⟩
theorem Ro.trans (a : Ro p σ σ1) (b : Ro p σ1 σ2) : Ro p σ σ2 := ⟨fun k h => (b.1 k h).trans (a.1 k h), b.2.1.trans a.2.1, fun k i h1 h2 h3 => (b.2.2 k i h1 h2 h3).trans (a.2.2 k i h1 h2 h3)⟩
theorem Ro.w {k i : Nat} {v : Int32} (h1 : 60 ≤ k) (h2 : k ≤ 74) (h3 : pw k * p ≤ i) (h4 : i < pw k * (p + 1)) : Ro p σ (wI σ k i v) := ⟨fun j hj => aI_ne (fun e => hj (by omega)), rfl, fun j q _ _ hq => by
  by_cases e : j = k
  · subst e
    rw [aI_ni (by omega)]
  · rw [aI_ne e]⟩
theorem AgR.weak {d g o d' g' o' : Nat} (h : AgR σ σ' p d g o) (h1 : d' ≤ d) (h2 : g' ≤ g) (h3 : o' ≤ o) : AgR σ σ' p d' g' o' := ⟨fun k i a b c => h.1 k i a b (by omega), fun i a => h.2.1 i (by omega), fun i a => h.2.2.1 i (by omega), fun k i a b c => h.2.2.2.1 k i a b (by omega), fun i a => h.2.2.2.2 i (by omega)⟩
theorem AgR.trans {d g o : Nat} (a : AgR σ σ1 p d g o) (b : AgR σ1 σ2 p d g o) : AgR σ σ2 p d g o := ⟨fun k i x y z => (b.1 k i x y z).trans (a.1 k i x y z), fun i x => (b.2.1 i x).trans (a.2.1 i x), fun i x => (b.2.2.1 i x).trans (a.2.2.1 i x), fun k i x y z => (b.2.2.2.1 k i x y z).trans (a.2.2.2.1 k i x y z), fun i x => (b.2.2.2.2 i x).trans (a.2.2.2.2 i x)⟩
/-- a write beyond -/
theorem AgR.w {k q d g o : Nat} {v : Int32} (h61 : 61 ≤ k → k ≤ 65 → ∀ i, i < d → q ≠ 60 * p + i) (h66 : k = 66 → ∀ i, i < 40 * d → q ≠ 2400 * p + i) (h67 : k = 67 → ∀ i, i < 25 * d → q ≠ 1500 * p + i) (h69 : 69 ≤ k → k ≤ 72 → ∀ i, i < g → q ≠ 1500 * p + i) (h74 : k = 74 → ∀ i, i < o → q ≠ 10200 * p + i) : AgR σ (wI σ k q v) p d g o := by
  have one : ∀ j i, (j = k → q ≠ i) → aI (wI σ k q v) j i = aI σ j i := fun j i h => by
    by_cases e : j = k
    · rw [e, aI_ni (fun z => h e z.symm)]
    · rw [aI_ne e]
  exact ⟨fun j i a b hi => one j _ (fun e => h61 (by omega) (by omega) i hi), fun i hi => one 66 _ (fun e => h66 e.symm i hi), fun i hi => one 67 _ (fun e => h67 e.symm i hi), fun j i a b hi => one j _ (fun e => h69 (by omega) (by omega) i hi), fun i hi => one 74 _ (fun e => h74 e.symm i hi)⟩
theorem gcn_app : ∀ L M : List Ite, gcn (L ++ M) = gcn L + gcn M := by
  intro L M
  induction L with
  | nil => show gcn M = 0 + gcn M; omega
  | cons x r ih => show gct x + gcn (r ++ M) = gct x + gcn r + gcn M; rw [ih]; omega
theorem gcn_le : ∀ L : List Ite, gcn L ≤ L.length := by
  intro L
  induction L with
  | nil => exact Nat.le_refl _
  | cons x r ih =>
    show gct x + gcn r ≤ r.length + 1
    have : gct x ≤ 1 := by unfold gct; split <;> omega
    omega
theorem ecI_cons {x : Ite} {r : List Ite} : ecI (x :: r) = ect x + ecI r := by
  show (if (itm x).1 = 0 then 1 else 0) + ecn (r.map itm) = _
  unfold ect itm
  by_cases z : x.1 = 0
  · rw [if_pos z, if_pos rfl, if_pos z]
  · rw [if_neg z, if_neg (show (1 : Nat) ≠ 0 by decide), if_neg z]
theorem ccI_cons {x : Ite} {r : List Ite} : ccI (x :: r) = cct x + ccI r := by
  show (if (itm x).1 = 1 ∧ (itm x).2.2.2 = 1 then 1 else 0) + ccn (r.map itm) = _
  unfold cct itm
  by_cases z : x.1 = 0
  · rw [if_pos z, if_neg (fun y => absurd y.1 (show (0 : Nat) ≠ 1 by decide)), if_neg (fun y => y.1 z)]
  · rw [if_neg z]
    by_cases w : x.2.2.2.1 = 1
    · rw [if_pos ⟨rfl, by show min x.2.2.2.1 2 = 1; omega⟩, if_pos ⟨z, w⟩]
    · rw [if_neg (fun y => by
        have : min x.2.2.2.1 2 = 1 := y.2
        omega), if_neg (fun y => w y.2)]
theorem ecI_app (L M : List Ite) : ecI (L ++ M) = ecI L + ecI M := by unfold ecI; rw [List.map_append, ecn_app]
theorem ccI_app (L M : List Ite) : ccI (L ++ M) = ccI L + ccI M := by unfold ccI; rw [List.map_append, ccn_app]
theorem ecI_le (L : List Ite) : ecI L ≤ L.length := by have := ecn_le (L.map itm); rw [List.length_map] at this; exact this
theorem ccI_le (L : List Ite) : ccI L ≤ L.length := by have := ccn_le (L.map itm); rw [List.length_map] at this; exact this
theorem ItsR_app : ∀ (L M : List Ite) (gi e cc : Nat), ItsR σ p c gi e cc (L ++ M) ↔ ItsR σ p c gi e cc L ∧ ItsR σ p c (gi + gcn L) (e + ecI L) (cc + ccI L) M := by
  intro L M
  induction L with
  | nil => intro gi e cc; exact ⟨fun h => ⟨trivial, h⟩, fun h => h.2⟩
  | cons x r ih =>
    intro gi e cc
    have h := ih (gi + gct x) (e + ect x) (cc + cct x)
    have e1 : gi + gcn (x :: r) = gi + gct x + gcn r := by show gi + (gct x + gcn r) = _; omega
    have e2 : e + ecI (x :: r) = e + ect x + ecI r := by rw [ecI_cons]; omega
    have e3 : cc + ccI (x :: r) = cc + cct x + ccI r := by rw [ccI_cons]; omega
    rw [e1, e2, e3]
    constructor
    · rintro ⟨a, b⟩
      exact ⟨⟨a, (h.mp b).1⟩, (h.mp b).2⟩
    · rintro ⟨⟨a, b1⟩, b2⟩
      exact ⟨a, h.mpr ⟨b1, b2⟩⟩
/-- items rest on their own places -/
theorem ItsR.cg {g0 d : Nat} : ∀ (L : List Ite) (gi e cc : Nat), ItsR σ p (60 * p + d) gi e cc L → e + ecI L ≤ 28 → cc + ccI L ≤ 25 → (∀ i, i < 40 → aI σ' 66 (40 * (60 * p + d) + i) = aI σ 66 (40 * (60 * p + d) + i)) → (∀ i, i < cc + ccI L → aI σ' 67 (25 * (60 * p + d) + i) = aI σ 67 (25 * (60 * p + d) + i)) → (∀ k i, 69 ≤ k → k ≤ 72 → i < gi + gcn L → aI σ' k (1500 * p + i) = aI σ k (1500 * p + i)) → ItsR σ' p (60 * p + d) gi e cc L := by
  intro L
  induction L with
  | nil => intro gi e cc _ _ _ _ _ _; trivial
  | cons x r ih =>
    intro gi e cc h he hc h66 h67 h69
    have e2 : ecI (x :: r) = ect x + ecI r := ecI_cons
    have e3 : ccI (x :: r) = cct x + ccI r := ccI_cons
    have e1 : gcn (x :: r) = gct x + gcn r := rfl
    refine ⟨⟨fun z => ?_, fun z => ?_⟩, ih _ _ _ h.2 (by omega) (by omega) h66 (fun i hi => h67 i (by omega)) (fun k i h1 h2 h3 => h69 k i h1 h2 (by omega))⟩
    · have := h66 (12 + e) (by have : ect x = 1 := if_pos z; omega)
      rw [← Nat.add_assoc] at this
      rw [this]
      exact h.1.1 z
    · have hg : gct x = 1 := if_neg z
      obtain ⟨a1, a2, a3, a4, a5, a6⟩ := h.1.2 z
      rw [h69 69 gi (by omega) (by omega) (by omega), h69 70 gi (by omega) (by omega) (by omega), h69 71 gi (by omega) (by omega) (by omega), h69 72 gi (by omega) (by omega) (by omega)]
      refine ⟨a1, a2, fun w => ?_, a4, a5, a6⟩
      rw [h67 cc (by have : cct x = 1 := if_pos ⟨z, w⟩; omega)]
      exact a3 w
theorem FrR.cg {d g0 o0 : Nat} {f : Frm} (h : FrR σ p d g0 o0 f) (a : AgR σ σ' p (d + 1) (g0 + gcn (frL f)) (o0 + (frO f).length)) : FrR σ' p d g0 o0 f := by
  obtain ⟨hb, ⟨h1, h2, h3, h4, h5⟩, h6, h7, h8⟩ := h
  obtain ⟨a1, a2, a3, a4, a5⟩ := a
  have e1 := ecI_le (frL f)
  have e2 := ccI_le (frL f)
  have hb1 := hb.1
  have hb2 := hb.2.1
  refine ⟨hb, ⟨by rw [a1 61 d (by omega) (by omega) (by omega)]; exact h1, by rw [a1 62 d (by omega) (by omega) (by omega)]; exact h2, by rw [a1 63 d (by omega) (by omega) (by omega)]; exact h3, by rw [a1 64 d (by omega) (by omega) (by omega)]; exact h4, by rw [a1 65 d (by omega) (by omega) (by omega)]; exact h5⟩, fun k hk => ?_, ItsR.cg (g0 := g0) _ _ _ _ h7 (by omega) (by omega) (fun i hi => ?_) (fun i hi => ?_) (fun k i x y z => a4 k i x y z), fun k hk => ?_⟩
  · have := a2 (40 * d + k) (by omega)
    rw [show 40 * (60 * p + d) + k = 2400 * p + (40 * d + k) by omega, this, show 2400 * p + (40 * d + k) = 40 * (60 * p + d) + k by omega]
    exact h6 k hk
  · have := a2 (40 * d + i) (by omega)
    rw [show 40 * (60 * p + d) + i = 2400 * p + (40 * d + i) by omega]
    exact this
  · have := a3 (25 * d + i) (by omega)
    rw [show 25 * (60 * p + d) + i = 1500 * p + (25 * d + i) by omega]
    exact this
  · have := a5 (o0 + k) (by omega)
    rw [← Nat.add_assoc] at this
    rw [this]
    exact h8 k hk
theorem FsR.cg : ∀ fs : List Frm, FsR σ p fs → AgR σ σ' p fs.length (gcs fs) (ocs fs) → FsR σ' p fs := by
  intro fs
  induction fs with
  | nil => intro _ _; trivial
  | cons f r ih =>
    intro h a
    have e1 : gcs (f :: r) = gcs r + gcn (frL f) := rfl
    have e2 : ocs (f :: r) = ocs r + (frO f).length := rfl
    have e3 : (f :: r).length = r.length + 1 := rfl
    rw [e1, e2, e3] at a
    exact ⟨ih h.1 (a.weak (by omega) (by omega) (by omega)), h.2.cg a⟩
/-- bounds -/
theorem FsR.bd : ∀ fs : List Frm, FsR σ p fs → gcs fs ≤ 24 * fs.length ∧ ocs fs ≤ 150 * fs.length ∧ tsz 0 fs ≤ 262 * fs.length := by
  intro fs
  induction fs with
  | nil => intro _; exact ⟨Nat.le_refl _, Nat.le_refl _, Nat.le_refl _⟩
  | cons f r ih =>
    intro h
    obtain ⟨i1, i2, i3⟩ := ih h.1
    obtain ⟨b1, b2, b3, -⟩ := h.2.1
    have g := gcn_le (frL f)
    have ps : ∀ L : List Ite, psz L ≤ 4 * L.length := by
      intro L
      induction L with
      | nil => exact Nat.le_refl _
      | cons x r ih =>
        show isz x + psz r ≤ 4 * (r.length + 1)
        have : isz x ≤ 4 := by unfold isz; split <;> omega
        omega
    have := ps (frL f)
    refine ⟨?_, ?_, ?_⟩
    · show gcs r + gcn (frL f) ≤ 24 * (r.length + 1); omega
    · show ocs r + (frO f).length ≤ 150 * (r.length + 1); omega
    · show tsz 0 r + (4 + frN f + psz (frL f) + (frO f).length) ≤ 262 * (r.length + 1); omega
theorem VR.bd {n : Nat} {fs : List Frm} (h : VR σ n p fs) : gcs fs ≤ 1440 ∧ ocs fs ≤ 9000 ∧ tsz 0 fs ≤ 15720 := by
  have b := FsR.bd fs h.2.2.2
  have := h.1.2.2.2
  omega
/-- the same in another state -/
theorem VR.fr {n : Nat} {fs : List Frm} (h : VR σ n p fs) (e58 : aI σ' 58 n = aI σ 58 n) (e60 : aI σ' 60 p = aI σ 60 p ∧ aI σ' 68 p = aI σ 68 p ∧ aI σ' 73 p = aI σ 73 p) (a : AgR σ σ' p fs.length (gcs fs) (ocs fs)) : VR σ' n p fs := by
  obtain ⟨h1, h2, h3, h4⟩ := h
  exact ⟨h1, by rw [e58]; exact h2, by rw [e60.1, e60.2.1, e60.2.2]; exact h3, h4.cg _ a⟩
/-- what another part does leaves it -/
theorem VR.ro {n p' : Nat} {fs : List Frm} (h : VR σ n p fs) (hp : p ≠ p') (r : Ro p' σ σ') : VR σ' n p fs := by
  obtain ⟨b1, b2, b3⟩ := h.bd
  have hl := h.1.2.2.2
  obtain ⟨r1, r2, r3⟩ := r
  have out : ∀ w i, i < w → (w * p + i < w * p' ∨ w * (p' + 1) ≤ w * p + i) := fun w i hi => by
    rcases Nat.lt_or_ge p p' with z | z
    · left
      have : w * (p + 1) ≤ w * p' := Nat.mul_le_mul_left w z
      rw [Nat.mul_add] at this
      omega
    · right
      have : w * (p' + 1) ≤ w * p := Nat.mul_le_mul_left w (by omega)
      omega
  have one : ∀ k i, 60 ≤ k → k ≤ 74 → i < pw k → aI σ' k (pw k * p + i) = aI σ k (pw k * p + i) := fun k i h1 h2 h3 => r3 k _ h1 h2 (out (pw k) i h3)
  refine h.fr (by rw [r1 58 (by omega)]) ⟨?_, ?_, ?_⟩ ⟨fun k i h1 h2 hi => ?_, fun i hi => one 66 i (by decide) (by decide) (by show i < 2400; omega), fun i hi => one 67 i (by decide) (by decide) (by show i < 1500; omega), fun k i h1 h2 hi => ?_, fun i hi => one 74 i (by decide) (by decide) (by show i < 10200; omega)⟩
  · have := one 60 0 (by decide) (by decide) (by decide)
    rw [show pw 60 * p + 0 = p by show 1 * p + 0 = p; omega] at this
    exact this
  · have := one 68 0 (by decide) (by decide) (by decide)
    rw [show pw 68 * p + 0 = p by show 1 * p + 0 = p; omega] at this
    exact this
  · have := one 73 0 (by decide) (by decide) (by decide)
    rw [show pw 73 * p + 0 = p by show 1 * p + 0 = p; omega] at this
    exact this
  · have e : pw k = 60 := by unfold pw; rw [if_neg (by omega), if_pos (by omega)]
    have := one k i (by omega) (by omega) (by rw [e]; omega)
    rw [e] at this
    exact this
  · have e : pw k = 1500 := by unfold pw; rw [if_neg (by omega), if_neg (by omega), if_neg (by omega), if_pos (by omega)]
    have := one k i (by omega) (by omega) (by rw [e]; omega)
    rw [e] at this
    exact this
end RFRAMES
