/-! THE CLASS'S OWN MACHINE: its memory by handles, which never move: a row that grows keeps its handle -/
/-- ints, longs by (handle, place); lengths of rows; the parser's current body; bodies, voices made; next address, slots -/
abbrev Km : Type := (Nat → Nat → Int32) × (Nat → Nat → Int64) × (Nat → Nat) × Nat × Nat × Nat × Nat × Nat
def kI (κ : Km) (h k : Nat) : Int32 := κ.1 h k
def kL (κ : Km) (h k : Nat) : Int64 := κ.2.1 h k
def kW (κ : Km) (h : Nat) : Nat := κ.2.2.1 h
def kC (κ : Km) : Nat := κ.2.2.2.1
def kB (κ : Km) : Nat := κ.2.2.2.2.1
def kV (κ : Km) : Nat := κ.2.2.2.2.2.1
def kT (κ : Km) : Nat := κ.2.2.2.2.2.2.1
def kZ (κ : Km) : Nat := κ.2.2.2.2.2.2.2
def cI (κ : Km) (h k : Nat) (v : Int32) : Km := (up2 κ.1 h k v, κ.2)
def cL (κ : Km) (h k : Nat) (v : Int64) : Km := (κ.1, up2 κ.2.1 h k v, κ.2.2)
def cC (κ : Km) (c : Nat) : Km := (κ.1, κ.2.1, κ.2.2.1, c, κ.2.2.2.2)
/-- kinds of the lasting handles 64 .. 91 -/
def hKL : List Nat := [11, 8, 20, 7, 1, 20, 21, 24, 9, 22, 21, 21, 22, 5, 3, 6, 4, 21, 4, 21, 2, 21, 21, 21, 21, 25, 26, 21]
/-- the kind of a handle: 64 .. 91 the lasting ones; 1000 + 8 i a body, 1001 + 8 i its names; 1002 + 8 n a voice, 1003 + 8 n its cells; 1004 + 8 s a spare row -/
def hk (h : Nat) : Nat := if h < 92 then hKL.getD (h - 64) 99 else if h % 8 = 0 then 0 else if h % 8 = 1 then 22 else if h % 8 = 2 then 10 else 21
def live (κ : Km) (h : Nat) : Prop := (64 ≤ h ∧ h < 92) ∨ (1000 ≤ h ∧ h % 8 = 0 ∧ (h - 1000) / 8 < kB κ) ∨ (1000 ≤ h ∧ h % 8 = 1 ∧ (h - 1000) / 8 < kB κ) ∨ (1000 ≤ h ∧ h % 8 = 2 ∧ 1 ≤ (h - 1000) / 8 ∧ (h - 1000) / 8 ≤ kV κ) ∨ (1000 ≤ h ∧ h % 8 = 3 ∧ 1 ≤ (h - 1000) / 8 ∧ (h - 1000) / 8 ≤ kV κ ∧ kW κ h ≠ 0) ∨ (1000 ≤ h ∧ h % 8 = 4 ∧ (h - 1000) / 8 < 12 ∧ kW κ h ≠ 0)
def isH (κ : Km) (h c : Nat) : Prop := live κ h ∧ hk h = c
/-- references that never change but by growing -/
def hRs : List (Nat × Nat × Nat) := [(64, 0, 65), (64, 1, 67), (64, 2, 77), (64, 3, 78), (64, 4, 79), (65, 0, 66), (67, 0, 68), (67, 1, 71), (68, 0, 69), (68, 1, 70), (72, 0, 65), (72, 1, 73), (72, 2, 74), (72, 3, 75), (72, 4, 76), (77, 0, 72), (77, 1, 67), (77, 2, 68), (78, 0, 72), (78, 1, 67), (78, 2, 68), (79, 0, 80), (79, 1, 82), (79, 2, 84), (79, 3, 67), (79, 4, 68), (79, 5, 89), (79, 6, 90), (79, 7, 91), (80, 0, 81), (82, 0, 83), (84, 0, 85), (84, 5, 86), (84, 6, 87), (84, 7, 88)]
/-- handles whose address is their own number: all lasting ones but the rows that grow -/
def still (h : Nat) : Prop := 64 ≤ h ∧ h < 92 ∧ h ≠ 69 ∧ h ≠ 70 ∧ h ≠ 74 ∧ h ≠ 75 ∧ h ≠ 76 ∧ h ≠ 81 ∧ h ≠ 83 ∧ h ≠ 85
/-- the memory S is that of the handles, at the addresses ad -/
def CV (ad : Nat → Nat) (κ : Km) (S : Mem) : Prop :=
  (∀ h, live κ h → 64 ≤ ad h ∧ ad h < tp S ∧ (ad h < 92 ∨ 168 ≤ ad h) ∧ gK S (ad h) = hk h ∧ (20 ≤ hk h → gN S (ad h) = kW κ h) ∧ gI S (ad h) = kI κ h ∧ gL S (ad h) = kL κ h) ∧
  (∀ h h', live κ h → live κ h' → ad h = ad h' → h = h') ∧ (∀ h, still h → ad h = h) ∧ (∀ q ∈ hRs, gR S (ad q.1) q.2.1 = ad q.2.2) ∧
  (∀ i, i < kB κ → gR S (ad (1000 + 8 * i)) 0 = ad (1001 + 8 * i)) ∧ (∀ n, 1 ≤ n → n ≤ kV κ → gR S (ad (1002 + 8 * n)) 12 = ad (1003 + 8 * n) ∧ (kW κ (1003 + 8 * n) = 0 → ad (1003 + 8 * n) = 27)) ∧
  gR S (ad 77) 3 = (if kC κ = 0 then 0 else ad (kC κ)) ∧ (kC κ = 0 ∨ isH κ (kC κ) 0) ∧
  (∀ i, i < 12 → gR S (ad 71) i = if i < kB κ then ad (1000 + 8 * i) else 0) ∧ (∀ i, i < 61 → gR S (ad 89) i = if 1 ≤ i ∧ i ≤ kV κ then ad (1002 + 8 * i) else 0) ∧
  (∀ s, s < 12 → kW κ (1004 + 8 * s) ≠ 0 → gR S (ad 90) s = ad (1004 + 8 * s)) ∧ kB κ ≤ 12 ∧ kV κ ≤ 60 ∧ tp S = kT κ ∧ sz S = kZ κ ∧ 168 ≤ tp S ∧ Lay 92 S ∧ gK S 27 = 21 ∧ gN S 27 = 0 ∧ (∀ i, (kI κ 69 i).toInt8.toInt32 = kI κ 69 i) ∧ ∀ q ∈ cNs, kW κ q.1 = q.2
/-- what the class leaves alone -/
def Fc (S S' : Mem) : Prop := vw 92 S' = vw 92 S ∧ gN S' 1 = gN S 1 ∧ gI S' 1 = gI S 1
theorem Lay.fr' {b : Nat} {T T' : Mem} (h : Lay b T) (f : gR T' = gR T ∧ gK T' = gK T ∧ gN T' = gN T ∧ tp T' = tp T) : Lay b T' := by
  obtain ⟨h1, h2, h3, h4⟩ := h
  refine ⟨h1, ⟨by rw [f.2.2.2]; exact h2.1, by rw [f.2.1]; exact h2.2⟩, fun k hk h0 => ?_, fun i hi => by rw [f.1]; exact h4 i hi⟩
  obtain ⟨q1, q2, q3⟩ := h3 k hk h0
  exact ⟨by rw [f.1]; exact q1, ⟨by rw [f.2.2.2]; exact q2.1, by rw [f.2.1]; exact q2.2⟩, by rw [f.2.2.1]; exact q3⟩
theorem Fc.refl {S : Mem} : Fc S S := ⟨rfl, rfl, rfl⟩
theorem Fc.trans {S S1 S2 : Mem} (h : Fc S S1) (g : Fc S1 S2) : Fc S S2 := ⟨g.1.trans h.1, g.2.1.trans h.2.1, g.2.2.trans h.2.2⟩
/-- bodies and voices are never taken away -/
def Mo (κ κ' : Km) : Prop := kB κ ≤ kB κ' ∧ kV κ ≤ kV κ'
theorem Mo.refl {κ : Km} : Mo κ κ := ⟨Nat.le_refl _, Nat.le_refl _⟩
theorem Mo.trans {κ κ1 κ2 : Km} (h : Mo κ κ1) (g : Mo κ1 κ2) : Mo κ κ2 := ⟨Nat.le_trans h.1 g.1, Nat.le_trans h.2 g.2⟩
/-- objects stay where they are -/
def Ob (κ : Km) (ad ad' : Nat → Nat) : Prop := ∀ h, live κ h → hk h < 20 → ad' h = ad h
def mpv (ad : Nat → Nat) : AV → AV
  | .inl x => .inl x
  | .inr (.inl x) => .inr (.inl x)
  | .inr (.inr h) => .inr (.inr (if h < 64 then h else ad h))
def mps (ad : Nat → Nat) : List AV → List AV
  | [] => []
  | v :: r => mpv ad v :: mps ad r
def mpl (ad : Nat → Nat) : Lv → Lv
  | [] => []
  | (i, v) :: r => (i, mpv ad v) :: mpl ad r
def mpr (ad : Nat → Nat) : Res → Res
  | .inl none => .inl none
  | .inl (some v) => .inl (some (mpv ad v))
  | .inr a => .inr a
/-- a value that is no row's handle: numbers, null, texts, objects -/
def okv (κ : Km) : AV → Prop
  | .inr (.inr h) => h < 64 ∨ (live κ h ∧ hk h < 20)
  | _ => True
def KE (X : Cx) (d : Nat) (M : MI) (pc : Nat) (lv : Lv) (st : List AV) (κ : Km) (r : Res) (κ' : Km) : Prop := Mo κ κ' ∧ ∀ (ad : Nat → Nat) (S : Mem), CV ad κ S → ∃ (ad' : Nat → Nat) (S' : Mem), Ev X d M pc (mpl ad lv) (mps ad st) S (mpr ad' r) S' ∧ CV ad' κ' S' ∧ Ob κ ad ad' ∧ Fc S S'
def K (X : Cx) (d : Nat) (M : MI) (pc : Nat) (lv : Lv) (st : List AV) (κ : Km) (Q : Res → Km → Prop) : Prop := ∃ (r : Res) (κ' : Km), KE X d M pc lv st κ r κ' ∧ Q r κ'
def KCR (X : Cx) (d : Nat) (M : MI) (as : List AV) (κ : Km) (r : Res) (κ' : Km) : Prop := Mo κ κ' ∧ ∀ (ad : Nat → Nat) (S : Mem), CV ad κ S → ∃ (ad' : Nat → Nat) (S' : Mem), CR X d M (mps ad as) S (mpr ad' r) S' ∧ CV ad' κ' S' ∧ Ob κ ad ad' ∧ Fc S S'
/-- a call of a method of the class, over its handles -/
def KC' (X : Cx) (d : Nat) (M : MI) (as : List AV) (κ : Km) (Q : Res → Km → Prop) : Prop := ∃ (r : Res) (κ' : Km), KCR X d M as κ r κ' ∧ Q r κ'
def kRI (F : Int32 → Km → Prop) : Res → Km → Prop := fun r s => ∃ x : Int32, r = .inl (some (vI x)) ∧ F x s
def kRJ (F : Int64 → Km → Prop) : Res → Km → Prop := fun r s => ∃ x : Int64, r = .inl (some (vL x)) ∧ F x s
def kRR (F : Nat → Km → Prop) : Res → Km → Prop := fun r s => ∃ x : Nat, r = .inl (some (vR x)) ∧ F x s
def kRV (F : Km → Prop) : Res → Km → Prop := fun r s => r = .inl none ∧ F s
theorem mps_cat (ad : Nat → Nat) : ∀ as : List AV, ((mps ad as).map cat).sum = (as.map cat).sum := by
  intro as
  induction as with
  | nil => rfl
  | cons v r ih =>
    show cat (mpv ad v) + ((mps ad r).map cat).sum = cat v + (r.map cat).sum
    rw [ih]
    rcases v with x | x | x <;> rfl
theorem mpl_lvE (ad : Nat → Nat) : ∀ (as : List AV) (i : Nat), mpl ad (lvE i as) = lvE i (mps ad as) := by
  intro as
  induction as with
  | nil => intro i; rfl
  | cons v r ih =>
    intro i
    show (i, mpv ad v) :: mpl ad (lvE (i + cat v) r) = (i, mpv ad v) :: lvE (i + cat (mpv ad v)) (mps ad r)
    rw [ih]
    rcases v with x | x | x <;> rfl
theorem mps_app (ad : Nat → Nat) : ∀ a b : List AV, mps ad (a ++ b) = mps ad a ++ mps ad b := by
  intro a b
  induction a with
  | nil => rfl
  | cons v r ih => show mpv ad v :: mps ad (r ++ b) = mpv ad v :: (mps ad r ++ mps ad b); rw [ih]
section KROWS
variable {X : Cx} {d : Nat} {M : MI} {pc pc2 : Nat} {lv lv2 : Lv} {st st2 : List AV} {κ : Km} {Q : Res → Km → Prop}
theorem K.mono {Q' : Res → Km → Prop} (h : K X d M pc lv st κ Q) (hq : ∀ r s, Q r s → Q' r s) : K X d M pc lv st κ Q' := by
  obtain ⟨r, s, e, q⟩ := h
  exact ⟨r, s, e, hq r s q⟩
theorem KC'.mono {as : List AV} {Q' : Res → Km → Prop} (h : KC' X d M as κ Q) (hq : ∀ r s, Q r s → Q' r s) : KC' X d M as κ Q' := by
  obtain ⟨r, s, e, q⟩ := h
  exact ⟨r, s, e, hq r s q⟩
theorem KC_of_K {as : List AV} (hy : plainName M.1.cls = true) (hw : (as.map cat).sum ≤ M.2.2.1) (hc : kcn.getD M.2.2.2.2 "" = M.1.cls) (h : K X d M 0 (lvE 0 as) [] κ Q) (h15 : M.2.2.2.2 ≠ 15 := by decide) : KC' X d M as κ Q := by
  obtain ⟨r, κ', ⟨mo, e⟩, q⟩ := h
  refine ⟨r, κ', ⟨mo, fun ad S hC => ?_⟩, q⟩
  obtain ⟨ad', S', ev, h1, h2, h3⟩ := e ad S hC
  rw [mpl_lvE] at ev
  obtain ⟨r2, S2, cr, rfl, rfl⟩ := C_of_V hy (by rw [mps_cat]; exact hw) hc (Q := fun r' T' => r' = mpr ad' r ∧ T' = S') ⟨_, S', ev, rfl, rfl⟩ h15
  exact ⟨ad', S2, cr, h1, h2, h3⟩
theorem K_p (h : ∀ (ad : Nat → Nat) (S : Mem) (Q' : Res → Mem → Prop), CV ad κ S → V X d M pc2 (mpl ad lv2) (mps ad st2) S Q' → V X d M pc (mpl ad lv) (mps ad st) S Q') (k : K X d M pc2 lv2 st2 κ Q) : K X d M pc lv st κ Q := by
  obtain ⟨r, κ', ⟨mo, e⟩, q⟩ := k
  refine ⟨r, κ', ⟨mo, fun ad S hC => ?_⟩, q⟩
  obtain ⟨ad', S', ev, h1, h2, h3⟩ := e ad S hC
  obtain ⟨r2, S2, ev2, rfl, rfl⟩ := h ad S (fun r' T' => r' = mpr ad' r ∧ T' = S') hC ⟨_, S', ev, rfl, rfl⟩
  exact ⟨ad', S2, ev2, h1, h2, h3⟩
theorem hk_obj {κ : Km} {h : Nat} (hl : live κ h) (ho : hk h < 20) : (64 ≤ h ∧ h < 92) ∨ (1000 ≤ h ∧ h % 8 = 0 ∧ (h - 1000) / 8 < kB κ) ∨ (1000 ≤ h ∧ h % 8 = 2 ∧ 1 ≤ (h - 1000) / 8 ∧ (h - 1000) / 8 ≤ kV κ) := by
  unfold live at hl
  unfold hk at ho
  rcases hl with c | c | c | c | c | c
  · exact Or.inl c
  · exact Or.inr (Or.inl c)
  · rw [if_neg (by omega), if_neg (by omega), if_pos (by omega)] at ho; omega
  · exact Or.inr (Or.inr c)
  · rw [if_neg (by omega), if_neg (by omega), if_neg (by omega), if_neg (by omega)] at ho; omega
  · rw [if_neg (by omega), if_neg (by omega), if_neg (by omega), if_neg (by omega)] at ho; omega
theorem live_mo {κ κ' : Km} {h : Nat} (hl : live κ h) (ho : hk h < 20) (mo : Mo κ κ') : live κ' h := by
  rcases hk_obj hl ho with c | c | c
  · exact Or.inl c
  · exact Or.inr (Or.inl ⟨c.1, c.2.1, Nat.lt_of_lt_of_le c.2.2 mo.1⟩)
  · exact Or.inr (Or.inr (Or.inr (Or.inl ⟨c.1, c.2.1, c.2.2.1, Nat.le_trans c.2.2.2 mo.2⟩)))
theorem K_w {κ2 : Km} (g : (Nat → Nat) → Mem → Mem) (hm : Mo κ κ2) (hg : ∀ (ad : Nat → Nat) (S : Mem), CV ad κ S → CV ad κ2 (g ad S) ∧ Fc S (g ad S)) (h : ∀ (ad : Nat → Nat) (S : Mem) (Q' : Res → Mem → Prop), CV ad κ S → V X d M pc2 (mpl ad lv2) (mps ad st2) (g ad S) Q' → V X d M pc (mpl ad lv) (mps ad st) S Q') (k : K X d M pc2 lv2 st2 κ2 Q) : K X d M pc lv st κ Q := by
  obtain ⟨r, κ', ⟨mo, e⟩, q⟩ := k
  refine ⟨r, κ', ⟨hm.trans mo, fun ad S hC => ?_⟩, q⟩
  obtain ⟨g1, g2⟩ := hg ad S hC
  obtain ⟨ad', S', ev, h1, h2, h3⟩ := e ad (g ad S) g1
  obtain ⟨r2, S2, ev2, rfl, rfl⟩ := h ad S (fun r' T' => r' = mpr ad' r ∧ T' = S') hC ⟨_, S', ev, rfl, rfl⟩
  exact ⟨ad', S2, ev2, h1, fun x hx hk => h2 x (live_mo hx hk hm) hk, g2.trans h3⟩
theorem K_ret {r : Res} (h : ∀ (ad : Nat → Nat) (S : Mem) (Q' : Res → Mem → Prop), CV ad κ S → Q' (mpr ad r) S → V X d M pc (mpl ad lv) (mps ad st) S Q') (q : Q r κ) : K X d M pc lv st κ Q := by
  refine ⟨r, κ, ⟨Mo.refl, fun ad S hC => ?_⟩, q⟩
  obtain ⟨r2, S2, ev2, rfl, rfl⟩ := h ad S (fun r' T' => r' = mpr ad r ∧ T' = S) hC ⟨rfl, rfl⟩
  exact ⟨ad, S2, ev2, hC, fun _ _ _ => rfl, Fc.refl⟩
theorem K_if {c : Prop} {pa pb : Nat} (h : ∀ (ad : Nat → Nat) (S : Mem) (Q' : Res → Mem → Prop), CV ad κ S → (c → V X d M pa (mpl ad lv2) (mps ad st2) S Q') → (¬ c → V X d M pb (mpl ad lv2) (mps ad st2) S Q') → V X d M pc (mpl ad lv) (mps ad st) S Q') (k1 : c → K X d M pa lv2 st2 κ Q) (k2 : ¬ c → K X d M pb lv2 st2 κ Q) : K X d M pc lv st κ Q := by
  by_cases hc : c
  · exact K_p (fun ad S Q' hC k => h ad S Q' hC (fun _ => k) (fun n => absurd hc n)) (k1 hc)
  · exact K_p (fun ad S Q' hC k => h ad S Q' hC (fun y => absurd y hc) (fun _ => k)) (k2 hc)
theorem mpv_ok {ad ad' : Nat → Nat} {v : AV} (hv : okv κ v) (ho : Ob κ ad ad') : mpv ad' v = mpv ad v := by
  rcases v with x | x | x
  · rfl
  · rfl
  · show Sum.inr (Sum.inr (if x < 64 then x else ad' x)) = (Sum.inr (Sum.inr (if x < 64 then x else ad x)) : AV)
    by_cases c : x < 64
    · rw [if_pos c, if_pos c]
    · rcases hv with h | h
      · exact absurd h c
      · rw [if_neg c, if_neg c, ho x h.1 h.2]
theorem mps_ok {ad ad' : Nat → Nat} (ho : Ob κ ad ad') : ∀ l : List AV, (∀ v ∈ l, okv κ v) → mps ad' l = mps ad l := by
  intro l
  induction l with
  | nil => intro _; rfl
  | cons v r ih =>
    intro h
    show mpv ad' v :: mps ad' r = mpv ad v :: mps ad r
    rw [mpv_ok (h v List.mem_cons_self) ho, ih (fun w hw => h w (List.mem_cons_of_mem _ hw))]
theorem mpl_ok {ad ad' : Nat → Nat} (ho : Ob κ ad ad') : ∀ l : Lv, (∀ q ∈ l, okv κ q.2) → mpl ad' l = mpl ad l := by
  intro l
  induction l with
  | nil => intro _; rfl
  | cons q r ih =>
    intro h
    obtain ⟨i, v⟩ := q
    show (i, mpv ad' v) :: mpl ad' r = (i, mpv ad v) :: mpl ad r
    rw [mpv_ok (h (i, v) List.mem_cons_self) ho, ih (fun w hw => h w (List.mem_cons_of_mem _ hw))]
theorem K_call {e : Nat} {M' : MI} {as stk : List AV} {Qc : Res → Km → Prop} (hlv : ∀ q ∈ lv, okv κ q.2) (hst : ∀ v ∈ st, okv κ v)
    (h : ∀ (ad : Nat → Nat) (S : Mem) (Q' Qc' : Res → Mem → Prop), CV ad κ S → C X e M' (mps ad as) S Qc' → (∀ r S1, Qc' r S1 → ∃ v, r = .inl v ∧ V X d M pc2 (mpl ad lv) (v.toList ++ mps ad st) S1 Q') → V X d M pc (mpl ad lv) (mps ad stk) S Q')
    (hc : KC' X e M' as κ Qc) (k : ∀ r κ1, Qc r κ1 → Mo κ κ1 → ∃ v, r = .inl v ∧ K X d M pc2 lv (v.toList ++ st) κ1 Q) : K X d M pc lv stk κ Q := by
  obtain ⟨r, κ1, ⟨mo, cr⟩, qc⟩ := hc
  obtain ⟨v, rfl, r2, κ2, ⟨mo2, ke⟩, q⟩ := k r κ1 qc mo
  refine ⟨r2, κ2, ⟨mo.trans mo2, fun ad S hC => ?_⟩, q⟩
  obtain ⟨ad1, S1, c1, C1, ob1, f1⟩ := cr ad S hC
  obtain ⟨ad2, S2, e2, C2, ob2, f2⟩ := ke ad1 S1 C1
  rw [mpl_ok ob1 lv hlv, mps_app, mps_ok ob1 st hst] at e2
  have hr : mpr ad1 (.inl v) = .inl (v.map (mpv ad1)) := by cases v <;> rfl
  have hl : mps ad1 v.toList = (v.map (mpv ad1)).toList := by cases v <;> rfl
  rw [hr] at c1
  rw [hl] at e2
  obtain ⟨r3, S3, ev3, rfl, rfl⟩ := h ad S (fun r' T' => r' = mpr ad2 r2 ∧ T' = S2) (fun r' T' => r' = .inl (v.map (mpv ad1)) ∧ T' = S1) hC ⟨_, _, c1, rfl, rfl⟩ (fun r' T' hh => ⟨_, hh.1, by rw [hh.2]; exact ⟨_, S2, e2, rfl, rfl⟩⟩)
  refine ⟨ad2, S3, ev3, C2, fun x hx hk => ?_, f1.trans f2⟩
  exact (ob2 x (live_mo hx hk mo) hk).trans (ob1 x hx hk)
theorem kRI.k {F : Int32 → Km → Prop} (h : ∀ x s, F x s → Mo κ s → K X d M pc2 lv (vI x :: st) s Q) : ∀ r s, kRI F r s → Mo κ s → ∃ v, r = .inl v ∧ K X d M pc2 lv (v.toList ++ st) s Q := fun _ s ⟨x, e, hf⟩ hm => ⟨some (vI x), e, h x s hf hm⟩
theorem kRJ.k {F : Int64 → Km → Prop} (h : ∀ x s, F x s → Mo κ s → K X d M pc2 lv (vL x :: st) s Q) : ∀ r s, kRJ F r s → Mo κ s → ∃ v, r = .inl v ∧ K X d M pc2 lv (v.toList ++ st) s Q := fun _ s ⟨x, e, hf⟩ hm => ⟨some (vL x), e, h x s hf hm⟩
theorem kRR.k {F : Nat → Km → Prop} (h : ∀ x s, F x s → Mo κ s → K X d M pc2 lv (vR x :: st) s Q) : ∀ r s, kRR F r s → Mo κ s → ∃ v, r = .inl v ∧ K X d M pc2 lv (v.toList ++ st) s Q := fun _ s ⟨x, e, hf⟩ hm => ⟨some (vR x), e, h x s hf hm⟩
theorem kRV.k {F : Km → Prop} (h : ∀ s, F s → Mo κ s → K X d M pc2 lv st s Q) : ∀ r s, kRV F r s → Mo κ s → ∃ v, r = .inl v ∧ K X d M pc2 lv (v.toList ++ st) s Q := fun _ s ⟨e, hf⟩ hm => ⟨none, e, h s hf hm⟩
theorem K_table {dflt lo hi : Int} {offs : Array Int} {len : Nat} {x : Int32} (hd : decode M.2.1 pc = .ok (.tableswitch dflt lo hi offs, len)) (tgts : List Nat) (dt : Nat) (hdt : (pc : Int) + dflt = (dt : Int)) (hlh : lo ≤ hi) (hz : tgts.length = (hi - lo).toNat + 1) (hts : ∀ j, j < tgts.length → ∃ off, offs[j]? = some off ∧ (pc : Int) + off = ((tgts.getD j 0 : Nat) : Int))
    (kd : (x.toInt < lo ∨ hi < x.toInt) → K X d M dt lv st κ Q) (kt : ∀ j, j < tgts.length → x.toInt = lo + j → K X d M (tgts.getD j 0) lv st κ Q) : K X d M pc lv (vI x :: st) κ Q := by
  by_cases h : x.toInt < lo ∨ hi < x.toInt
  · exact K_p (fun ad S Q' _ k => V_table hd tgts dt hdt hz hts (fun _ => k) (fun j hj hx => by exfalso; omega)) (kd h)
  · have h1 : ¬ x.toInt < lo := fun q => h (Or.inl q)
    have h2 : ¬ hi < x.toInt := fun q => h (Or.inr q)
    refine K_p (fun ad S Q' _ k => V_table hd tgts dt hdt hz hts (fun y => absurd y h) (fun j hj hx => ?_)) (kt (x.toInt - lo).toNat (by omega) (by omega))
    have e : j = (x.toInt - lo).toNat := by omega
    rw [e]; exact k
end KROWS
/-- a number written -/
theorem CV.setI {ad : Nat → Nat} {κ : Km} {S : Mem} {h k : Nat} {v : Int32} (hC : CV ad κ S) (hl : live κ h) (hb : h = 69 → v.toInt8.toInt32 = v) : CV ad (cI κ h k v) (uI S (ad h) k v) ∧ Fc S (uI S (ad h) k v) := by
  obtain ⟨c1, c2, c3, c4, c5, c6, c7, c8, c9, c10, c11, c12, c13, c14, c15, c16, c17, c18, c19, c20, c21⟩ := hC
  obtain ⟨a1, a2, a3, -⟩ := c1 h hl
  have hF : ∀ a, a ≠ ad h → gI (uI S (ad h) k v) a = gI S a := fun a ha => up2_ne (f := S.1) ha
  have hvw : vw 92 (uI S (ad h) k v) = vw 92 S := vw_cong (fun a h1 h2 => ⟨hF a (by omega), rfl⟩)
  refine ⟨⟨fun h' hl' => ?_, c2, c3, c4, c5, c6, c7, c8, c9, c10, c11, c12, c13, c14, c15, c16, c17.fr' ?_, c18, c19, fun i => ?_, c21⟩, hvw, rfl, hF 1 (by omega)⟩
  · obtain ⟨b1, b2, b3, b4, b5, b6, b7⟩ := c1 h' hl'
    refine ⟨b1, b2, b3, b4, b5, ?_, b7⟩
    by_cases e : h' = h
    · subst e
      funext j
      show up2 S.1 (ad h') k v (ad h') j = up2 κ.1 h' k v h' j
      unfold up2
      by_cases ej : j = k
      · rw [if_pos ⟨rfl, ej⟩, if_pos ⟨rfl, ej⟩]
      · rw [if_neg (fun z => ej z.2), if_neg (fun z => ej z.2)]; exact congrFun b6 j
    · rw [hF _ (fun z => e (c2 h' h hl' hl z)), b6]
      exact (up2_ne (f := κ.1) e).symm
  · exact ⟨rfl, rfl, rfl, rfl⟩
  · show (up2 κ.1 h k v 69 i).toInt8.toInt32 = up2 κ.1 h k v 69 i
    unfold up2
    by_cases e : 69 = h ∧ i = k
    · rw [if_pos e]; exact hb e.1.symm
    · rw [if_neg e]; exact c20 i
theorem CV.setL {ad : Nat → Nat} {κ : Km} {S : Mem} {h k : Nat} {v : Int64} (hC : CV ad κ S) (hl : live κ h) : CV ad (cL κ h k v) (uL S (ad h) k v) ∧ Fc S (uL S (ad h) k v) := by
  obtain ⟨c1, c2, c3, c4, c5, c6, c7, c8, c9, c10, c11, c12, c13, c14, c15, c16, c17, c18, c19, c20, c21⟩ := hC
  obtain ⟨a1, a2, a3, -⟩ := c1 h hl
  have hF : ∀ a, a ≠ ad h → gL (uL S (ad h) k v) a = gL S a := fun a ha => up2_ne (f := S.2.1) ha
  have hvw : vw 92 (uL S (ad h) k v) = vw 92 S := vw_cong (fun a h1 h2 => ⟨rfl, hF a (by omega)⟩)
  refine ⟨⟨fun h' hl' => ?_, c2, c3, c4, c5, c6, c7, c8, c9, c10, c11, c12, c13, c14, c15, c16, c17.fr' ⟨rfl, rfl, rfl, rfl⟩, c18, c19, c20, c21⟩, hvw, rfl, rfl⟩
  obtain ⟨b1, b2, b3, b4, b5, b6, b7⟩ := c1 h' hl'
  refine ⟨b1, b2, b3, b4, b5, b6, ?_⟩
  by_cases e : h' = h
  · subst e
    funext j
    show up2 S.2.1 (ad h') k v (ad h') j = up2 κ.2.1 h' k v h' j
    unfold up2
    by_cases ej : j = k
    · rw [if_pos ⟨rfl, ej⟩, if_pos ⟨rfl, ej⟩]
    · rw [if_neg (fun z => ej z.2), if_neg (fun z => ej z.2)]; exact congrFun b7 j
  · rw [hF _ (fun z => e (c2 h' h hl' hl z)), b7]
    exact (up2_ne (f := κ.2.1) e).symm
theorem live_ge {κ : Km} {h : Nat} (hl : live κ h) : 64 ≤ h := by
  unfold live at hl
  omega
theorem CV.k {ad : Nat → Nat} {κ : Km} {S : Mem} {h c : Nat} (hC : CV ad κ S) (ho : isH κ h c) : isK S (ad h) c := ⟨(hC.1 h ho.1).2.1, (hC.1 h ho.1).2.2.2.1.trans ho.2⟩
theorem CV.n {ad : Nat → Nat} {κ : Km} {S : Mem} {h c : Nat} (hC : CV ad κ S) (ho : isH κ h c) (hc : 20 ≤ c) : gN S (ad h) = kW κ h := (hC.1 h ho.1).2.2.2.2.1 (by rw [ho.2]; exact hc)
theorem CV.i {ad : Nat → Nat} {κ : Km} {S : Mem} {h k : Nat} (hC : CV ad κ S) (hl : live κ h) : gI S (ad h) k = kI κ h k := congrFun (hC.1 h hl).2.2.2.2.2.1 k
theorem CV.l {ad : Nat → Nat} {κ : Km} {S : Mem} {h k : Nat} (hC : CV ad κ S) (hl : live κ h) : gL S (ad h) k = kL κ h k := congrFun (hC.1 h hl).2.2.2.2.2.2 k
theorem mps_R {ad : Nat → Nat} {h : Nat} {st : List AV} (hh : 64 ≤ h) : mps ad (vR h :: st) = vR (ad h) :: mps ad st := by
  show Sum.inr (Sum.inr (if h < 64 then h else ad h)) :: mps ad st = _
  rw [if_neg (by omega)]
theorem mps_IR {ad : Nat → Nat} {h : Nat} {i : Int32} {st : List AV} (hh : 64 ≤ h) : mps ad (vI i :: vR h :: st) = vI i :: vR (ad h) :: mps ad st := by
  show vI i :: mps ad (vR h :: st) = _
  rw [mps_R hh]
theorem mps_LR {ad : Nat → Nat} {h : Nat} {i : Int64} {st : List AV} (hh : 64 ≤ h) : mps ad (vL i :: vR h :: st) = vL i :: vR (ad h) :: mps ad st := by
  show vL i :: mps ad (vR h :: st) = _
  rw [mps_R hh]
theorem fixH {κ : Km} (h c : Nat) (h1 : 64 ≤ h ∧ h < 92) (h2 : hk h = c) : isH κ h c := ⟨Or.inl h1, h2⟩
theorem isH.mo {κ κ' : Km} {h c : Nat} (ho : isH κ h c) (hc : c < 20) (mo : Mo κ κ') : isH κ' h c := ⟨live_mo ho.1 (by rw [ho.2]; exact hc) mo, ho.2⟩
theorem isH.b {κ : Km} {h : Nat} (ho : isH κ h 0) : 1000 ≤ h ∧ h % 8 = 0 ∧ (h - 1000) / 8 < kB κ := by
  rcases hk_obj ho.1 (by rw [ho.2]; decide) with c | c | c
  · exfalso
    have h2 : ∀ i : Fin 92, hk i.1 ≠ 0 := by decide
    exact h2 ⟨h, c.2⟩ ho.2
  · exact c
  · exfalso
    have h2 := ho.2
    unfold hk at h2
    rw [if_neg (by omega), if_neg (by omega), if_neg (by omega), if_pos (by omega)] at h2
    omega
theorem isH.v {κ : Km} {h : Nat} (ho : isH κ h 10) : 1000 ≤ h ∧ h % 8 = 2 ∧ 1 ≤ (h - 1000) / 8 ∧ (h - 1000) / 8 ≤ kV κ := by
  rcases hk_obj ho.1 (by rw [ho.2]; decide) with c | c | c
  · exfalso
    have h2 : ∀ i : Fin 92, hk i.1 ≠ 10 := by decide
    exact h2 ⟨h, c.2⟩ ho.2
  · exfalso
    have h2 := ho.2
    unfold hk at h2
    rw [if_neg (by omega), if_pos (by omega)] at h2
    omega
  · exact c
theorem isH_body {κ : Km} {i : Nat} (h : i < kB κ) : isH κ (1000 + 8 * i) 0 := ⟨Or.inr (Or.inl ⟨by omega, by omega, by omega⟩), by unfold hk; rw [if_neg (by omega), if_pos (by omega)]⟩
theorem isH_names {κ : Km} {i : Nat} (h : i < kB κ) : isH κ (1001 + 8 * i) 22 := ⟨Or.inr (Or.inr (Or.inl ⟨by omega, by omega, by omega⟩)), by unfold hk; rw [if_neg (by omega), if_neg (by omega), if_pos (by omega)]⟩
theorem isH_voice {κ : Km} {n : Nat} (h1 : 1 ≤ n) (h : n ≤ kV κ) : isH κ (1002 + 8 * n) 10 := ⟨Or.inr (Or.inr (Or.inr (Or.inl ⟨by omega, by omega, by omega, by omega⟩))), by unfold hk; rw [if_neg (by omega), if_neg (by omega), if_neg (by omega), if_pos (by omega)]⟩
theorem isH_cells {κ : Km} {n : Nat} (h1 : 1 ≤ n) (h : n ≤ kV κ) (h0 : kW κ (1003 + 8 * n) ≠ 0) : isH κ (1003 + 8 * n) 21 := ⟨Or.inr (Or.inr (Or.inr (Or.inr (Or.inl ⟨by omega, by omega, by omega, by omega, h0⟩)))), by unfold hk; rw [if_neg (by omega), if_neg (by omega), if_neg (by omega), if_neg (by omega)]⟩
theorem CV.k' {ad : Nat → Nat} {κ : Km} {S : Mem} {h c : Nat} (hC : CV ad κ S) (ho : isH κ h c) : isK S (if h < 64 then h else ad h) c := by
  have := live_ge ho.1
  rw [if_neg (by omega)]
  exact hC.k ho
def okL (κ : Km) : Lv → Prop
  | [] => True
  | q :: r => okv κ q.2 ∧ okL κ r
def okS (κ : Km) : List AV → Prop
  | [] => True
  | v :: r => okv κ v ∧ okS κ r
theorem okL.all {κ : Km} : ∀ l : Lv, okL κ l → ∀ q ∈ l, okv κ q.2 := by
  intro l
  induction l with
  | nil => intro _ q hq; cases hq
  | cons a r ih =>
    intro h q hq
    rcases List.mem_cons.mp hq with rfl | hq
    · exact h.1
    · exact ih h.2 q hq
theorem okS.all {κ : Km} : ∀ l : List AV, okS κ l → ∀ v ∈ l, okv κ v := by
  intro l
  induction l with
  | nil => intro _ q hq; cases hq
  | cons a r ih =>
    intro h q hq
    rcases List.mem_cons.mp hq with rfl | hq
    · exact h.1
    · exact ih h.2 q hq
theorem isH.ok {κ : Km} {h c : Nat} (ho : isH κ h c) (hc : c < 20) : okv κ (vR h) := Or.inr ⟨ho.1, by rw [ho.2]; exact hc⟩
section KROWS2
variable {X : Cx} {d : Nat} {M : MI} {pc pc2 : Nat} {lv lv2 : Lv} {st st2 : List AV} {κ : Km} {Q : Res → Km → Prop}
theorem K_getI {ci : Nat} {Cn : String} {T : u_T} {N : Nat} {ty : Nat → FieldType} (B : KC ci Cn T N ty) {ix h : Nat} (k : Nat) (hd : decode M.2.1 pc = .ok (.getfield ix, 3)) (hw : Cond.fieldLink (kcn.getD M.2.2.2.2 "") ix (T k).1 (T k).2.1 (T k).2.2.1 ∈ lw_tbl) (hk : k < N) (hv : ∀ (S : Mem) (a : Nat), fvl X S a (ty k) k = .int (gI S a k)) (hp : pc + 3 = pc2) (ho : isH κ h ci)
    (kk : K X d M pc2 lv (vI (kI κ h k) :: st) κ Q) : K X d M pc lv (vR h :: st) κ Q :=
  K_p (fun ad S Q' hC k' => by rw [mps_R (live_ge ho.1)]; exact V_getI B (pc2 := pc2) k hd hw hk (fun S => hv S _) hp (hC.k ho) (by rw [hC.i ho.1]; exact k')) kk
theorem K_getL {ci : Nat} {Cn : String} {T : u_T} {N : Nat} {ty : Nat → FieldType} (B : KC ci Cn T N ty) {ix h : Nat} (k : Nat) (hd : decode M.2.1 pc = .ok (.getfield ix, 3)) (hw : Cond.fieldLink (kcn.getD M.2.2.2.2 "") ix (T k).1 (T k).2.1 (T k).2.2.1 ∈ lw_tbl) (hk : k < N) (hv : ∀ (S : Mem) (a : Nat), fvl X S a (ty k) k = .long (gL S a k)) (hp : pc + 3 = pc2) (ho : isH κ h ci)
    (kk : K X d M pc2 lv (vL (kL κ h k) :: st) κ Q) : K X d M pc lv (vR h :: st) κ Q :=
  K_p (fun ad S Q' hC k' => by rw [mps_R (live_ge ho.1)]; exact V_getL B (pc2 := pc2) k hd hw hk (fun S => hv S _) hp (hC.k ho) (by rw [hC.l ho.1]; exact k')) kk
/-- a reference that never changes -/
theorem K_getF {ci : Nat} {Cn : String} {T : u_T} {N : Nat} {ty : Nat → FieldType} (B : KC ci Cn T N ty) {ix h h' : Nat} (k : Nat) (hm : (h, k, h') ∈ hRs) (hd : decode M.2.1 pc = .ok (.getfield ix, 3)) (hw : Cond.fieldLink (kcn.getD M.2.2.2.2 "") ix (T k).1 (T k).2.1 (T k).2.2.1 ∈ lw_tbl) (hk : k < N) (hv : ∀ (S : Mem) (a : Nat), fvl X S a (ty k) k = va_rf (rO X (gR S a k))) (hp : pc + 3 = pc2) (ho : isH κ h ci) (h64 : 64 ≤ h')
    (kk : K X d M pc2 lv (vR h' :: st) κ Q) : K X d M pc lv (vR h :: st) κ Q :=
  K_p (fun ad S Q' hC k' => by rw [mps_R (live_ge ho.1)]; rw [mps_R h64] at k'; exact V_getR B (pc2 := pc2) k hd hw hk (fun S => hv S _) hp (hC.k ho) (by rw [hC.2.2.2.1 _ hm]; exact k')) kk
/-- a body's names -/
theorem K_getN {ix h : Nat} (hd : decode M.2.1 pc = .ok (.getfield ix, 3)) (hw : Cond.fieldLink (kcn.getD M.2.2.2.2 "") ix (TX0 0).1 (TX0 0).2.1 (TX0 0).2.2.1 ∈ lw_tbl) (hp : pc + 3 = pc2) (ho : isH κ h 0)
    (kk : K X d M pc2 lv (vR (h + 1) :: st) κ Q) : K X d M pc lv (vR h :: st) κ Q :=
  K_p (fun ad S Q' hC k' => by
    have hb := ho.b
    rw [mps_R (live_ge ho.1)]; rw [mps_R (by omega)] at k'
    have e := hC.2.2.2.2.1 ((h - 1000) / 8) hb.2.2
    rw [show 1000 + 8 * ((h - 1000) / 8) = h by omega, show 1001 + 8 * ((h - 1000) / 8) = h + 1 by omega] at e
    exact V_getR kc0 (pc2 := pc2) 0 hd hw (by decide) (fun _ => rfl) hp (hC.k ho) (by rw [e]; exact k')) kk
/-- a voice's cells -/
theorem K_getV {ix h : Nat} (hd : decode M.2.1 pc = .ok (.getfield ix, 3)) (hw : Cond.fieldLink (kcn.getD M.2.2.2.2 "") ix (TX10 12).1 (TX10 12).2.1 (TX10 12).2.2.1 ∈ lw_tbl) (hp : pc + 3 = pc2) (ho : isH κ h 10)
    (kk : K X d M pc2 lv (vR (h + 1) :: st) κ Q) : K X d M pc lv (vR h :: st) κ Q :=
  K_p (fun ad S Q' hC k' => by
    have hb := ho.v
    rw [mps_R (live_ge ho.1)]; rw [mps_R (by omega)] at k'
    have e := (hC.2.2.2.2.2.1 ((h - 1000) / 8) hb.2.2.1 hb.2.2.2).1
    rw [show 1002 + 8 * ((h - 1000) / 8) = h by omega, show 1003 + 8 * ((h - 1000) / 8) = h + 1 by omega] at e
    exact V_getR kc10 (pc2 := pc2) 12 hd hw (by decide) (fun _ => rfl) hp (hC.k ho) (by rw [e]; exact k')) kk
/-- the parser's current body -/
theorem K_getC {ix : Nat} (hd : decode M.2.1 pc = .ok (.getfield ix, 3)) (hw : Cond.fieldLink (kcn.getD M.2.2.2.2 "") ix (TX5 3).1 (TX5 3).2.1 (TX5 3).2.2.1 ∈ lw_tbl) (hp : pc + 3 = pc2)
    (kk : K X d M pc2 lv (vR (kC κ) :: st) κ Q) : K X d M pc lv (vR 77 :: st) κ Q :=
  K_p (fun ad S Q' hC k' => by
    have ho : isH κ 77 5 := fixH 77 5 (by decide) rfl
    rw [mps_R (by decide)]
    refine V_getR kc5 (pc2 := pc2) 3 hd hw (by decide) (fun _ => rfl) hp (hC.k ho) ?_
    rw [hC.2.2.2.2.2.2.1]
    by_cases c : kC κ = 0
    · rw [if_pos c]; rw [c] at k'; exact k'
    · rw [if_neg c]
      have := live_ge (hC.2.2.2.2.2.2.2.1.resolve_left c).1
      rw [mps_R this] at k'; exact k') kk
theorem K_putC {ix h : Nat} (hd : decode M.2.1 pc = .ok (.putfield ix, 3)) (hw : Cond.fieldLink (kcn.getD M.2.2.2.2 "") ix (TX5 3).1 (TX5 3).2.1 (TX5 3).2.2.1 ∈ lw_tbl) (hp : pc + 3 = pc2) (hh : h = 0 ∨ isH κ h 0)
    (kk : K X d M pc2 lv st (cC κ h) Q) : K X d M pc lv (vR h :: vR 77 :: st) κ Q := by
  have ho : isH κ 77 5 := fixH 77 5 (by decide) rfl
  refine K_w (κ2 := cC κ h) (fun ad S => uR S (ad 77) 3 (if h < 64 then h else ad h)) Mo.refl (fun ad S hC => ?_) (fun ad S Q' hC k' => ?_) kk
  · obtain ⟨c1, c2, c3, c4, c5, c6, c7, c8, c9, c10, c11, c12, c13, c14, c15, c16, c17, c18, c19, c20, c21⟩ := hC
    have e77 : ad 77 = 77 := c3 77 (by unfold still; decide)
    have hR : ∀ a, a ≠ ad 77 → gR (uR S (ad 77) 3 (if h < 64 then h else ad h)) a = gR S a := fun a ha => up2_ne (f := S.2.2.1) ha
    have hR3 : ∀ a k, k ≠ 3 → gR (uR S (ad 77) 3 (if h < 64 then h else ad h)) a k = gR S a k := fun a k hk => up2_nk (f := S.2.2.1) hk
    have l77 : live κ 77 := ho.1
    have inj : ∀ x, live κ x → x ≠ 77 → ad x ≠ ad 77 := fun x hx hn z => hn (c2 x 77 hx l77 z)
    have fx : ∀ x, 64 ≤ x → x < 92 → live κ x := fun x a b => Or.inl ⟨a, b⟩
    refine ⟨⟨c1, c2, c3, fun q hq => ?_, fun i hi => ?_, fun n h1 h2 => ⟨?_, (c6 n h1 h2).2⟩, ?_, ?_, fun i hi => ?_, fun i hi => ?_, fun s hs h0 => ?_, c12, c13, c14, c15, c16, ?_, c18, c19, c20, c21⟩, vw_cong (fun a _ _ => ⟨rfl, rfl⟩), rfl, rfl⟩
    · have hq3 : ∀ q ∈ hRs, ¬ (q.1 = 77 ∧ q.2.1 = 3) := by decide
      have hql : ∀ q ∈ hRs, 64 ≤ q.1 ∧ q.1 < 92 := by decide
      by_cases e : q.1 = 77
      · rw [hR3 _ _ (fun z => hq3 q hq ⟨e, z⟩)]; exact c4 q hq
      · rw [hR _ (inj q.1 (fx _ (hql q hq).1 (hql q hq).2) e)]; exact c4 q hq
    · rw [hR _ (inj _ (isH_body hi).1 (by omega))]; exact c5 i hi
    · rw [hR _ (inj _ (isH_voice h1 h2).1 (by omega))]; exact (c6 n h1 h2).1
    · show gR (uR S (ad 77) 3 (if h < 64 then h else ad h)) (ad 77) 3 = if h = 0 then 0 else ad h
      rw [gR_uR, if_pos ⟨rfl, rfl⟩]
      rcases hh with rfl | hl
      · rfl
      · have := live_ge hl.1
        rw [if_neg (by omega), if_neg (by omega)]
    · exact hh
    · rw [hR _ (inj 71 (fx 71 (by decide) (by decide)) (by decide))]; exact c9 i hi
    · rw [hR _ (inj 89 (fx 89 (by decide) (by decide)) (by decide))]; exact c10 i hi
    · rw [hR _ (inj 90 (fx 90 (by decide) (by decide)) (by decide))]; exact c11 s hs h0
    · obtain ⟨l1, l2, l3, l4⟩ := c17
      refine ⟨l1, l2, fun k hk h0 => ?_, fun i hi => ?_⟩
      · obtain ⟨q1, q2, q3⟩ := l3 k hk h0
        exact ⟨by rw [hR _ (by rw [e77]; decide)]; exact q1, q2, q3⟩
      · rw [hR _ (by rw [e77]; decide)]; exact l4 i hi
  · have e : mps ad (vR h :: vR 77 :: st) = vR (if h < 64 then h else ad h) :: vR (ad 77) :: mps ad st := by
      show Sum.inr (Sum.inr (if h < 64 then h else ad h)) :: mps ad (vR 77 :: st) = _
      rw [mps_R (by decide)]
    rw [e]
    exact V_putR kc5 (pc2 := pc2) 3 hd hw (by decide) (Or.inl rfl) (Or.inl ⟨_, rfl⟩) hp (hC.k ho) k'
/-- a row of pairs -/
theorem K_getP {ix h : Nat} (hd : decode M.2.1 pc = .ok (.getfield ix, 3)) (hw : Cond.fieldLink (kcn.getD M.2.2.2.2 "") ix (TX4 0).1 (TX4 0).2.1 (TX4 0).2.2.1 ∈ lw_tbl) (hp : pc + 3 = pc2) (hh : h = 80 ∨ h = 82)
    (kk : K X d M pc2 lv (vR (h + 1) :: st) κ Q) : K X d M pc lv (vR h :: st) κ Q := by
  rcases hh with rfl | rfl
  · exact K_getF kc4 (h' := 81) 0 (by decide) hd hw (by decide) (fun _ _ => rfl) hp (fixH 80 4 (by decide) rfl) (by decide) kk
  · exact K_getF kc4 (h' := 83) 0 (by decide) hd hw (by decide) (fun _ _ => rfl) hp (fixH 82 4 (by decide) rfl) (by decide) kk
theorem K_putI {ci : Nat} {Cn : String} {T : u_T} {N : Nat} {ty : Nat → FieldType} (B : KC ci Cn T N ty) {ix h : Nat} {x : Int32} (k : Nat) (hd : decode M.2.1 pc = .ok (.putfield ix, 3)) (hw : Cond.fieldLink (kcn.getD M.2.2.2.2 "") ix (T k).1 (T k).2.1 (T k).2.2.1 ∈ lw_tbl) (hk : k < N) (hf : finOk M (T k)) (hty : ty k = .int) (hp : pc + 3 = pc2) (ho : isH κ h ci) (h69 : h ≠ 69)
    (kk : K X d M pc2 lv st (cI κ h k x) Q) : K X d M pc lv (vI x :: vR h :: st) κ Q :=
  K_w (κ2 := cI κ h k x) (fun ad S => uI S (ad h) k x) Mo.refl (fun ad S hC => hC.setI ho.1 (fun e => absurd e h69)) (fun ad S Q' hC k' => by rw [mps_IR (live_ge ho.1)]; exact V_putI B (pc2 := pc2) k hd hw hk hf hty hp (hC.k ho) k') kk
theorem K_putZ {ci : Nat} {Cn : String} {T : u_T} {N : Nat} {ty : Nat → FieldType} (B : KC ci Cn T N ty) {ix h : Nat} {x : Int32} (k : Nat) (hd : decode M.2.1 pc = .ok (.putfield ix, 3)) (hw : Cond.fieldLink (kcn.getD M.2.2.2.2 "") ix (T k).1 (T k).2.1 (T k).2.2.1 ∈ lw_tbl) (hk : k < N) (hf : finOk M (T k)) (hty : ty k = .boolean) (hp : pc + 3 = pc2) (ho : isH κ h ci) (h69 : h ≠ 69) (hx : x = 0 ∨ x = 1)
    (kk : K X d M pc2 lv st (cI κ h k x) Q) : K X d M pc lv (vI x :: vR h :: st) κ Q :=
  K_w (κ2 := cI κ h k x) (fun ad S => uI S (ad h) k x) Mo.refl (fun ad S hC => hC.setI ho.1 (fun e => absurd e h69)) (fun ad S Q' hC k' => by rw [mps_IR (live_ge ho.1)]; exact V_putZ B (pc2 := pc2) k hd hw hk hf hty hp (hC.k ho) hx k') kk
theorem K_putL {ci : Nat} {Cn : String} {T : u_T} {N : Nat} {ty : Nat → FieldType} (B : KC ci Cn T N ty) {ix h : Nat} {x : Int64} (k : Nat) (hd : decode M.2.1 pc = .ok (.putfield ix, 3)) (hw : Cond.fieldLink (kcn.getD M.2.2.2.2 "") ix (T k).1 (T k).2.1 (T k).2.2.1 ∈ lw_tbl) (hk : k < N) (hf : finOk M (T k)) (hty : ty k = .long) (hp : pc + 3 = pc2) (ho : isH κ h ci)
    (kk : K X d M pc2 lv st (cL κ h k x) Q) : K X d M pc lv (vL x :: vR h :: st) κ Q :=
  K_w (κ2 := cL κ h k x) (fun ad S => uL S (ad h) k x) Mo.refl (fun ad S hC => hC.setL ho.1) (fun ad S Q' hC k' => by rw [mps_LR (live_ge ho.1)]; exact V_putL B (pc2 := pc2) k hd hw hk hf hty hp (hC.k ho) k') kk
theorem K_iald {h : Nat} {i : Int32} (hd : decode M.2.1 pc = .ok (.iaload, 1)) (hp : pc + 1 = pc2) (ho : isH κ h 21) (hin : vp_in i (kW κ h)) (kk : K X d M pc2 lv (vI (kI κ h i.toNatClampNeg) :: st) κ Q) : K X d M pc lv (vI i :: vR h :: st) κ Q :=
  K_p (fun ad S Q' hC k' => by rw [mps_IR (live_ge ho.1)]; exact V_iald hd hp (hC.k ho) (by rw [hC.n ho (by decide)]; exact hin) (by rw [hC.i ho.1]; exact k')) kk
theorem K_bald {h : Nat} {i : Int32} (hd : decode M.2.1 pc = .ok (.baload, 1)) (hp : pc + 1 = pc2) (ho : isH κ h 20) (hin : vp_in i (kW κ h)) (kk : K X d M pc2 lv (vI (kI κ h i.toNatClampNeg) :: st) κ Q) : K X d M pc lv (vI i :: vR h :: st) κ Q :=
  K_p (fun ad S Q' hC k' => by rw [mps_IR (live_ge ho.1)]; exact V_bald hd hp (hC.k ho) (by rw [hC.n ho (by decide)]; exact hin) (by rw [hC.i ho.1]; exact k')) kk
theorem K_lald {h : Nat} {i : Int32} (hd : decode M.2.1 pc = .ok (.laload, 1)) (hp : pc + 1 = pc2) (ho : isH κ h 22) (hin : vp_in i (kW κ h)) (kk : K X d M pc2 lv (vL (kL κ h i.toNatClampNeg) :: st) κ Q) : K X d M pc lv (vI i :: vR h :: st) κ Q :=
  K_p (fun ad S Q' hC k' => by rw [mps_IR (live_ge ho.1)]; exact V_lald hd hp (hC.k ho) (by rw [hC.n ho (by decide)]; exact hin) (by rw [hC.l ho.1]; exact k')) kk
theorem K_iast {h : Nat} {i x : Int32} (hd : decode M.2.1 pc = .ok (.iastore, 1)) (hp : pc + 1 = pc2) (ho : isH κ h 21) (hin : vp_in i (kW κ h)) (kk : K X d M pc2 lv st (cI κ h i.toNatClampNeg x) Q) : K X d M pc lv (vI x :: vI i :: vR h :: st) κ Q :=
  K_w (κ2 := cI κ h i.toNatClampNeg x) (fun ad S => uI S (ad h) i.toNatClampNeg x) Mo.refl (fun ad S hC => hC.setI ho.1 (fun e => by have := ho.2; rw [e] at this; exact absurd this (by decide))) (fun ad S Q' hC k' => by
    show V X d M pc _ (vI x :: mps ad (vI i :: vR h :: st)) S Q'
    rw [mps_IR (live_ge ho.1)]; exact V_iast hd hp (hC.k ho) (by rw [hC.n ho (by decide)]; exact hin) k') kk
theorem i8i8 (x : Int32) : x.toInt8.toInt32.toInt8.toInt32 = x.toInt8.toInt32 := by simp
theorem K_bast {h : Nat} {i x : Int32} (hd : decode M.2.1 pc = .ok (.bastore, 1)) (hp : pc + 1 = pc2) (ho : isH κ h 20) (hin : vp_in i (kW κ h)) (kk : K X d M pc2 lv st (cI κ h i.toNatClampNeg x.toInt8.toInt32) Q) : K X d M pc lv (vI x :: vI i :: vR h :: st) κ Q :=
  K_w (κ2 := cI κ h i.toNatClampNeg x.toInt8.toInt32) (fun ad S => uI S (ad h) i.toNatClampNeg x.toInt8.toInt32) Mo.refl (fun ad S hC => hC.setI ho.1 (fun _ => i8i8 x)) (fun ad S Q' hC k' => by
    show V X d M pc _ (vI x :: mps ad (vI i :: vR h :: st)) S Q'
    rw [mps_IR (live_ge ho.1)]; exact V_bast hd hp (hC.k ho) (by rw [hC.n ho (by decide)]; exact hin) k') kk
theorem K_last {h : Nat} {i : Int32} {x : Int64} (hd : decode M.2.1 pc = .ok (.lastore, 1)) (hp : pc + 1 = pc2) (ho : isH κ h 22) (hin : vp_in i (kW κ h)) (kk : K X d M pc2 lv st (cL κ h i.toNatClampNeg x) Q) : K X d M pc lv (vL x :: vI i :: vR h :: st) κ Q :=
  K_w (κ2 := cL κ h i.toNatClampNeg x) (fun ad S => uL S (ad h) i.toNatClampNeg x) Mo.refl (fun ad S hC => hC.setL ho.1) (fun ad S Q' hC k' => by
    show V X d M pc _ (vL x :: mps ad (vI i :: vR h :: st)) S Q'
    rw [mps_IR (live_ge ho.1)]; exact V_last hd hp (hC.k ho) (by rw [hC.n ho (by decide)]; exact hin) k') kk
/-- lengths -/
theorem K_alen {h c : Nat} (hd : decode M.2.1 pc = .ok (.arraylength, 1)) (hp : pc + 1 = pc2) (ho : isH κ h c) (hc : 20 ≤ c) (hc2 : c < 28) (kk : K X d M pc2 lv (vI (nI (kW κ h)) :: st) κ Q) : K X d M pc lv (vR h :: st) κ Q :=
  K_p (fun ad S Q' hC k' => by rw [mps_R (live_ge ho.1)]; exact V_alen (k := c) hd hp hc hc2 (hC.k ho) (by have := (hC.1 h ho.1).1; omega) (by rw [hC.n ho hc]; exact k')) kk
theorem K_alenV {h : Nat} (hd : decode M.2.1 pc = .ok (.arraylength, 1)) (hp : pc + 1 = pc2) (ho : isH κ h 10) (kk : K X d M pc2 lv (vI (nI (kW κ (h + 1))) :: st) κ Q) : K X d M pc lv (vR (h + 1) :: st) κ Q :=
  K_p (fun ad S Q' hC k' => by
    have hb := ho.v
    rw [mps_R (by omega)]
    by_cases c : kW κ (h + 1) = 0
    · have e := (hC.2.2.2.2.2.1 ((h - 1000) / 8) hb.2.2.1 hb.2.2.2).2
      rw [show 1003 + 8 * ((h - 1000) / 8) = h + 1 by omega] at e
      rw [e c]
      refine V_alenI hd hp ⟨by have := hC.2.2.2.2.2.2.2.2.2.2.2.2.2.2.2.1; omega, hC.2.2.2.2.2.2.2.2.2.2.2.2.2.2.2.2.2.1⟩ ?_
      rw [hC.2.2.2.2.2.2.2.2.2.2.2.2.2.2.2.2.2.2.1, ← c]; exact k'
    · have hh := isH_cells (κ := κ) (n := (h - 1000) / 8) hb.2.2.1 hb.2.2.2 (by rw [show 1003 + 8 * ((h - 1000) / 8) = h + 1 by omega]; exact c)
      rw [show 1003 + 8 * ((h - 1000) / 8) = h + 1 by omega] at hh
      exact V_alenI hd hp (hC.k hh) (by rw [hC.n hh (by decide)]; exact k')) kk
/-- bodies and voices by their numbers -/
theorem K_aB {i : Int32} (hd : decode M.2.1 pc = .ok (.aaload, 1)) (hp : pc + 1 = pc2) (hin : vp_in i 12) (kk : K X d M pc2 lv (vR (if i.toNatClampNeg < kB κ then 1000 + 8 * i.toNatClampNeg else 0) :: st) κ Q) : K X d M pc lv (vI i :: vR 71 :: st) κ Q :=
  K_p (fun ad S Q' hC k' => by
    have ho : isH κ 71 24 := fixH 71 24 (by decide) rfl
    have hlt : i.toNatClampNeg < 12 := Nat.not_le.mp fun q => hin (Or.inr q)
    rw [mps_IR (by decide)]
    refine V_aald (k := 24) hd hp (by decide) (by decide) (hC.k ho) (by rw [hC.n ho (by decide), hC.2.2.2.2.2.2.2.2.2.2.2.2.2.2.2.2.2.2.2.2 (71, 12) (by decide)]; exact hin) ?_
    rw [hC.2.2.2.2.2.2.2.2.1 _ hlt]
    by_cases c : i.toNatClampNeg < kB κ
    · rw [if_pos c] at k' ⊢; rw [mps_R (by omega)] at k'; exact k'
    · rw [if_neg c] at k' ⊢; exact k') kk
theorem K_aV {i : Int32} (hd : decode M.2.1 pc = .ok (.aaload, 1)) (hp : pc + 1 = pc2) (hin : vp_in i 61) (kk : K X d M pc2 lv (vR (if 1 ≤ i.toNatClampNeg ∧ i.toNatClampNeg ≤ kV κ then 1002 + 8 * i.toNatClampNeg else 0) :: st) κ Q) : K X d M pc lv (vI i :: vR 89 :: st) κ Q :=
  K_p (fun ad S Q' hC k' => by
    have ho : isH κ 89 25 := fixH 89 25 (by decide) rfl
    have hlt : i.toNatClampNeg < 61 := Nat.not_le.mp fun q => hin (Or.inr q)
    rw [mps_IR (by decide)]
    refine V_aald (k := 25) hd hp (by decide) (by decide) (hC.k ho) (by rw [hC.n ho (by decide), hC.2.2.2.2.2.2.2.2.2.2.2.2.2.2.2.2.2.2.2.2 (89, 61) (by decide)]; exact hin) ?_
    rw [hC.2.2.2.2.2.2.2.2.2.1 _ hlt]
    by_cases c : 1 ≤ i.toNatClampNeg ∧ i.toNatClampNeg ≤ kV κ
    · rw [if_pos c] at k' ⊢; rw [mps_R (by omega)] at k'; exact k'
    · rw [if_neg c] at k' ⊢; exact k') kk
/-- null or not -/
theorem mpv_null {ad : Nat → Nat} {S : Mem} {h : Nat} (hC : CV ad κ S) (hh : h = 0 ∨ live κ h) : ((if h < 64 then h else ad h) = 0) = (h = 0) := by
  rcases hh with rfl | hl
  · rfl
  · have h1 := live_ge hl
    have h2 := (hC.1 h hl).1
    rw [if_neg (by omega)]
    apply propext
    constructor <;> intro z <;> omega
theorem K_ifnull {off : Int} {tgt : Nat} {h : Nat} (hd : decode M.2.1 pc = .ok (.ifnull off, 3)) (ht : (pc : Int) + off = (tgt : Int)) (hp : pc + 3 = pc2) (hh : h = 0 ∨ live κ h) (kt : h = 0 → K X d M tgt lv st κ Q) (kf : ¬ h = 0 → K X d M pc2 lv st κ Q) : K X d M pc lv (vR h :: st) κ Q :=
  K_if (fun ad S Q' hC k1 k2 => V_ifnull hd ht hp (fun z => k1 (by rw [mpv_null hC hh] at z; exact z)) (fun z => k2 (by rw [mpv_null hC hh] at z; exact z))) kt kf
theorem K_ifnonnull {off : Int} {tgt : Nat} {h : Nat} (hd : decode M.2.1 pc = .ok (.ifnonnull off, 3)) (ht : (pc : Int) + off = (tgt : Int)) (hp : pc + 3 = pc2) (hh : h = 0 ∨ live κ h) (kt : h = 0 → K X d M pc2 lv st κ Q) (kf : ¬ h = 0 → K X d M tgt lv st κ Q) : K X d M pc lv (vR h :: st) κ Q :=
  K_if (fun ad S Q' hC k1 k2 => V_ifnonnull hd ht hp (fun z => k2 (by rw [mpv_null hC hh] at z; exact z)) (fun z => k1 (by rw [mpv_null hC hh] at z; exact z))) kt kf
theorem K_look {dflt : Int} {ps : Array (Int × Int)} {len : Nat} {x : Int32} (hd : decode M.2.1 pc = .ok (.lookupswitch dflt ps, len)) (hs : (ps.toList.zip (ps.toList.drop 1)).all (fun (a, next) => a.1 < next.1) = true) (ks : List (Int32 × Int × Nat)) (dt : Nat) (hk : ps.toList = ks.map (fun q => (q.1.toInt, q.2.1))) (ht : ∀ q ∈ ks, (pc : Int) + q.2.1 = (q.2.2 : Int)) (hdt : (pc : Int) + dflt = (dt : Int)) (hu : ∀ q ∈ ks, ∀ q' ∈ ks, q.1 = q'.1 → q.2.2 = q'.2.2)
    (kt : ∀ q ∈ ks, x = q.1 → K X d M q.2.2 lv st κ Q) (kd : (∀ q ∈ ks, ¬ x = q.1) → K X d M dt lv st κ Q) : K X d M pc lv (vI x :: st) κ Q := by
  by_cases h : ∃ q ∈ ks, x = q.1
  · obtain ⟨q, hq, hx⟩ := h
    refine K_p (fun ad S Q' _ k => V_look hd hs ks dt hk ht hdt (fun q' hq' hx' => ?_) (fun z => absurd hx (z q hq))) (kt q hq hx)
    rw [hu q' hq' q hq (hx'.symm.trans hx)]; exact k
  · exact K_p (fun ad S Q' _ k => V_look hd hs ks dt hk ht hdt (fun q' hq' hx' => absurd ⟨q', hq', hx'⟩ h) (fun _ => k)) (kd (fun q hq hx => h ⟨q, hq, hx⟩))
theorem K_acmpne {off : Int} {tgt : Nat} {x y : Nat} (hd : decode M.2.1 pc = .ok (.if_acmp .ne off, 3)) (ht : (pc : Int) + off = (tgt : Int)) (hp : pc + 3 = pc2) (hx : x = 0 ∨ live κ x) (hy : y = 0 ∨ live κ y) (kt : x = y → K X d M pc2 lv st κ Q) (kf : ¬ x = y → K X d M tgt lv st κ Q) : K X d M pc lv (vR y :: vR x :: st) κ Q := by
  have key : ∀ (ad : Nat → Nat) (S : Mem), CV ad κ S → ((if x < 64 then x else ad x) = (if y < 64 then y else ad y) ↔ x = y) := by
    intro ad S hC
    refine ⟨fun z => ?_, fun z => by rw [z]⟩
    rcases hx with rfl | hx
    · rcases hy with rfl | hy
      · rfl
      · have h1 := live_ge hy; have h2 := (hC.1 y hy).1
        rw [if_pos (by decide), if_neg (by omega)] at z; omega
    · have h1 := live_ge hx; have h2 := (hC.1 x hx).1
      rcases hy with rfl | hy
      · rw [if_neg (by omega), if_pos (by decide)] at z; omega
      · have h3 := live_ge hy
        rw [if_neg (by omega), if_neg (by omega)] at z
        exact hC.2.1 x y hx hy z
  have ok : ∀ (ad : Nat → Nat) (S : Mem) (w : Nat), CV ad κ S → (w = 0 ∨ live κ w) → (64 ≤ (if w < 64 then w else ad w) ∨ (if w < 64 then w else ad w) = 0) := by
    intro ad S w hC hw
    rcases hw with rfl | hw
    · exact Or.inr rfl
    · have h1 := live_ge hw; have h2 := (hC.1 w hw).1
      rw [if_neg (by omega)]; exact Or.inl h2
  exact K_if (c := x = y) (pa := pc2) (pb := tgt) (fun ad S Q' hC k1 k2 => V_acmpne hd ht hp (ok ad S x hC hx) (ok ad S y hC hy) (fun z => k2 (fun e => z ((key ad S hC).mpr e))) (fun z => k1 ((key ad S hC).mp z))) kt kf
end KROWS2
theorem isH.n69 {κ : Km} {h c : Nat} (ho : isH κ h c) (hc : c ≠ 20) : h ≠ 69 := by
  intro e
  subst e
  exact hc (ho.2.symm.trans (by decide))
