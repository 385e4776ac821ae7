/-! THE RELATION OF RUNNING STORIES -/
section SUMS
/-- a place of a function is another -/
def un {α : Type} (f : Nat → α) (n : Nat) (x : α) : Nat → α := fun k => if k = n then x else f k
theorem un_eq {α : Type} {f : Nat → α} {n : Nat} {x : α} : un f n x n = x := if_pos rfl
theorem un_ne {α : Type} {f : Nat → α} {n k : Nat} {x : α} (h : k ≠ n) : un f n x k = f k := if_neg h
/-- sums over the voices 1 .. m -/
def cn (g : Nat → Nat) : Nat → Nat
  | 0 => 0
  | m + 1 => cn g m + g (m + 1)
theorem cn_cg {g g' : Nat → Nat} : ∀ m, (∀ n, 1 ≤ n → n ≤ m → g' n = g n) → cn g' m = cn g m := by
  intro m
  induction m with
  | zero => intro _; rfl
  | succ m ih =>
    intro h
    show cn g' m + g' (m + 1) = cn g m + g (m + 1)
    rw [ih (fun n h1 h2 => h n h1 (by omega)), h (m + 1) (by omega) (Nat.le_refl _)]
theorem cn_up {g g' : Nat → Nat} {n : Nat} (hg : ∀ k, k ≠ n → g' k = g k) : ∀ m, 1 ≤ n → n ≤ m → cn g' m + g n = cn g m + g' n := by
  intro m
  induction m with
  | zero => intro h1 h2; omega
  | succ m ih =>
    intro h1 h2
    show cn g' m + g' (m + 1) + g n = cn g m + g (m + 1) + g' n
    by_cases c : n = m + 1
    · have e : cn g' m = cn g m := cn_cg m (fun k k1 k2 => hg k (by omega))
      rw [e, c]
      omega
    · have e := ih h1 (by omega)
      rw [hg (m + 1) (fun z => c z.symm)]
      omega
theorem cn_le {g : Nat → Nat} (h : ∀ k, g k ≤ 1) : ∀ m, cn g m ≤ m := by
  intro m
  induction m with
  | zero => exact Nat.le_refl _
  | succ m ih =>
    show cn g m + g (m + 1) ≤ m + 1
    have := h (m + 1)
    omega
theorem cn_mem : ∀ (l : List Nat) (g : Nat → Nat) (m : Nat), l.Nodup → (∀ x, x ∈ l → 1 ≤ x ∧ x ≤ m ∧ 1 ≤ g x) → l.length ≤ cn g m := by
  intro l
  induction l with
  | nil => intro g m _ _; exact Nat.zero_le _
  | cons x r ih =>
    intro g m hd h
    have hx := h x (List.mem_cons_self ..)
    have hd := List.nodup_cons.mp hd
    have e := cn_up (g := g) (g' := un g x 0) (n := x) (fun k hk => un_ne hk) m hx.1 hx.2.1
    rw [un_eq] at e
    have e2 := ih (un g x 0) m hd.2 (fun y hy => by
      have hy2 := h y (List.mem_cons_of_mem _ hy)
      rw [un_ne (fun z : y = x => hd.1 (z ▸ hy))]
      exact hy2)
    show r.length + 1 ≤ cn g m
    omega
end SUMS
section REL
/-- what the machine leaves alone: the code of both -/
def hCd (h : Nat) : Prop := ((64 ≤ h ∧ h ≤ 66) ∨ h = 1003) ∨ (67 ≤ h ∧ h ≤ 78) ∨ (1000 ≤ h ∧ h % 8 ≤ 1)
/-- the marks of those that are reached -/
def ArZ (σ : Rm) : Prop := ∀ n V, sI σ 47 = nI V → V ≤ 60 → 1 ≤ n → n ≤ V → aI σ 20 (aI σ 50 n).toNatClampNeg = 0 → aI σ 51 n = 0
/-- those that are over stay so -/
def OvM (κ0 κ : Km) : Prop := ∀ V0 V, kI κ0 79 10 = nI V0 → V0 ≤ 60 → kI κ 79 10 = nI V → V ≤ 60 → V0 ≤ V ∧ ∀ m s0, 1 ≤ m → m ≤ V0 → 4 ≤ s0 → s0 ≤ 6 → kI κ0 (1002 + 8 * m) 1 = nI s0 → ∃ s, (4 ≤ s ∧ s ≤ 6) ∧ kI κ (1002 + 8 * m) 1 = nI s
def Mkd (κ0 : Km) (σ0 : Rm) (κ : Km) (σ : Rm) : Prop := kV κ0 ≤ kV κ ∧ (∀ m, m ≤ kV κ0 → kI κ (1002 + 8 * m) 10 = kI κ0 (1002 + 8 * m) 10) ∧ aI σ 98 = aI σ0 98 ∧ ArZ σ ∧ OvM κ0 κ
theorem ArZ.cg {σ σ' : Rm} (h : ArZ σ) (ea : ∀ k, k = 20 ∨ k = 47 ∨ k = 50 ∨ k = 51 → aI σ' k = aI σ k) : ArZ σ' := fun n V h47 h60 n1 n2 hz => by
  rw [ea 20 (by decide), ea 50 (by decide)] at hz
  rw [ea 51 (by decide)]
  exact h n V ((congrFun (ea 47 (by decide)) 0).symm.trans h47) h60 n1 n2 hz
theorem Mkd.cg2 {κ0 κ κ' : Km} {σ0 σ σ' : Rm} (h : Mkd κ0 σ0 κ σ) (ev : kV κ ≤ kV κ') (e : ∀ m, m ≤ kV κ → kI κ' (1002 + 8 * m) 10 = kI κ (1002 + 8 * m) 10) (ea : ∀ k, k = 20 ∨ k = 47 ∨ k = 50 ∨ k = 51 ∨ k = 98 → aI σ' k = aI σ k) (eo : OvM κ0 κ') : Mkd κ0 σ0 κ' σ' := ⟨Nat.le_trans h.1 ev, fun m hm => (e m (Nat.le_trans hm h.1)).trans (h.2.1 m hm), (ea 98 (by decide)).trans h.2.2.1, h.2.2.2.1.cg (fun k hk => ea k (by omega)), eo⟩
theorem Mkd.cg {κ0 κ κ' : Km} {σ0 σ σ' : Rm} (h : Mkd κ0 σ0 κ σ) (ev : kV κ ≤ kV κ') (e : ∀ m k, k = 1 ∨ k = 10 → kI κ' (1002 + 8 * m) k = kI κ (1002 + 8 * m) k) (e79 : kI κ' 79 10 = kI κ 79 10) (ea : ∀ k, k = 20 ∨ k = 47 ∨ k = 50 ∨ k = 51 ∨ k = 98 → aI σ' k = aI σ k) : Mkd κ0 σ0 κ' σ' := h.cg2 ev (fun m _ => e m 10 (Or.inr rfl)) ea (fun V0 V h0 h60 hV hV60 => by
  rw [e79] at hV
  obtain ⟨q1, q2⟩ := h.2.2.2.2 V0 V h0 h60 hV hV60
  refine ⟨q1, fun m s0 m1 m2 s1 s2 hs => ?_⟩
  obtain ⟨s, s3, s4⟩ := q2 m s0 m1 m2 s1 s2 hs
  exact ⟨s, s3, (e m 1 (Or.inl rfl)).trans s4⟩)
theorem OvM.refl {κ : Km} : OvM κ κ := fun V0 V h0 h60 hV hV60 => by
  rw [h0, eq_nI (by omega) (by omega)] at hV
  exact ⟨by omega, fun m s0 _ _ s1 s2 hs => ⟨s0, ⟨s1, s2⟩, hs⟩⟩
theorem Mkd.refl {κ : Km} {σ : Rm} (h : ArZ σ) : Mkd κ σ κ σ := ⟨Nat.le_refl _, fun _ _ => rfl, rfl, h, OvM.refl⟩
def Cod (κ0 : Km) (σ0 : Rm) (κ : Km) (σ : Rm) : Prop := (∀ h, hCd h → kI κ h = kI κ0 h ∧ kL κ h = kL κ0 h ∧ kW κ h = kW κ0 h) ∧ (kB κ = kB κ0 ∧ Mkd κ0 σ0 κ σ) ∧ ∀ k, 1 ≤ k → k ≤ 46 → aI σ k = aI σ0 k ∧ aL σ k = aL σ0 k
/-- the stage: voices, alive, steps, the turn, the answer, spare rows; spent or not -/
def Stg (κ : Km) (σ : Rm) (V al S T sp z : Nat) : Prop := (kI κ 79 10 = nI V ∧ sI σ 47 = nI V) ∧ (kI κ 79 11 = nI al ∧ sI σ 48 = nI al) ∧ (kI κ 79 12 = nI S ∧ sI σ 75 = nI S) ∧ (kI κ 79 13 = nI T ∧ sI σ 77 = nI T) ∧ kI κ 79 16 = sI σ 79 ∧ kI κ 79 8 = nI sp ∧ (kI κ 79 17 = nI z ∧ sI σ 76 = nI z) ∧ (V ≤ 60 ∧ V ≤ kV κ ∧ kV κ ≤ 60 ∧ al ≤ 12 ∧ S ≤ 6000 ∧ T ≤ V ∧ sp ≤ 12 ∧ z ≤ 1)
/-- the fields of a voice -/
def Vof (κ : Km) (σ : Rm) (V b n st : Nat) : Prop := kI κ (1002 + 8 * n) 0 = nI n ∧ (kI κ (1002 + 8 * n) 1 = nI st ∧ aI σ 49 n = nI st ∧ st ≤ 6) ∧ (∃ sc, sc < b ∧ kI κ (1002 + 8 * n) 2 = nI sc ∧ aI σ 50 n = nI sc ∧ aI σ 19 sc = 1) ∧ kI κ (1002 + 8 * n) 3 = aI σ 51 n ∧ (∃ mk, mk ≤ V ∧ kI κ (1002 + 8 * n) 4 = nI mk ∧ aI σ 55 n = nI mk) ∧ (kI κ (1002 + 8 * n) 5 = aI σ 54 n ∧ (aI σ 54 n = -9 ∨ ∃ rm, rm ≤ V ∧ aI σ 54 n = nI rm)) ∧ kI κ (1002 + 8 * n) 6 = aI σ 52 n ∧ kI κ (1002 + 8 * n) 7 = aI σ 53 n ∧ (∃ cl, cl ≤ 1 ∧ kI κ (1002 + 8 * n) 11 = nI cl ∧ aI σ 57 n = nI cl)
/-- what a guard keeps -/
def ItO (F0 : Nat) (x : Ite) : Prop := x.1 = 0 ∨ (x.1 = 1 ∧ x.2.2.2.1 ≤ 4 ∧ ((x.2.2.2.1 = 1 ∨ x.2.2.2.1 = 3) → ∃ f, f < F0 ∧ x.2.2.2.2 = nI (f + 1)))
/-- a call waits for the next voice of an each -/
def EaW (κ0 : Km) (σ0 : Rm) (f : Frm) : Prop := ∃ i j L0 y v i2 j2, frI f = i + 1 ∧ frJ f = j + 1 ∧ frL f = L0 ++ [(0, 0, 0, 0, y)] ∧ kI κ0 69 i = 30 ∧ aI σ0 13 j = 32 ∧ aI σ0 15 j = nI (12 + ecI L0) ∧ (v < frN f ∧ aI σ0 14 j = nI v ∧ kI κ0 69 (i + 1) = 3 ∧ kI κ0 70 (i + 1) = nI v) ∧ Good2 κ0 σ0 (fun _ => False) (frB f, i + 2, j + 1, (frL f).map itm, 0, 0) ∧ kI κ0 70 i = nI i2 ∧ aI σ0 16 j = nI j2 ∧ i < i2 ∧ Good2 κ0 σ0 (fun _ => False) (frB f, i2, j2, L0.map itm, 0, 0)
/-- a call in its mode -/
def FrM (κ0 : Km) (σ0 : Rm) (f : Frm) : Prop := (frM f = 0 ∧ Good2 κ0 σ0 (fun _ => False) (frB f, frI f, frJ f, (frL f).map itm, (frO f).length, frS f)) ∨ (frM f = 1 ∧ frS f = 1 ∧ (∃ i, frI f = i + 1 ∧ kI κ0 69 i ≠ 29 ∧ kI κ0 69 i ≠ 30) ∧ Good2 κ0 σ0 (fun _ => False) (frB f, frI f, frJ f, (frL f).map itm, (frO f).length + 1, 1)) ∨ (frM f = 2 ∧ frS f = 1 ∧ frO f = [] ∧ EaW κ0 σ0 f) ∨ (frM f = 3 ∧ frS f = 0 ∧ frO f = [] ∧ (∃ i, frI f = i + 1 ∧ kI κ0 69 i = 29) ∧ Good2 κ0 σ0 (fun _ => False) (frB f, frI f, frJ f, (frL f).map itm, 0, 0))
def FrO (κ0 : Km) (σ0 : Rm) (F0 b : Nat) (f : Frm) : Prop := frB f < b ∧ aI σ0 21 (frB f) = nI (frN f) ∧ frS f ≤ 1 ∧ (∀ x, x ∈ frL f → ItO F0 x) ∧ FrM κ0 σ0 f
/-- the calls of a voice: the outer ones wait for a value -/
def FsO (κ0 : Km) (σ0 : Rm) (F0 b : Nat) (m : Nat) : List Frm → Prop
  | [] => False
  | f :: r => frM f = m ∧ FrO κ0 σ0 F0 b f ∧ ∀ g, g ∈ r → frM g = 1 ∧ FrO κ0 σ0 F0 b g
/-- a voice's calls by its state -/
def Vfr (κ0 : Km) (σ0 : Rm) (κ : Km) (σ : Rm) (F0 b n st : Nat) (fs : List Frm) (p : Nat) : Prop := ((st = 0 ∨ 4 ≤ st) ∧ fs = [] ∧ kW κ (1002 + 8 * n + 1) = 0 ∧ aI σ 58 n = -9 ∧ kI κ (1002 + 8 * n) 8 = 0) ∨ ((1 ≤ st ∧ st ≤ 3) ∧ VK κ n fs ∧ VR σ n p fs ∧ aI σ 59 p = 1 ∧ ∃ m, FsO κ0 σ0 F0 b m fs ∧ (st = 1 → m = 1) ∧ (st = 2 → m = 0) ∧ (st = 3 → aI σ 56 n = nI m ∧ 1 ≤ m))
/-- who waits for whom: from the turn on -/
def Lnk (σ : Rm) : List Nat → Prop
  | [] => True
  | x :: r => aI σ 54 x = nI (r.headD 0) ∧ Lnk σ r
def Chan (σ : Rm) (V T : Nat) (st : Nat → Nat) (ch : List Nat) : Prop := ch.headD 0 = T ∧ ch.Nodup ∧ (∀ x, x ∈ ch → 1 ≤ x ∧ x ≤ V ∧ (st x = 2 ∨ st x = 3)) ∧ (∀ x, 1 ≤ x → x ≤ V → (st x = 2 ∨ st x = 3) → x ∈ ch) ∧ (∀ x, x ∈ ch → (st x = 2 ↔ x = T)) ∧ Lnk σ ch ∧ ∀ x, 1 ≤ x → x ≤ V → aI σ 57 x = 1 → st x ≠ 0 ∧ st x ≠ 1 ∧ (st x ≤ 3 → aI σ 54 x = 0 ∨ ∃ y, 1 ≤ y ∧ y ≤ V ∧ aI σ 54 x = nI y ∧ aI σ 56 y = 3)
/-- rows of cells and parts of the reference -/
def hasF (fr : Nat → List Frm) (n : Nat) : Nat := if (fr n).length = 0 then 0 else 1
def aliv (st : Nat → Nat) (n : Nat) : Nat := if st n < 4 then 1 else 0
def Rows (κ : Km) (σ : Rm) (V al sp : Nat) (st : Nat → Nat) (fr : Nat → List Frm) (pt : Nat → Nat) : Prop := al = cn (aliv st) V ∧ sp + cn (hasF fr) V ≤ 12 ∧ (∀ k, k < 12 → (k < sp → kW κ (1004 + 8 * k) ≠ 0 ∧ kW κ (1004 + 8 * k) ≤ 40000 ∧ 40 ≤ kW κ (1004 + 8 * k)) ∧ (sp ≤ k → kW κ (1004 + 8 * k) = 0)) ∧ (∀ n, V < n → n ≤ 60 → kW κ (1002 + 8 * n + 1) = 0) ∧ (∀ n m, 1 ≤ n → n ≤ V → 1 ≤ m → m ≤ V → n ≠ m → fr n ≠ [] → fr m ≠ [] → pt n ≠ pt m) ∧ ∀ p, p < 12 → aI σ 59 p = 0 ∨ (aI σ 59 p = 1 ∧ ∃ n, 1 ≤ n ∧ n ≤ V ∧ fr n ≠ [] ∧ pt n = p)
/-- how many statements are under way -/
def arm : List Frm → Nat
  | [] => 0
  | f :: r => frS f + arm r
def vArm (st : Nat → Nat) (fr : Nat → List Frm) (n : Nat) : Nat := arm (fr n) + if st n = 0 then 1 else 0
/-- how far a call can still go -/
def gwt (x : Ite) : Nat := if x.1 = 0 then 0 else if x.2.2.2.1 = 0 then 20500 else if x.2.2.2.1 = 1 then 10200 else 100
def gws : List Ite → Nat
  | [] => 0
  | x :: r => gwt x + gws r
def fwt (f : Frm) : Nat := (9600 - frI f) + 22000 * frS f + gws (frL f)
def fws : List Frm → Nat
  | [] => 0
  | f :: r => fwt f + fws r
def vWt (st : Nat → Nat) (fr : Nat → List Frm) (n : Nat) : Nat := fws (fr n) + if st n = 0 then 9800 else 0
def pot (V S : Nat) (st : Nat → Nat) (fr : Nat → List Frm) : Nat := (6000 - S) * 32000 + (60 - V) * 9900 + cn (vWt st fr) V
/-- lines, handings, the ring -/
def Lns (κ : Km) (σ : Rm) (LT HT : Nat) : Prop := (∃ g, PrC κ 80 LT g ∧ PRr σ 80 81 82 LT g) ∧ (∃ g, PrC κ 82 HT g ∧ PRr σ 83 84 85 HT g) ∧ ∃ R, kW κ 91 = 12 ∧ kI κ 79 9 = nI R ∧ sI σ 87 = nI R ∧ R ≤ 12 ∧ ∀ k, k < R → kI κ 91 k = aI σ 86 k
/-- all but the calls of the voices -/
def RelM (κ0 : Km) (σ0 : Rm) (κ : Km) (σ : Rm) (b V al S T sp z LT HT F0 : Nat) (st : Nat → Nat) (fr : Nat → List Frm) (pt : Nat → Nat) (ch : List Nat) : Prop := (Cod κ0 σ0 κ σ ∧ Sta b κ0 σ0 ∧ RG κ0 κ) ∧ Stg κ σ V al S T sp z ∧ (∀ n, 1 ≤ n → n ≤ V → Vof κ σ V b n (st n)) ∧ Chan σ V T st ch ∧ Rows κ σ V al sp st fr pt ∧ Lns κ σ LT HT ∧ FRl κ σ F0
/-- what is counted -/
def Acc (V S F0 LT HT : Nat) (st : Nat → Nat) (fr : Nat → List Frm) : Prop := F0 + cn (vArm st fr) V ≤ S + V ∧ LT + pot V S st fr ≤ 400000000 ∧ HT + 2 * pot V S st fr ≤ 400000000
/-- all calls but those of voice v -/
def RelV (κ0 : Km) (σ0 : Rm) (κ : Km) (σ : Rm) (b V F0 v : Nat) (st : Nat → Nat) (fr : Nat → List Frm) (pt : Nat → Nat) : Prop := ∀ n, 1 ≤ n → n ≤ V → n ≠ v → Vfr κ0 σ0 κ σ F0 b n (st n) (fr n) (pt n)
end REL
