/-! THE SMALL MACHINE: values, a memory by abstract addresses (0 is null), its picture in the heap, what a method's run is -/
abbrev AV : Type := Int32 ⊕ Int64 ⊕ Nat
abbrev vI (x : Int32) : AV := Sum.inl x
abbrev vL (x : Int64) : AV := Sum.inr (Sum.inl x)
abbrev vR (r : Nat) : AV := Sum.inr (Sum.inr r)
/-- ints, longs, references by (address, place); kinds; lengths; the next address; the slots laid so far -/
abbrev Mem : Type := (Nat → Nat → Int32) × (Nat → Nat → Int64) × (Nat → Nat → Nat) × (Nat → Nat) × (Nat → Nat) × Nat × Nat
def gI (S : Mem) (a k : Nat) : Int32 := S.1 a k
def gL (S : Mem) (a k : Nat) : Int64 := S.2.1 a k
def gR (S : Mem) (a k : Nat) : Nat := S.2.2.1 a k
def gK (S : Mem) (a : Nat) : Nat := S.2.2.2.1 a
def gN (S : Mem) (a : Nat) : Nat := S.2.2.2.2.1 a
def tp (S : Mem) : Nat := S.2.2.2.2.2.1
def sz (S : Mem) : Nat := S.2.2.2.2.2.2
def up2 {α : Type} (f : Nat → Nat → α) (a k : Nat) (v : α) : Nat → Nat → α := fun b j => if b = a ∧ j = k then v else f b j
def cl2 {α : Type} (f : Nat → Nat → α) (a : Nat) (z : α) : Nat → Nat → α := fun b j => if b = a then z else f b j
def uI (S : Mem) (a k : Nat) (v : Int32) : Mem := (up2 S.1 a k v, S.2)
def uL (S : Mem) (a k : Nat) (v : Int64) : Mem := (S.1, up2 S.2.1 a k v, S.2.2)
def uR (S : Mem) (a k : Nat) (v : Nat) : Mem := (S.1, S.2.1, up2 S.2.2.1 a k v, S.2.2.2)
def nw (S : Mem) (k n w : Nat) : Mem := (cl2 S.1 (tp S) 0, cl2 S.2.1 (tp S) 0, cl2 S.2.2.1 (tp S) 0, va_up S.2.2.2.1 (tp S) k, va_up S.2.2.2.2.1 (tp S) n, tp S + 1, sz S + w)
/-- an object, or an array, of a kind -/
def isK (S : Mem) (a k : Nat) : Prop := a < tp S ∧ gK S a = k
/-- launch, the law's start, the script's cell, class numbers, slots, array classes, addresses below 64 -/
abbrev Cx : Type := Launch × State × Nat × (Nat → ClassId) × (Nat → Nat → Nat) × (Nat → ClassId) × (Nat → Nat) × Nat × (Nat → Int32)
abbrev xl (X : Cx) : Launch := X.1
abbrev x0 (X : Cx) : State := X.2.1
abbrev xb (X : Cx) : Nat := X.2.2.1
abbrev xC (X : Cx) : Nat → ClassId := X.2.2.2.1
abbrev xI (X : Cx) : Nat → Nat → Nat := X.2.2.2.2.1
abbrev xA (X : Cx) : Nat → ClassId := X.2.2.2.2.2.1
abbrev xs (X : Cx) : Nat → Nat := X.2.2.2.2.2.2.1
abbrev xL (X : Cx) : Nat := X.2.2.2.2.2.2.2.1
abbrev xf (X : Cx) : Nat → Int32 := X.2.2.2.2.2.2.2.2
def xB (X : Cx) : Nat := (x0 X).heap.size
def ad (X : Cx) (a : Nat) : Nat := if a < 64 then xs X a else xB X + (a - 64)
def rO (X : Cx) (r : Nat) : Option Nat := if r = 0 then none else some (ad X r)
def cv (X : Cx) : AV → Value
  | .inl x => .int x
  | .inr (.inl x) => .long x
  | .inr (.inr r) => va_rf (rO X r)
def cat : AV → Nat
  | .inr (.inl _) => 2
  | _ => 1
/-- what becomes of a run: it returns, or it throws the object at an address -/
abbrev Res : Type := Option AV ⊕ Nat
def cvr (X : Cx) : Res → Outcome
  | .inl v => .returned (v.map (cv X))
  | .inr a => .threw (ad X a)
def kN : List Nat := [9, 3, 8, 3, 3, 6, 18, 4, 2, 9, 16, 6, 7, 103]
def fvl (X : Cx) (S : Mem) (a : Nat) (t : FieldType) (j : Nat) : Value := match t with
  | .long => .long (gL S a j)
  | .object _ => va_rf (rO X (gR S a j))
  | .array _ => va_rf (rO X (gR S a j))
  | _ => .int (gI S a j)
/-- array kinds: 20 byte, 21 int, 22 long, 23 boolean, 24 Body, 25 Voice, 26 int[], 27 String -/
def kel : Nat → FieldType
  | 20 => .byte
  | 21 => .int
  | 22 => .long
  | 23 => .boolean
  | 24 => .object RX0
  | 25 => .object RX10
  | 26 => .array .int
  | _ => .object "java/lang/String"
def arc (X : Cx) (S : Mem) (a : Nat) : vp_A := (gN S a, if gK S a = 22 then .inr (.inl (gL S a)) else if gK S a < 24 then .inl (gI S a) else .inr (.inr (.inr (.inr (fun i => rO X (gR S a i))))))
def atc (X : Cx) (S : Mem) (a : Nat) (H : Heap) : Prop :=
  if gK S a < 20 then t_OB (ad X a) (xC X (gK S a)) (kN.getD (gK S a) 0) (xI X (gK S a)) H (fun j => fvl X S a ((kty.getD (gK S a) (fun _ => .int)) j) j)
  else H[ad X a]? = some (vp_cell (xA X (gK S a)) (arc X S a))
/-- the kinds of what stands below 64: 1 the script, 2 .. 26 texts, 27 the empty row -/
def spk (a : Nat) : Nat := if a = 27 then 21 else if a = 1 then 91 else if 2 ≤ a ∧ a < 27 then 92 else if 28 ≤ a ∧ a < 53 then 93 else 90
def HR (X : Cx) (S : Mem) (H : Heap) : Prop :=
  64 ≤ tp S ∧ H.size = xB X + (tp S - 64) ∧ (∀ q : Nat, q < xB X → H[q]? = (x0 X).heap[q]?) ∧ (∀ a : Nat, 64 ≤ a → a < tp S → gK S a < 28 ∧ atc X S a H) ∧ (∀ a : Nat, a < 64 → gK S a = spk a) ∧ gN S 27 = 0 ∧ gN S 1 = xL X ∧ gI S 1 = xf X
abbrev tysL (X : Cx) : List (ClassId × FieldType) := [(xA X 20, .byte), (xA X 21, .int), (xA X 22, .long), (xA X 23, .boolean), (xA X 24, .object RX0), (xA X 25, .object RX10), (xA X 26, .array .int), (xA X 27, .object "java/lang/String")]
def strT : List (String × Nat × String) := [("StoryRound$Tokens", 27, "voice do if else while try catch finally throw return tell yield new resume inject close hand with into me state each of "), ("StoryRound$Tokens", 91, "(){},;=+-*/%<!"), ("StoryRoundModel", 42, "voice"), ("StoryRoundModel", 44, "do"), ("StoryRoundModel", 46, "if"), ("StoryRoundModel", 48, "else"), ("StoryRoundModel", 50, "while"), ("StoryRoundModel", 52, "try"), ("StoryRoundModel", 54, "catch"), ("StoryRoundModel", 56, "finally"), ("StoryRoundModel", 58, "throw"), ("StoryRoundModel", 60, "return"), ("StoryRoundModel", 62, "tell"), ("StoryRoundModel", 64, "yield"), ("StoryRoundModel", 66, "new"), ("StoryRoundModel", 68, "resume"), ("StoryRoundModel", 70, "inject"), ("StoryRoundModel", 72, "close"), ("StoryRoundModel", 74, "hand"), ("StoryRoundModel", 76, "with"), ("StoryRoundModel", 78, "into"), ("StoryRoundModel", 80, "me"), ("StoryRoundModel", 82, "state"), ("StoryRoundModel", 84, "each"), ("StoryRoundModel", 86, "of")]
def strL : List Nat := [121, 14, 5, 2, 2, 4, 5, 3, 5, 7, 5, 6, 4, 5, 3, 6, 6, 5, 4, 4, 4, 2, 5, 4, 2]
def strB : List (List Int32) := [[118, 111, 105, 99, 101, 32, 100, 111, 32, 105, 102, 32, 101, 108, 115, 101, 32, 119, 104, 105, 108, 101, 32, 116, 114, 121, 32, 99, 97, 116, 99, 104, 32, 102, 105, 110, 97, 108, 108, 121, 32, 116, 104, 114, 111, 119, 32, 114, 101, 116, 117, 114, 110, 32, 116, 101, 108, 108, 32, 121, 105, 101, 108, 100, 32, 110, 101, 119, 32, 114, 101, 115, 117, 109, 101, 32, 105, 110, 106, 101, 99, 116, 32, 99, 108, 111, 115, 101, 32, 104, 97, 110, 100, 32, 119, 105, 116, 104, 32, 105, 110, 116, 111, 32, 109, 101, 32, 115, 116, 97, 116, 101, 32, 101, 97, 99, 104, 32, 111, 102, 32], [40, 41, 123, 125, 44, 59, 61, 43, 45, 42, 47, 37, 60, 33], [118, 111, 105, 99, 101], [100, 111], [105, 102], [101, 108, 115, 101], [119, 104, 105, 108, 101], [116, 114, 121], [99, 97, 116, 99, 104], [102, 105, 110, 97, 108, 108, 121], [116, 104, 114, 111, 119], [114, 101, 116, 117, 114, 110], [116, 101, 108, 108], [121, 105, 101, 108, 100], [110, 101, 119], [114, 101, 115, 117, 109, 101], [105, 110, 106, 101, 99, 116], [99, 108, 111, 115, 101], [104, 97, 110, 100], [119, 105, 116, 104], [105, 110, 116, 111], [109, 101], [115, 116, 97, 116, 101], [101, 97, 99, 104], [111, 102]]
abbrev fre (X : Cx) : Addr → Prop := fun q => xB X ≤ q
/-- what holds at the law's start -/
def Good (X : Cx) : Prop :=
  (∀ w ∈ lw_tbl, w.before #[Value.ref (xb X)] (x0 X) = true) ∧ va_K (xC X, xI X) kcl (tysL X) (x0 X) ∧ (Jvm.Cond.and given_1 narrow_1).before #[Value.ref (xb X)] (x0 X) = true ∧ (∀ a : Nat, a < 53 → xs X a < xB X) ∧
  va_X (xs X 1) (xL X) (xf X) (x0 X) (x0 X).heap ∧ va_Z RX10 "NO_CELLS" "[I" (.ref (xs X 27)) (fre X) (x0 X) (x0 X).heap ∧ va_T .int (xs X 27) 0 (fun _ => .int 0) (fre X) (x0 X) (x0 X).heap ∧
  (∀ i : Nat, i < 25 → vk_R (strT.getD i ("", 0, "")).1 (strT.getD i ("", 0, "")).2.1 (strT.getD i ("", 0, "")).2.2 (xs X (i + 2)) (x0 X)) ∧ vk_S 25 strL strB (fun i => xs X (i + 2)) (fun i => xs X (i + 28)) (fre X) (x0 X) (x0 X).heap ∧
  (va_Z "java/lang/Throwable" "UNASSIGNED_STACK" "[Ljava/lang/StackTraceElement;" .null (fre X) (x0 X) (x0 X).heap ∨ va_Z "java/lang/Throwable" "UNASSIGNED_STACK" "[Ljava/lang/StackTraceElement;" (.ref (xs X 53)) (fre X) (x0 X) (x0 X).heap) ∧
  (va_Z "java/lang/Throwable" "SUPPRESSED_SENTINEL" "Ljava/util/List;" .null (fre X) (x0 X) (x0 X).heap ∨ va_Z "java/lang/Throwable" "SUPPRESSED_SENTINEL" "Ljava/util/List;" (.ref (xs X 54)) (fre X) (x0 X) (x0 X).heap) ∧
  va_Z "java/lang/String" "COMPACT_STRINGS" "Z" (.int 1) (fre X) (x0 X) (x0 X).heap ∧
  (va_Z "jdk/internal/util/Preconditions" "SIOOBE_FORMATTER" "Ljava/util/function/BiFunction;" .null (fre X) (x0 X) (x0 X).heap ∨ va_Z "jdk/internal/util/Preconditions" "SIOOBE_FORMATTER" "Ljava/util/function/BiFunction;" (.ref (xs X 55)) (fre X) (x0 X) (x0 X).heap)
def Fix (X : Cx) (M : MI) (p : Program) (s : State) (m : MethodId) (meth : Method) (c : Code) : Prop :=
  p.tables.exec = Jvm.exec ∧ c.code = M.2.1 ∧ c.maxLocals = M.2.2.1 ∧ meth.sig.returnType = M.2.2.2.1 ∧ s.vm.findClass (kcn.getD M.2.2.2.2 "") = some m.cls ∧ meth.locks = false ∧ (x0 X).WarmedH s.vm ∧ meth.name = M.1.name ∧ (M.2.2.2.2 ≠ 15 → c.exceptionTable.isEmpty = true) ∧ (M.2.2.2.2 = 15 → c.exceptionTable.toList = tableOf [(95, 120, 123, 7)])
abbrev Lv : Type := List (Nat × AV)
def lvc (X : Cx) (lv : Lv) : List (Nat × Value) := lv.map (fun q => (q.1, cv X q.2))
def stc (X : Cx) (st : List AV) : List Value := st.map (cv X)
abbrev rmd (d n w : Nat) : Room := { frames := d, cells := n, slots := w, locals := 41 * d }
def Pr (X : Cx) (as : List AV) (S : Mem) : Array Value → State → Prop := fun args s => args = (stc X as).toArray ∧ HR X S s.heap ∧ (x0 X).WarmedH s.vm
def Qr (X : Cx) (r : Res) (S' : Mem) : Array Value → State → Outcome → State → Prop := fun _ _ o t => o = cvr X r ∧ HR X S' t.heap ∧ (x0 X).WarmedH t.vm
/-- a run's end: returned or thrown; what may have been written, how much is new -/
def FE (s t : State) (L : List Loc) (k n : Nat) : Prop := s.WarmedH t.vm ∧ s.sameButNew ({ t with vm := s.vm } : State) L k n
def MQx (below : List Frame) (Qc : Array Value → State → Outcome → State → Prop) (a : Array Value) (s : State) (mc ms : Nat) (free : Addr → Prop) : State → Prop := fun t =>
  ∃ o, t.status = .running ∧ Ended t below o ∧ Qc a s o t ∧ ∃ L, FE s t L mc ms ∧ ∀ q ∈ L, free q.base
def MetX (l : Launch) (y : MethodName) (ws : List Cond) (rm : Room) (Pc : Array Value → State → Prop) (Qc : Array Value → State → Outcome → State → Prop) (mc ms : Nat) (free : Addr → Prop) : Prop :=
  MetFree l y (headSpec ws rm) Pc (fun _ _ _ _ _ => True) (fun a st o t => Qc a st o t ∧ ∃ L, FE st t L mc ms ∧ ∀ q ∈ L, free q.base)
/-- from here the method's run comes to r, with the memory S' -/
def Ev (X : Cx) (d : Nat) (M : MI) (pc : Nat) (lv : Lv) (st : List AV) (S : Mem) (r : Res) (S' : Mem) : Prop :=
  tp S ≤ tp S' ∧ sz S ≤ sz S' ∧ (Good X → ∀ (p : Program) (e : Env) (s : State) (m : MethodId) (args : Array Value) (below : List Frame) (meth : Method) (c : Code) (H : Heap) (locs : List Loc) (t0 z0 : Nat) (ls : Array Slot),
    Fix X M p s m meth c → HR X S H → (∀ q ∈ locs, xB X ≤ q.base) → t0 ≤ tp S → z0 ≤ sz S → lv_has ls M.2.2.1 (lvc X lv) →
    W p (xl X) e (rmd d (tp S' - t0) (sz S' - z0)) s m args below meth c H locs (tp S - t0) (sz S - z0) (MQx below (Qr X r S') args s (tp S' - t0) (sz S' - z0) (fre X)) (F0 m pc ls (stc X st)))
def V (X : Cx) (d : Nat) (M : MI) (pc : Nat) (lv : Lv) (st : List AV) (S : Mem) (Q : Res → Mem → Prop) : Prop := ∃ (r : Res) (S' : Mem), Ev X d M pc lv st S r S' ∧ Q r S'
def codeW (M : MI) : Cond := Cond.code M.1 M.2.1 M.2.2.1 M.2.2.2.1
def CR (X : Cx) (d : Nat) (M : MI) (as : List AV) (S : Mem) (r : Res) (S' : Mem) : Prop :=
  tp S ≤ tp S' ∧ sz S ≤ sz S' ∧ (Good X → MetX (xl X) M.1 [codeW M] (rmd d (tp S' - tp S) (sz S' - sz S)) (Pr X as S) (Qr X r S') (tp S' - tp S) (sz S' - sz S) (fre X))
/-- a call of a method with these arguments in this memory comes to what Q says -/
def C (X : Cx) (d : Nat) (M : MI) (as : List AV) (S : Mem) (Q : Res → Mem → Prop) : Prop := ∃ (r : Res) (S' : Mem), CR X d M as S r S' ∧ Q r S'
theorem MetX.ret {X : Cx} {y : MethodName} {ws : List Cond} {rm : Room} {Pc : Array Value → State → Prop} {v : Option AV} {S' : Mem} {mc ms : Nat} {free : Addr → Prop} (h : MetX (xl X) y ws rm Pc (Qr X (.inl v) S') mc ms free) : Met (xl X) y ws rm Pc (Qr X (.inl v) S') mc ms free := by
  intro p e a1 a2 a3 s m args below a4 a5 a6 a7
  obtain ⟨n, o, b1, b2, b3, b4, L, b5, b6⟩ := h p e a1 a2 a3 s m args below a4 a5 a6 a7
  exact ⟨n, o, b1, b2, b3, b4, L, ⟨⟨_, b4.1⟩, b5.1, b5.2⟩, b6⟩
theorem W_ends {p : Program} {l : Launch} {e : Env} {R : Room} {s : State} {m : MethodId} {args : Array Value} {below : List Frame} {meth : Method} {c : Code} {H : Heap} {locs : List Loc} {cells slots mc ms : Nat} {Qc : Array Value → State → Outcome → State → Prop} {a : Array Value} {free : Addr → Prop} {g : JFrame} (h : W p l e R s m args below meth c H locs cells slots (MQ below Qc a s mc ms free) g) : W p l e R s m args below meth c H locs cells slots (MQx below Qc a s mc ms free) g := by
  intro T hT Y
  obtain ⟨t, b1, o, b2, b3, b4, L, b5, b6⟩ := h T hT Y
  exact ⟨t, b1, o, b2, b3, b4, L, ⟨b5.2.1, b5.2.2⟩, b6⟩
theorem cat_cv (X : Cx) (v : AV) : (cv X v).category = cat v := by
  rcases v with x | x | x
  · rfl
  · rfl
  · show (va_rf (rO X x)).category = 1
    unfold rO
    by_cases h : x = 0
    · rw [if_pos h]; rfl
    · rw [if_neg h]; rfl
theorem V.mono {X : Cx} {d : Nat} {M : MI} {pc : Nat} {lv : Lv} {st : List AV} {S : Mem} {Q Q' : Res → Mem → Prop} (h : V X d M pc lv st S Q) (hq : ∀ r S', Q r S' → Q' r S') : V X d M pc lv st S Q' := by
  obtain ⟨r, S', e, q⟩ := h
  exact ⟨r, S', e, hq r S' q⟩
theorem C.mono {X : Cx} {d : Nat} {M : MI} {as : List AV} {S : Mem} {Q Q' : Res → Mem → Prop} (h : C X d M as S Q) (hq : ∀ r S', Q r S' → Q' r S') : C X d M as S Q' := by
  obtain ⟨r, S', e, q⟩ := h
  exact ⟨r, S', e, hq r S' q⟩
/-- the entry's locals -/
def lvE : Nat → List AV → Lv
  | _, [] => []
  | i, v :: r => (i, v) :: lvE (i + cat v) r
theorem lvE_args (X : Cx) : ∀ (as : List AV) (i : Nat), lvc X (lvE i as) = lv_args i (stc X as) := by
  intro as
  induction as with
  | nil => intro i; rfl
  | cons v r ih =>
    intro i
    show (i, cv X v) :: lvc X (lvE (i + cat v) r) = lv_args i (cv X v :: stc X r)
    rw [ih]
    have e : i + cat v = if (cv X v).category = 2 then i + 2 else i + 1 := by
      rw [cat_cv]
      have e3 : cat v = 1 ∨ cat v = 2 := by rw [← cat_cv X]; exact lv_cat _
      rcases e3 with e3 | e3 <;> rw [e3] <;> simp
    rw [e]
    rfl
/-- a method by its body -/
theorem C_of_V {X : Cx} {d : Nat} {M : MI} {as : List AV} {S : Mem} {Q : Res → Mem → Prop} (hy : plainName M.1.cls = true) (hw : (as.map cat).sum ≤ M.2.2.1) (hc : kcn.getD M.2.2.2.2 "" = M.1.cls) (h : V X d M 0 (lvE 0 as) [] S Q) (h15 : M.2.2.2.2 ≠ 15 := by decide) : C X d M as S Q := by
  obtain ⟨r, S', ⟨h1, h2, h3⟩, q⟩ := h
  refine ⟨r, S', ⟨h1, h2, fun G => ?_⟩, q⟩
  refine MetFree.of_bodyS (code := M.2.1) (maxLocals := M.2.2.1) (ret := M.2.2.2.1) hy ?_ ?_
  · intro args s m h hn
    obtain ⟨meth, c, h1, h2, h3, h4, h5, h6, -, -⟩ := Cond.code_spec hn (atoms_spec (ws := [codeW M]) h _ (List.mem_singleton.mpr rfl))
    exact ⟨meth, c, h1, h2, h3, h4, h5, h6⟩
  · intro p e s m args below meth c s₁ B hml hv _
    obtain ⟨rfl, hH, hW⟩ := hv
    have hh0 : s₁.heap = s.heap := by rw [B.state]; rfl
    have hl := lv_entry (stc X as) (n := M.2.2.1) (by
      have e1 : ∀ as : List AV, (lg_sl (stc X as)).length = (as.map cat).sum := by
        intro as
        induction as with
        | nil => rfl
        | cons v r ih =>
          have e2 : lg_sl (stc X (v :: r)) = (if (cv X v).category = 2 then [Slot.val (cv X v), .second] else [.val (cv X v)]) ++ lg_sl (stc X r) := rfl
          rw [e2, List.length_append, ih, List.map_cons, List.sum_cons, cat_cv]
          have e3 : cat v = 1 ∨ cat v = 2 := by rw [← cat_cv X]; exact lv_cat _
          rcases e3 with e3 | e3 <;> rw [e3] <;> simp
      rw [e1]; exact hw)
    have hown : s.vm.findClass M.1.cls = some m.cls := findClass_of_methodNamed B.named
    have hcode : (codeW M).before (stc X as).toArray s = true := atoms_spec (ws := [codeW M]) B.pre _ (List.mem_singleton.mpr rfl)
    have hent : entryFrame m (stc X as).toArray M.2.2.1 = F0 m 0 ((lg_sl (stc X as) ++ List.replicate (M.2.2.1 - (lg_sl (stc X as)).length) Slot.unset).toArray) [] := by rw [lg_entry_eq]
    have K := h3 G p e s m (stc X as).toArray below meth c s.heap [] (tp S) (sz S) _ ⟨B.exec, B.bytes, hml, B.returns, by rw [hc]; exact hown, B.notSynchronized, hW, (name_of_methodNamed B.named B.method).1, fun _ => B.noHandlers hcode, fun e15 => absurd e15 h15⟩ hH (by intro q hq; cases hq) (Nat.le_refl _) (Nat.le_refl _) (by rw [lvE_args]; exact hl)
    rw [Nat.sub_self, Nat.sub_self] at K
    have K2 : W p (xl X) e (headSpec [codeW M] (rmd d (tp S' - tp S) (sz S' - sz S))).room s m (stc X as).toArray below meth c s.heap [] 0 0 (MQx below (Qr X r S') (stc X as).toArray s (tp S' - tp S) (sz S' - sz S) (fre X)) (entryFrame m (stc X as).toArray M.2.2.1) := by rw [hent]; exact K
    obtain ⟨t, a1, o, b1, b2, b3⟩ := K2 s₁ hh0 (Stand.of_body B)
    exact ⟨t, o, a1, b1, b2, b3⟩

