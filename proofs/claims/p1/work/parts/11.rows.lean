/-! what callees give back; decode rows by their places; kinds of cells along writes -/
def RI (F : Int32 → Mem → Prop) : Res → Mem → Prop := fun r S => ∃ x : Int32, r = .inl (some (vI x)) ∧ F x S
def RJ (F : Int64 → Mem → Prop) : Res → Mem → Prop := fun r S => ∃ x : Int64, r = .inl (some (vL x)) ∧ F x S
def RR (F : Nat → Mem → Prop) : Res → Mem → Prop := fun r S => ∃ x : Nat, r = .inl (some (vR x)) ∧ F x S
def RV (F : Mem → Prop) : Res → Mem → Prop := fun r S => r = .inl none ∧ F S
def dOk (cc : ByteArray) (L : List (Nat × Instr × Nat)) : Bool := L.all (fun q => decide (decode cc q.1 = .ok q.2))
theorem dk {cc : ByteArray} {L : List (Nat × Instr × Nat)} (h : dOk cc L = true) (k : Nat) {pc n : Nat} {i : Instr} (hk : L[k]? = some (pc, i, n)) : decode cc pc = .ok (i, n) := by
  unfold dOk at h
  have h1 := List.all_eq_true.mp h (pc, i, n) (List.mem_of_getElem? hk)
  exact of_decide_eq_true h1
theorem isK_nw {S : Mem} {a c k n w : Nat} (h : isK S a c) : isK (nw S k n w) a c := ⟨Nat.lt_succ_of_lt h.1, by show va_up (gK S) (tp S) k a = c; rw [va_up_ne _ _ (Nat.ne_of_lt h.1)]; exact h.2⟩
theorem isK_new {S : Mem} {k n w : Nat} : isK (nw S k n w) (tp S) k := ⟨Nat.lt_succ_self _, by show va_up (gK S) (tp S) k (tp S) = k; unfold va_up; rw [if_pos rfl]⟩
theorem litI (n : Nat) : (OfNat.ofNat n : Int32) = nI n := rfl
section ROWS
variable {X : Cx} {d : Nat} {M : MI} {pc pc2 : Nat} {lv : Lv} {st : List AV} {S : Mem} {Q : Res → Mem → Prop}
theorem RI.k {F : Int32 → Mem → Prop} (h : ∀ x S1, F x S1 → V X d M pc2 lv (vI x :: st) S1 Q) : ∀ r S1, RI F r S1 → ∃ v, r = .inl v ∧ V X d M pc2 lv (v.toList ++ st) S1 Q := fun _ S1 ⟨x, e, hf⟩ => ⟨some (vI x), e, h x S1 hf⟩
theorem RJ.k {F : Int64 → Mem → Prop} (h : ∀ x S1, F x S1 → V X d M pc2 lv (vL x :: st) S1 Q) : ∀ r S1, RJ F r S1 → ∃ v, r = .inl v ∧ V X d M pc2 lv (v.toList ++ st) S1 Q := fun _ S1 ⟨x, e, hf⟩ => ⟨some (vL x), e, h x S1 hf⟩
theorem RR.k {F : Nat → Mem → Prop} (h : ∀ x S1, F x S1 → V X d M pc2 lv (vR x :: st) S1 Q) : ∀ r S1, RR F r S1 → ∃ v, r = .inl v ∧ V X d M pc2 lv (v.toList ++ st) S1 Q := fun _ S1 ⟨x, e, hf⟩ => ⟨some (vR x), e, h x S1 hf⟩
theorem RV.k {F : Mem → Prop} (h : ∀ S1, F S1 → V X d M pc2 lv st S1 Q) : ∀ r S1, RV F r S1 → ∃ v, r = .inl v ∧ V X d M pc2 lv (v.toList ++ st) S1 Q := fun _ S1 ⟨e, hf⟩ => ⟨none, e, h S1 hf⟩
theorem V_newa20 {n : Nat} (hd : decode M.2.1 pc = .ok (.newarray .byte, 2)) (hw : Cond.arrayClass (kel 20) ∈ lw_tbl) (hp : pc + 2 = pc2) {x : Int32} (hx : x = nI n) (hn : n ≤ 1000000) (kk : V X d M pc2 lv (vR (tp S) :: st) (nw S 20 n n) Q) : V X d M pc lv (vI x :: st) S Q := V_newa (k := 20) (by decide) (by decide) (by have e : aty 20 = .byte := rfl; rw [e]; exact hd) hw hp hx hn kk
theorem V_newa21 {n : Nat} (hd : decode M.2.1 pc = .ok (.newarray .int, 2)) (hw : Cond.arrayClass (kel 21) ∈ lw_tbl) (hp : pc + 2 = pc2) {x : Int32} (hx : x = nI n) (hn : n ≤ 1000000) (kk : V X d M pc2 lv (vR (tp S) :: st) (nw S 21 n n) Q) : V X d M pc lv (vI x :: st) S Q := V_newa (k := 21) (by decide) (by decide) (by have e : aty 21 = .int := rfl; rw [e]; exact hd) hw hp hx hn kk
theorem V_newa22 {n : Nat} (hd : decode M.2.1 pc = .ok (.newarray .long, 2)) (hw : Cond.arrayClass (kel 22) ∈ lw_tbl) (hp : pc + 2 = pc2) {x : Int32} (hx : x = nI n) (hn : n ≤ 1000000) (kk : V X d M pc2 lv (vR (tp S) :: st) (nw S 22 n n) Q) : V X d M pc lv (vI x :: st) S Q := V_newa (k := 22) (by decide) (by decide) (by have e : aty 22 = .long := rfl; rw [e]; exact hd) hw hp hx hn kk
theorem V_newa23 {n : Nat} (hd : decode M.2.1 pc = .ok (.newarray .boolean, 2)) (hw : Cond.arrayClass (kel 23) ∈ lw_tbl) (hp : pc + 2 = pc2) {x : Int32} (hx : x = nI n) (hn : n ≤ 1000000) (kk : V X d M pc2 lv (vR (tp S) :: st) (nw S 23 n n) Q) : V X d M pc lv (vI x :: st) S Q := V_newa (k := 23) (by decide) (by decide) (by have e : aty 23 = .boolean := rfl; rw [e]; exact hd) hw hp hx hn kk
end ROWS

