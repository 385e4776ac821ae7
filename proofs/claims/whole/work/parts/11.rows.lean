/-! what callees give back; decode rows by their places; kinds of cells along writes -/
def RI (F : Int32 → Mem → Prop) : Res → Mem → Prop := fun r S => ∃ x : Int32, r = .inl (some (vI x)) ∧ F x S
def RJ (F : Int64 → Mem → Prop) : Res → Mem → Prop := fun r S => ∃ x : Int64, r = .inl (some (vL x)) ∧ F x S
def RR (F : Nat → Mem → Prop) : Res → Mem → Prop := fun r S => ∃ x : Nat, r = .inl (some (vR x)) ∧ F x S
def RV (F : Mem → Prop) : Res → Mem → Prop := fun r S => r = .inl none ∧ F S
def dOk (cc : ByteArray) (L : List (Nat × Instr × Nat)) : Bool := L.all (fun q => decide (decode cc q.1 = .ok q.2))
theorem dk {cc : ByteArray} {L : List (Nat × Instr × Nat)} (h : dOk cc L = true) (k : Nat) {pc n : Nat} {i : Instr} (hk : L[k]? = some (pc, i, n)) : decode cc pc = .ok (i, n) := by
  unfold dOk at h
  have h1 := List.all_eq_true.mp h (pc, i, n) (List.mem_of_getElem? hk)
  exact of_decide_eq_true h1
theorem isK_nw {S : Mem} {a c k n w : Nat} (h : isK S a c) : isK (nw S k n w) a c := ⟨Nat.lt_succ_of_lt h.1, by show va_up (gK S) (tp S) k a = c; rw [va_up_ne _ _ (Nat.ne_of_lt h.1)]; exact h.2⟩
theorem isK_new {S : Mem} {k n w : Nat} : isK (nw S k n w) (tp S) k := ⟨Nat.lt_succ_self _, by show va_up (gK S) (tp S) k (tp S) = k; unfold va_up; rw [if_pos rfl]⟩
theorem litI (n : Nat) : (OfNat.ofNat n : Int32) = nI n := rfl
section ROWS
variable {X : Cx} {d : Nat} {M : MI} {pc pc2 : Nat} {lv : Lv} {st : List AV} {S : Mem} {Q : Res → Mem → Prop}
theorem RI.k {F : Int32 → Mem → Prop} (h : ∀ x S1, F x S1 → V X d M pc2 lv (vI x :: st) S1 Q) : ∀ r S1, RI F r S1 → ∃ v, r = .inl v ∧ V X d M pc2 lv (v.toList ++ st) S1 Q := fun _ S1 ⟨x, e, hf⟩ => ⟨some (vI x), e, h x S1 hf⟩
theorem RJ.k {F : Int64 → Mem → Prop} (h : ∀ x S1, F x S1 → V X d M pc2 lv (vL x :: st) S1 Q) : ∀ r S1, RJ F r S1 → ∃ v, r = .inl v ∧ V X d M pc2 lv (v.toList ++ st) S1 Q := fun _ S1 ⟨x, e, hf⟩ => ⟨some (vL x), e, h x S1 hf⟩
theorem RR.k {F : Nat → Mem → Prop} (h : ∀ x S1, F x S1 → V X d M pc2 lv (vR x :: st) S1 Q) : ∀ r S1, RR F r S1 → ∃ v, r = .inl v ∧ V X d M pc2 lv (v.toList ++ st) S1 Q := fun _ S1 ⟨x, e, hf⟩ => ⟨some (vR x), e, h x S1 hf⟩
theorem RV.k {F : Mem → Prop} (h : ∀ S1, F S1 → V X d M pc2 lv st S1 Q) : ∀ r S1, RV F r S1 → ∃ v, r = .inl v ∧ V X d M pc2 lv (v.toList ++ st) S1 Q := fun _ S1 ⟨e, hf⟩ => ⟨none, e, h S1 hf⟩
theorem V_max {ix : Nat} {x y : Int32} (hd : decode M.2.1 pc = .ok (.invokestatic ix, 3)) (hw : Cond.methodLink (kcn.getD M.2.2.2.2 "") ix Lib.Math.max.name ∈ lw_tbl) (hs : Cond.static Lib.Math.max.name ∈ lw_tbl) (hi : Cond.initialized "java/lang/Math" ∈ lw_tbl) (hc : Cond.code Lib.Math.max.name Lib.Math.max.code 2 (some .int) ∈ lw_tbl) (hp : pc + 3 = pc2) (hs8 : (st.map cat).sum ≤ 8) (hdd : 1 ≤ d)
    (k : V X d M pc2 lv (vI (if x < y then y else x) :: st) S Q) : V X d M pc lv (vI y :: vI x :: st) S Q := by
  subst hp
  obtain ⟨r, S', ⟨h1, h2, h3⟩, q⟩ := k
  refine ⟨r, S', ⟨h1, h2, fun G p e s m args below meth c H locs t0 z0 ls F hH hL ht hz hl => ?_⟩, q⟩
  have hW := F.2.2.2.2.2.2.1
  have g : ∀ {w : Cond} {a' : Array Value} {U : State}, (x0 X).WarmedH U.vm → (w.onTables && w.keeps) = true → w ∈ lw_tbl → w.before a' U = true := fun hU hg hw => word_at hU (Or.inl hg) (G.1 _ hw)
  exact va_mmax F.1 F.2.1 (by rw [F.2.2.1]; exact hl.1.symm) F.2.2.2.2.1 (g hW rfl hw) (g hW rfl hs) (g hW rfl hi) (g hW rfl hc) (by show 1 ≤ d; exact hdd) (by have e9 := stc_cat (X := X) st; unfold stc at e9; show (List.map (fun v => v.category) (List.map (cv X) st)).sum + 13 ≤ 41 * d; rw [e9]; omega) (by show tp S - t0 ≤ tp S' - t0; omega) (by show sz S - z0 ≤ sz S' - z0; omega) hd (h3 G p e s m args below meth c H locs t0 z0 ls F hH hL ht hz hl)
theorem V_acmpne {off : Int} {tgt : Nat} {x y : Nat} (hd : decode M.2.1 pc = .ok (.if_acmp .ne off, 3)) (ht : (pc : Int) + off = (tgt : Int)) (hp : pc + 3 = pc2) (hx : 64 ≤ x ∨ x = 0) (hy : 64 ≤ y ∨ y = 0) (kt : ¬ x = y → V X d M tgt lv st S Q) (kf : x = y → V X d M pc2 lv st S Q) : V X d M pc lv (vR y :: vR x :: st) S Q := by
  subst hp
  have key : rO X x = rO X y ↔ x = y := by
    unfold rO
    constructor
    · intro h
      by_cases c1 : x = 0
      · rw [if_pos c1] at h
        by_cases c2 : y = 0
        · omega
        · rw [if_neg c2] at h; cases h
      · rw [if_neg c1] at h
        by_cases c2 : y = 0
        · rw [if_pos c2] at h; cases h
        · rw [if_neg c2, ad_ge (by omega), ad_ge (by omega)] at h
          have := Option.some.inj h
          omega
    · rintro rfl; rfl
  by_cases h : x = y
  · exact V_p (fun _ F _ _ w => lv_acmp_ne (rx := rO X x) (ry := rO X y) F.1 F.2.1 hd ht (fun q => absurd (key.mpr h) q) (fun _ => w)) (kf h)
  · exact V_p (fun _ F _ _ w => lv_acmp_ne (rx := rO X x) (ry := rO X y) F.1 F.2.1 hd ht (fun _ => w) (fun q => absurd (key.mp q) h)) (kt h)
theorem V_look {dflt : Int} {ps : Array (Int × Int)} {len : Nat} {x : Int32} (hd : decode M.2.1 pc = .ok (.lookupswitch dflt ps, len)) (hs : (ps.toList.zip (ps.toList.drop 1)).all (fun (a, next) => a.1 < next.1) = true) (ks : List (Int32 × Int × Nat)) (dt : Nat) (hk : ps.toList = ks.map (fun q => (q.1.toInt, q.2.1))) (ht : ∀ q ∈ ks, (pc : Int) + q.2.1 = (q.2.2 : Int)) (hdt : (pc : Int) + dflt = (dt : Int))
    (kt : ∀ q ∈ ks, x = q.1 → V X d M q.2.2 lv st S Q) (kd : (∀ q ∈ ks, ¬ x = q.1) → V X d M dt lv st S Q) : V X d M pc lv (vI x :: st) S Q := by
  have key : (∃ q ∈ ks, x = q.1 ∧ Op.lookupswitch.offset ps.toList dflt x.toInt = q.2.1) ∨ ((∀ q ∈ ks, ¬ x = q.1) ∧ Op.lookupswitch.offset ps.toList dflt x.toInt = dflt) := by
    rw [hk]
    clear hk ht kt kd
    induction ks with
    | nil => exact Or.inr ⟨fun q h => (by cases h), rfl⟩
    | cons a r ih =>
      by_cases c : x = a.1
      · refine Or.inl ⟨a, List.mem_cons_self, c, ?_⟩
        rw [List.map_cons, c]
        simp [Op.lookupswitch.offset]
      · rw [List.map_cons, lv_osw c rfl]
        rcases ih with ⟨q, h1, h2, h3⟩ | ⟨h1, h2⟩
        · exact Or.inl ⟨q, List.mem_cons_of_mem _ h1, h2, h3⟩
        · refine Or.inr ⟨fun q hq => ?_, h2⟩
          rcases List.mem_cons.mp hq with rfl | hq
          · exact c
          · exact h1 q hq
  rcases key with ⟨q, h1, h2, h3⟩ | ⟨h1, h2⟩
  · exact V_p (fun _ F _ _ w => lv_lookup F.1 F.2.1 hd hs h3 (ht q h1) w) (kt q h1 h2)
  · exact V_p (fun _ F _ _ w => lv_lookup F.1 F.2.1 hd hs h2 hdt w) (kd h1)
theorem V_newa20 {n : Nat} (hd : decode M.2.1 pc = .ok (.newarray .byte, 2)) (hw : Cond.arrayClass (kel 20) ∈ lw_tbl) (hp : pc + 2 = pc2) {x : Int32} (hx : x = nI n) (hn : n ≤ 1000000) (kk : V X d M pc2 lv (vR (tp S) :: st) (nw S 20 n n) Q) : V X d M pc lv (vI x :: st) S Q := V_newa (k := 20) (by decide) (by decide) (by have e : aty 20 = .byte := rfl; rw [e]; exact hd) hw hp hx hn kk
theorem V_newa21 {n : Nat} (hd : decode M.2.1 pc = .ok (.newarray .int, 2)) (hw : Cond.arrayClass (kel 21) ∈ lw_tbl) (hp : pc + 2 = pc2) {x : Int32} (hx : x = nI n) (hn : n ≤ 1000000) (kk : V X d M pc2 lv (vR (tp S) :: st) (nw S 21 n n) Q) : V X d M pc lv (vI x :: st) S Q := V_newa (k := 21) (by decide) (by decide) (by have e : aty 21 = .int := rfl; rw [e]; exact hd) hw hp hx hn kk
theorem V_newa22 {n : Nat} (hd : decode M.2.1 pc = .ok (.newarray .long, 2)) (hw : Cond.arrayClass (kel 22) ∈ lw_tbl) (hp : pc + 2 = pc2) {x : Int32} (hx : x = nI n) (hn : n ≤ 1000000) (kk : V X d M pc2 lv (vR (tp S) :: st) (nw S 22 n n) Q) : V X d M pc lv (vI x :: st) S Q := V_newa (k := 22) (by decide) (by decide) (by have e : aty 22 = .long := rfl; rw [e]; exact hd) hw hp hx hn kk
theorem V_newa23 {n : Nat} (hd : decode M.2.1 pc = .ok (.newarray .boolean, 2)) (hw : Cond.arrayClass (kel 23) ∈ lw_tbl) (hp : pc + 2 = pc2) {x : Int32} (hx : x = nI n) (hn : n ≤ 1000000) (kk : V X d M pc2 lv (vR (tp S) :: st) (nw S 23 n n) Q) : V X d M pc lv (vI x :: st) S Q := V_newa (k := 23) (by decide) (by decide) (by have e : aty 23 = .boolean := rfl; rw [e]; exact hd) hw hp hx hn kk
end ROWS
