/-! one instruction, a row: those that leave memory and locals alone -/
section OPS
variable {X : Cx} {d : Nat} {M : MI} {pc : Nat} {lv : Lv} {st : List AV} {S : Mem} {Q : Res → Mem → Prop}
theorem V_p {pc2 : Nat} {st2 : List AV}
    (h : ∀ {p : Program} {e : Env} {s : State} {m : MethodId} {args : Array Value} {below : List Frame} {meth : Method} {c : Code} {H : Heap} {locs : List Loc} {R : Room} {cells slots : Nat} {Qf : State → Prop} {ls : Array Slot}, Good X → Fix X M p s m meth c → HR X S H → lv_has ls M.2.2.1 (lvc X lv) →
      W p (xl X) e R s m args below meth c H locs cells slots Qf (F0 m pc2 ls (stc X st2)) → W p (xl X) e R s m args below meth c H locs cells slots Qf (F0 m pc ls (stc X st)))
    (k : V X d M pc2 lv st2 S Q) : V X d M pc lv st S Q := by
  obtain ⟨r, S', ⟨h1, h2, h3⟩, q⟩ := k
  refine ⟨r, S', ⟨h1, h2, fun G p e s m args below meth c H locs t0 z0 ls F hH hL ht hz hl => ?_⟩, q⟩
  exact h G F hH hl (h3 G p e s m args below meth c H locs t0 z0 ls F hH hL ht hz hl)
theorem lvc_at {i : Nat} {v : AV} (h : (i, v) ∈ lv) {ls : Array Slot} (hl : lv_has ls M.2.2.1 (lvc X lv)) : ls[i]? = some (.val (cv X v)) := hl.2.2 (i, cv X v) (List.mem_map.mpr ⟨(i, v), h, rfl⟩)
/-- fewer locals, by their places -/
theorem V_pick (ks : List Nat) {lv2 : Lv} (h : ks.filterMap (fun k => lv[k]?) = lv2) (k : V X d M pc lv2 st S Q) : V X d M pc lv st S Q := by
  obtain ⟨r, S', ⟨h1, h2, h3⟩, q⟩ := k
  refine ⟨r, S', ⟨h1, h2, fun G p e s m args below meth c H locs t0 z0 ls F hH hL ht hz hl => ?_⟩, q⟩
  refine h3 G p e s m args below meth c H locs t0 z0 ls F hH hL ht hz ⟨hl.1, hl.2.1, fun x hx => ?_⟩
  subst h
  obtain ⟨y, hy, rfl⟩ := List.mem_map.mp hx
  obtain ⟨i, -, hi⟩ := List.mem_filterMap.mp hy
  exact lvc_at (M := M) (List.mem_of_getElem? hi) hl
/-- the place of a local in the list -/
theorem V_lg (n : Nat) {i : Nat} {v : AV} (h : lv[n]? = some (i, v)) : (i, v) ∈ lv := List.mem_of_getElem? h
theorem V_iconst {n : Int} {x : Int32} {pc2 : Nat} (hd : decode M.2.1 pc = .ok (.iconst n, 1)) (hv : Int32.ofInt n = x) (hp : pc + 1 = pc2) (k : V X d M pc2 lv (vI x :: st) S Q) : V X d M pc lv st S Q := by
  subst hp; exact V_p (fun _ F _ _ w => lv_iconst F.1 F.2.1 hd hv w) k
theorem V_bipush {n : Int} {x : Int32} {pc2 : Nat} (hd : decode M.2.1 pc = .ok (.bipush n, 2)) (hv : (Int8.ofInt n).toInt32 = x) (hp : pc + 2 = pc2) (k : V X d M pc2 lv (vI x :: st) S Q) : V X d M pc lv st S Q := by
  subst hp; exact V_p (fun _ F _ _ w => lv_bipush F.1 F.2.1 hd hv w) k
theorem V_sipush {n : Int} {x : Int32} {pc2 : Nat} (hd : decode M.2.1 pc = .ok (.sipush n, 3)) (hv : (Int16.ofInt n).toInt32 = x) (hp : pc + 3 = pc2) (k : V X d M pc2 lv (vI x :: st) S Q) : V X d M pc lv st S Q := by
  subst hp; exact V_p (fun _ F _ _ w => lv_sipush F.1 F.2.1 hd hv w) k
theorem V_lconst {n : Fin 2} {x : Int64} {pc2 : Nat} (hd : decode M.2.1 pc = .ok (.lconst n, 1)) (hv : Int64.ofNat (n : Nat) = x) (hp : pc + 1 = pc2) (k : V X d M pc2 lv (vL x :: st) S Q) : V X d M pc lv st S Q := by
  subst hp; exact V_p (fun _ F _ _ w => lv_lconst F.1 F.2.1 hd hv w) k
theorem V_null {pc2 : Nat} (hd : decode M.2.1 pc = .ok (.aconst_null, 1)) (hp : pc + 1 = pc2) (k : V X d M pc2 lv (vR 0 :: st) S Q) : V X d M pc lv st S Q := by
  subst hp; exact V_p (fun _ F _ _ w => lv_null F.1 F.2.1 hd w) k
theorem V_ldci {ix : Nat} {x : Int32} {pc2 : Nat} (hd : decode M.2.1 pc = .ok (.ldc ix, 2)) (hw : Cond.constant (kcn.getD M.2.2.2.2 "") ix x ∈ lw_tbl) (hp : pc + 2 = pc2) (k : V X d M pc2 lv (vI x :: st) S Q) : V X d M pc lv st S Q := by
  subst hp; exact V_p (fun G F _ _ w => lv_ldc F.1 F.2.1 F.2.2.2.2.1 (word_at F.2.2.2.2.2.2.1 (Or.inl (by first | rfl | simp [Cond.onTables, Cond.keeps, Cond.steady])) (G.1 _ hw)) hd w) k
theorem V_ldc2 {ix : Nat} {x : Int64} {pc2 : Nat} (hd : decode M.2.1 pc = .ok (.ldc2_w ix, 3)) (hw : Cond.constantLong (kcn.getD M.2.2.2.2 "") ix x ∈ lw_tbl) (hp : pc + 3 = pc2) (k : V X d M pc2 lv (vL x :: st) S Q) : V X d M pc lv st S Q := by
  subst hp; exact V_p (fun G F _ _ w => lv_ldc2 F.1 F.2.1 F.2.2.2.2.1 (word_at F.2.2.2.2.2.2.1 (Or.inl (by first | rfl | simp [Cond.onTables, Cond.keeps, Cond.steady])) (G.1 _ hw)) hd w) k
theorem V_iload_n {n : Fin 4} {i : Nat} {x : Int32} {pc2 : Nat} (hd : decode M.2.1 pc = .ok (.iload_n n, 1)) (hi : (n : Nat) = i) (hv : (i, vI x) ∈ lv) (hp : pc + 1 = pc2) (k : V X d M pc2 lv (vI x :: st) S Q) : V X d M pc lv st S Q := by
  subst hp; exact V_p (fun _ F _ hl w => lv_iload_n F.1 F.2.1 hd hi (lvc_at hv hl) w) k
theorem V_iload {i : Nat} {x : Int32} {pc2 : Nat} (hd : decode M.2.1 pc = .ok (.iload i, 2)) (hv : (i, vI x) ∈ lv) (hp : pc + 2 = pc2) (k : V X d M pc2 lv (vI x :: st) S Q) : V X d M pc lv st S Q := by
  subst hp; exact V_p (fun _ F _ hl w => lv_iload F.1 F.2.1 hd (lvc_at hv hl) w) k
theorem V_lload_n {n : Fin 4} {i : Nat} {x : Int64} {pc2 : Nat} (hd : decode M.2.1 pc = .ok (.lload_n n, 1)) (hi : (n : Nat) = i) (hv : (i, vL x) ∈ lv) (hp : pc + 1 = pc2) (k : V X d M pc2 lv (vL x :: st) S Q) : V X d M pc lv st S Q := by
  subst hp; exact V_p (fun _ F _ hl w => lv_lload_n F.1 F.2.1 hd hi (lvc_at hv hl) w) k
theorem V_aload_n {n : Fin 4} {i : Nat} {x : Nat} {pc2 : Nat} (hd : decode M.2.1 pc = .ok (.aload_n n, 1)) (hi : (n : Nat) = i) (hv : (i, vR x) ∈ lv) (hp : pc + 1 = pc2) (k : V X d M pc2 lv (vR x :: st) S Q) : V X d M pc lv st S Q := by
  subst hp
  refine V_p (fun _ F _ hl w => ?_) k
  have h1 := lvc_at hv hl
  by_cases hx : x = 0
  · subst hx; exact lv_aload_nN F.1 F.2.1 hd hi h1 w
  · have e1 : cv X (vR x) = .ref (ad X x) := by show va_rf (rO X x) = _; unfold rO; rw [if_neg hx]; rfl
    rw [e1] at h1
    refine lv_aload_n F.1 F.2.1 hd hi h1 ?_
    have e2 : stc X (vR x :: st) = .ref (ad X x) :: stc X st := by show cv X (vR x) :: stc X st = _; rw [e1]
    rw [e2] at w; exact w
theorem V_aload {i : Nat} {x : Nat} {pc2 : Nat} (hd : decode M.2.1 pc = .ok (.aload i, 2)) (hv : (i, vR x) ∈ lv) (hp : pc + 2 = pc2) (k : V X d M pc2 lv (vR x :: st) S Q) : V X d M pc lv st S Q := by
  subst hp
  refine V_p (fun _ F _ hl w => ?_) k
  have h1 := lvc_at hv hl
  by_cases hx : x = 0
  · subst hx; exact lv_aloadN F.1 F.2.1 hd h1 w
  · have e1 : cv X (vR x) = .ref (ad X x) := by show va_rf (rO X x) = _; unfold rO; rw [if_neg hx]; rfl
    rw [e1] at h1
    refine lv_aload F.1 F.2.1 hd h1 ?_
    have e2 : stc X (vR x :: st) = .ref (ad X x) :: stc X st := by show cv X (vR x) :: stc X st = _; rw [e1]
    rw [e2] at w; exact w
theorem V_iadd {x y : Int32} {pc2 : Nat} (hd : decode M.2.1 pc = .ok (.iadd, 1)) (hp : pc + 1 = pc2) (k : V X d M pc2 lv (vI (x + y) :: st) S Q) : V X d M pc lv (vI y :: vI x :: st) S Q := by
  subst hp; exact V_p (fun _ F _ _ w => lv_iadd F.1 F.2.1 hd w) k
theorem V_isub {x y : Int32} {pc2 : Nat} (hd : decode M.2.1 pc = .ok (.isub, 1)) (hp : pc + 1 = pc2) (k : V X d M pc2 lv (vI (x - y) :: st) S Q) : V X d M pc lv (vI y :: vI x :: st) S Q := by
  subst hp; exact V_p (fun _ F _ _ w => lv_isub F.1 F.2.1 hd w) k
theorem V_imul {x y : Int32} {pc2 : Nat} (hd : decode M.2.1 pc = .ok (.imul, 1)) (hp : pc + 1 = pc2) (k : V X d M pc2 lv (vI (x * y) :: st) S Q) : V X d M pc lv (vI y :: vI x :: st) S Q := by
  subst hp; exact V_p (fun _ F _ _ w => lv_imul F.1 F.2.1 hd w) k
theorem V_iand {x y : Int32} {pc2 : Nat} (hd : decode M.2.1 pc = .ok (.iand, 1)) (hp : pc + 1 = pc2) (k : V X d M pc2 lv (vI (x &&& y) :: st) S Q) : V X d M pc lv (vI y :: vI x :: st) S Q := by
  subst hp; exact V_p (fun _ F _ _ w => lv_iand F.1 F.2.1 hd w) k
theorem V_ladd {x y : Int64} {pc2 : Nat} (hd : decode M.2.1 pc = .ok (.ladd, 1)) (hp : pc + 1 = pc2) (k : V X d M pc2 lv (vL (x + y) :: st) S Q) : V X d M pc lv (vL y :: vL x :: st) S Q := by
  subst hp; exact V_p (fun _ F _ _ w => lv_ladd F.1 F.2.1 hd w) k
theorem V_lmul {x y : Int64} {pc2 : Nat} (hd : decode M.2.1 pc = .ok (.lmul, 1)) (hp : pc + 1 = pc2) (k : V X d M pc2 lv (vL (x * y) :: st) S Q) : V X d M pc lv (vL y :: vL x :: st) S Q := by
  subst hp; exact V_p (fun _ F _ _ w => lv_lmul F.1 F.2.1 hd w) k
theorem V_land {x y : Int64} {pc2 : Nat} (hd : decode M.2.1 pc = .ok (.land, 1)) (hp : pc + 1 = pc2) (k : V X d M pc2 lv (vL (x &&& y) :: st) S Q) : V X d M pc lv (vL y :: vL x :: st) S Q := by
  subst hp; exact V_p (fun _ F _ _ w => lv_land F.1 F.2.1 hd w) k
theorem V_lor {x y : Int64} {pc2 : Nat} (hd : decode M.2.1 pc = .ok (.lor, 1)) (hp : pc + 1 = pc2) (k : V X d M pc2 lv (vL (x ||| y) :: st) S Q) : V X d M pc lv (vL y :: vL x :: st) S Q := by
  subst hp; exact V_p (fun _ F _ _ w => lv_lor F.1 F.2.1 hd w) k
theorem V_lshl {x : Int64} {y : Int32} {pc2 : Nat} (hd : decode M.2.1 pc = .ok (.lshl, 1)) (hp : pc + 1 = pc2) (k : V X d M pc2 lv (vL (x <<< (y.toInt64 &&& 63)) :: st) S Q) : V X d M pc lv (vI y :: vL x :: st) S Q := by
  subst hp; exact V_p (fun _ F _ _ w => lv_lshl F.1 F.2.1 hd rfl w) k
theorem V_lshr {x : Int64} {y : Int32} {pc2 : Nat} (hd : decode M.2.1 pc = .ok (.lshr, 1)) (hp : pc + 1 = pc2) (k : V X d M pc2 lv (vL (x >>> (y.toInt64 &&& 63)) :: st) S Q) : V X d M pc lv (vI y :: vL x :: st) S Q := by
  subst hp; exact V_p (fun _ F _ _ w => lv_lshr F.1 F.2.1 hd rfl w) k
theorem V_lushr {x : Int64} {y : Int32} {pc2 : Nat} (hd : decode M.2.1 pc = .ok (.lushr, 1)) (hp : pc + 1 = pc2) (k : V X d M pc2 lv (vL (x.toUInt64 >>> (y.toInt64.toUInt64 &&& Int64.toUInt64 63)).toInt64 :: st) S Q) : V X d M pc lv (vI y :: vL x :: st) S Q := by
  subst hp; exact V_p (fun _ F _ _ w => lv_lushr F.1 F.2.1 hd rfl w) k
theorem V_lcmp {x y : Int64} {pc2 : Nat} (hd : decode M.2.1 pc = .ok (.lcmp, 1)) (hp : pc + 1 = pc2) (k : V X d M pc2 lv (vI (lg_cmp x y) :: st) S Q) : V X d M pc lv (vL y :: vL x :: st) S Q := by
  subst hp; exact V_p (fun _ F _ _ w => W.lcmp F.1 F.2.1 hd w) k
theorem V_i2l {x : Int32} {pc2 : Nat} (hd : decode M.2.1 pc = .ok (.i2l, 1)) (hp : pc + 1 = pc2) (k : V X d M pc2 lv (vL x.toInt64 :: st) S Q) : V X d M pc lv (vI x :: st) S Q := by
  subst hp; exact V_p (fun _ F _ _ w => lv_i2l F.1 F.2.1 hd rfl w) k
theorem V_l2i {x : Int64} {pc2 : Nat} (hd : decode M.2.1 pc = .ok (.l2i, 1)) (hp : pc + 1 = pc2) (k : V X d M pc2 lv (vI x.toInt32 :: st) S Q) : V X d M pc lv (vL x :: st) S Q := by
  subst hp; exact V_p (fun _ F _ _ w => lv_l2i F.1 F.2.1 hd rfl w) k
theorem V_i2b {x : Int32} {pc2 : Nat} (hd : decode M.2.1 pc = .ok (.i2b, 1)) (hp : pc + 1 = pc2) (k : V X d M pc2 lv (vI x.toInt8.toInt32 :: st) S Q) : V X d M pc lv (vI x :: st) S Q := by
  subst hp; exact V_p (fun _ F _ _ w => lv_i2b F.1 F.2.1 hd rfl w) k
theorem V_i2c {x : Int32} {pc2 : Nat} (hd : decode M.2.1 pc = .ok (.i2c, 1)) (hp : pc + 1 = pc2) (k : V X d M pc2 lv (vI (x.toUInt32 % 65536).toInt32 :: st) S Q) : V X d M pc lv (vI x :: st) S Q := by
  subst hp; exact V_p (fun _ F _ _ w => lv_i2c F.1 F.2.1 hd rfl w) k
theorem V_dup {v : AV} {pc2 : Nat} (hd : decode M.2.1 pc = .ok (.dup, 1)) (hc : cat v = 1) (hp : pc + 1 = pc2) (k : V X d M pc2 lv (v :: v :: st) S Q) : V X d M pc lv (v :: st) S Q := by
  subst hp; exact V_p (fun _ F _ _ w => lv_dup F.1 F.2.1 hd (by rw [cat_cv]; exact hc) w) k
theorem V_pop {v : AV} {pc2 : Nat} (hd : decode M.2.1 pc = .ok (.pop, 1)) (hc : cat v = 1) (hp : pc + 1 = pc2) (k : V X d M pc2 lv st S Q) : V X d M pc lv (v :: st) S Q := by
  subst hp; exact V_p (fun _ F _ _ w => lv_pop F.1 F.2.1 hd (by rw [cat_cv]; exact hc) w) k
theorem V_goto {off : Int} {tgt : Nat} (hd : decode M.2.1 pc = .ok (.goto off, 3)) (ht : (pc : Int) + off = (tgt : Int)) (k : V X d M tgt lv st S Q) : V X d M pc lv st S Q := V_p (fun _ F _ _ w => lv_goto F.1 F.2.1 hd ht w) k
end OPS

