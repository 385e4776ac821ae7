/-! what the texts' methods need beside: a shift, returns of byte and char, the third static -/
section TEXT3
variable {X : Cx} {d : Nat} {M : MI} {pc pc2 : Nat} {lv : Lv} {st : List AV} {S : Mem} {Q : Res → Mem → Prop}
theorem V_ishr {x y : Int32} {pc2 : Nat} (hd : decode M.2.1 pc = .ok (.ishr, 1)) (hp : pc + 1 = pc2) (k : V X d M pc2 lv (vI (x >>> (y &&& 31)) :: st) S Q) : V X d M pc lv (vI y :: vI x :: st) S Q := by
  subst hp; exact V_p (fun _ F _ _ w => lv_ishr F.1 F.2.1 hd w) k
theorem V_breturn {x : Int32} (ty : FieldType) (hd : decode M.2.1 pc = .ok (.ireturn, 1)) (hr : M.2.2.2.1 = some ty) (hx : narrow ty (.int x) = .int x) (q : Q (.inl (some (vI x))) S) : V X d M pc lv [vI x] S Q := by
  refine ⟨.inl (some (vI x)), S, ⟨Nat.le_refl _, Nat.le_refl _, fun G p e s m args below meth c H locs t0 z0 ls F hH hL ht hz hl => ?_⟩, q⟩
  have hlocks := F.2.2.2.2.2.1
  exact W_ends (W.zret (v := x) (ty := ty) F.1 F.2.1 (by rw [F.2.2.2.1]; exact hr) hx (fun t ht2 hW => ⟨rfl, by rw [ht2]; exact hH, F.2.2.2.2.2.2.1.trans hW⟩) hL hd hlocks)
theorem V_sio {ix : Nat} (hd : decode M.2.1 pc = .ok (.getstatic ix, 3)) (hw : Cond.fieldLink (kcn.getD M.2.2.2.2 "") ix "jdk/internal/util/Preconditions" "SIOOBE_FORMATTER" "Ljava/util/function/BiFunction;" ∈ lw_tbl) (hp : pc + 3 = pc2) (kk : ∀ r : Nat, r = 0 ∨ r = 55 → V X d M pc2 lv (vR r :: st) S Q) : V X d M pc lv st S Q := by
  subst hp
  by_cases hz : va_Z "jdk/internal/util/Preconditions" "SIOOBE_FORMATTER" "Ljava/util/function/BiFunction;" .null (fre X) (x0 X) (x0 X).heap
  · refine V_p (fun G F hH hl w => ?_) (kk 0 (Or.inl rfl))
    obtain ⟨cf, kf, fi, f, a, cell, h1, h2, h3, h4, h5, h6, h7, h8⟩ := (va_Z.moved F.2.2.2.2.2.2.1.alike hz).kept hH.old
    exact W.gets (v := .null) F.1 F.2.1 F.2.2.2.2.1 (word_at F.2.2.2.2.2.2.1 (Or.inl rfl) (G.1 _ hw)) h1 h2 h3 h4 h5 (fun e => by rw [e] at h6; cases h6) h7 rfl hd w
  · refine V_p (fun G F hH hl w => ?_) (kk 55 (Or.inr rfl))
    have hz2 := G.2.2.2.2.2.2.2.2.2.2.2.2.resolve_left hz
    obtain ⟨cf, kf, fi, f, a, cell, h1, h2, h3, h4, h5, h6, h7, h8⟩ := (va_Z.moved F.2.2.2.2.2.2.1.alike hz2).kept hH.old
    exact W.gets (v := .ref (xs X 55)) F.1 F.2.1 F.2.2.2.2.1 (word_at F.2.2.2.2.2.2.1 (Or.inl rfl) (G.1 _ hw)) h1 h2 h3 h4 h5 (fun e => by rw [e] at h6; cases h6) h7 rfl hd w
theorem stN_lt (a : Nat) : stN a < 2147483648 := by
  unfold stN
  by_cases h : a - 28 < 25
  · have h2 : ∀ i : Fin 25, strL.getD i.1 0 < 2147483648 := by decide
    exact h2 ⟨_, h⟩
  · have h3 : strL.getD (a - 28) 0 = 0 := by
      rw [List.getD_eq_getElem?_getD, List.getElem?_eq_none (by show 25 ≤ a - 28; omega)]
      rfl
    rw [h3]; decide
end TEXT3

