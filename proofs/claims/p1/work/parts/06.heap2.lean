theorem up2_ne {α : Type} {f : Nat → Nat → α} {a k : Nat} {v : α} {b : Nat} (h : b ≠ a) : up2 f a k v b = f b := by funext j; unfold up2; rw [if_neg (fun q => h q.1)]
theorem up2_nk {α : Type} {f : Nat → Nat → α} {a k : Nat} {v : α} {b j : Nat} (h : j ≠ k) : up2 f a k v b j = f b j := by unfold up2; rw [if_neg (fun q => h q.2)]
theorem up2_at {α : Type} {f : Nat → Nat → α} {a k : Nat} {v : α} : up2 f a k v a k = v := by unfold up2; rw [if_pos ⟨rfl, rfl⟩]
section HEAP2
variable {X : Cx} {d : Nat} {M : MI} {pc : Nat} {lv : Lv} {st : List AV} {S : Mem} {Q : Res → Mem → Prop}
theorem V_putI {ci : Nat} {Cn : String} {T : u_T} {N : Nat} {ty : Nat → FieldType} (B : KC ci Cn T N ty) {ix a pc2 : Nat} {x : Int32} (k : Nat) (hd : decode M.2.1 pc = .ok (.putfield ix, 3)) (hw : Cond.fieldLink (kcn.getD M.2.2.2.2 "") ix (T k).1 (T k).2.1 (T k).2.2.1 ∈ lw_tbl) (hk : k < N) (hf : finOk M (T k))
    (hty : ty k = .int) (hp : pc + 3 = pc2) (ho : isK S a ci) (kk : V X d M pc2 lv st (uI S a k x) Q) : V X d M pc lv (vI x :: vR a :: st) S Q := by
  refine V_put (v := vI x) (S2 := uI S a k x) B hd hw hk hf (by rw [hty]; rfl) (by rw [hty]; rfl) ho rfl rfl (fun _ => rfl) (fun _ => rfl) (fun b hb => up2_ne hb) (fun _ _ => rfl) (fun _ _ => rfl) ?_ ?_ hp kk
  · rw [hty]; show Value.int (up2 S.1 a k x a k) = _; rw [up2_at]; rfl
  · intro j _ hj; unfold fvl; rw [show gI (uI S a k x) a j = gI S a j from up2_nk hj]; first | done | rfl
theorem V_putZ {ci : Nat} {Cn : String} {T : u_T} {N : Nat} {ty : Nat → FieldType} (B : KC ci Cn T N ty) {ix a pc2 : Nat} {x : Int32} (k : Nat) (hd : decode M.2.1 pc = .ok (.putfield ix, 3)) (hw : Cond.fieldLink (kcn.getD M.2.2.2.2 "") ix (T k).1 (T k).2.1 (T k).2.2.1 ∈ lw_tbl) (hk : k < N) (hf : finOk M (T k))
    (hty : ty k = .boolean) (hp : pc + 3 = pc2) (ho : isK S a ci) (hx : x = 0 ∨ x = 1) (kk : V X d M pc2 lv st (uI S a k x) Q) : V X d M pc lv (vI x :: vR a :: st) S Q := by
  refine V_put (v := vI x) (S2 := uI S a k x) B hd hw hk hf (by rw [hty]; rcases hx with rfl | rfl <;> rfl) (by rw [hty]; rcases hx with rfl | rfl <;> rfl) ho rfl rfl (fun _ => rfl) (fun _ => rfl) (fun b hb => up2_ne hb) (fun _ _ => rfl) (fun _ _ => rfl) ?_ ?_ hp kk
  · rw [hty]; show Value.int (up2 S.1 a k x a k) = _; rw [up2_at]; rfl
  · intro j _ hj; unfold fvl; rw [show gI (uI S a k x) a j = gI S a j from up2_nk hj]; first | done | rfl
theorem V_putR {ci : Nat} {Cn : String} {T : u_T} {N : Nat} {ty : Nat → FieldType} (B : KC ci Cn T N ty) {ix a pc2 : Nat} {x : Nat} (k : Nat) (hd : decode M.2.1 pc = .ok (.putfield ix, 3)) (hw : Cond.fieldLink (kcn.getD M.2.2.2.2 "") ix (T k).1 (T k).2.1 (T k).2.2.1 ∈ lw_tbl) (hk : k < N) (hf : finOk M (T k))
    (hty : (∃ c, ty k = .object c) ∨ ∃ t, ty k = .array t) (hp : pc + 3 = pc2) (ho : isK S a ci) (kk : V X d M pc2 lv st (uR S a k x) Q) : V X d M pc lv (vR x :: vR a :: st) S Q := by
  have hcv : cv X (vR x) = .null ∨ ∃ q, cv X (vR x) = .ref q := by
    by_cases c : x = 0
    · subst c; exact Or.inl rfl
    · exact Or.inr ⟨_, cvR c⟩
  refine V_put (v := vR x) (S2 := uR S a k x) B hd hw hk hf ?_ ?_ ho rfl rfl (fun _ => rfl) (fun _ => rfl) (fun _ _ => rfl) (fun _ _ => rfl) (fun b hb => up2_ne hb) ?_ ?_ hp kk
  · rcases hty with ⟨c, h⟩ | ⟨c, h⟩ <;> rw [h] <;> rcases hcv with e | ⟨q, e⟩ <;> rw [e] <;> rfl
  · rcases hty with ⟨c, h⟩ | ⟨c, h⟩ <;> rw [h] <;> rcases hcv with e | ⟨q, e⟩ <;> rw [e] <;> rfl
  · rcases hty with ⟨c, h⟩ | ⟨c, h⟩ <;> rw [h] <;> (show va_rf (rO X (up2 S.2.2.1 a k x a k)) = _; rw [up2_at]; rfl)
  · intro j _ hj; unfold fvl; rw [show gR (uR S a k x) a j = gR S a j from up2_nk hj]; first | done | rfl
theorem arc_i {a k : Nat} (ho : gK S a = k) (h : k = 20 ∨ k = 21 ∨ k = 23) : arc X S a = (gN S a, .inl (gI S a)) := by unfold arc; rw [ho, if_neg (by omega), if_pos (by omega)]
theorem arc_l {a : Nat} (ho : gK S a = 22) : arc X S a = (gN S a, .inr (.inl (gL S a))) := by unfold arc; rw [ho, if_pos rfl]
theorem arc_q {a k : Nat} (ho : gK S a = k) (h : 24 ≤ k) : arc X S a = (gN S a, .inr (.inr (.inr (.inr (fun i => rO X (gR S a i)))))) := by unfold arc; rw [ho, if_neg (by omega), if_neg (by omega)]
theorem HR.n27 {H : Heap} (h : HR X S H) {a : Nat} {i : Int32} (hin : vp_in i (gN S a)) : a ≠ 27 := fun q => by
  subst q
  have h1 := h.2.2.2.2.2.1
  rw [h1] at hin
  exact hin (Or.inr (Nat.zero_le _))
theorem stc_ia {i : Int32} {a : Nat} (h : a ≠ 0) : stc X (vI i :: vR a :: st) = .int i :: .ref (ad X a) :: stc X st := by show Value.int i :: cv X (vR a) :: stc X st = _; rw [cvR h]
theorem V_iald {a pc2 : Nat} {i : Int32} (hd : decode M.2.1 pc = .ok (.iaload, 1)) (hp : pc + 1 = pc2) (ho : isK S a 21) (hin : vp_in i (gN S a)) (kk : V X d M pc2 lv (vI (gI S a i.toNatClampNeg) :: st) S Q) : V X d M pc lv (vI i :: vR a :: st) S Q := by
  subst hp
  refine V_p (fun G F hH hl w => ?_) kk
  have hKs := G.2.1.moved F.2.2.2.2.2.2.1.alike
  have h32 := hH.ge ho (by omega) (hH.n27 hin)
  have hc := hH.ar ho h32 (by omega)
  rw [arc_i ho.2 (by omega), vp_cell_i] at hc
  have hlt : i.toNatClampNeg < gN S a := Nat.not_le.mp fun q => hin (Or.inr q)
  rw [stc_ia (by omega)]
  exact W.iald (v := .int (gI S a i.toNatClampNeg)) F.1 F.2.1 hc ((hKs.2 1 _ rfl).1 _ _) (fun q => by cases q) (by rw [arrV_size]; exact hin) (by rw [arrV_read _ _ hlt]) rfl rfl hd w
theorem V_bald {a pc2 : Nat} {i : Int32} (hd : decode M.2.1 pc = .ok (.baload, 1)) (hp : pc + 1 = pc2) (ho : isK S a 20) (hin : vp_in i (gN S a)) (kk : V X d M pc2 lv (vI (gI S a i.toNatClampNeg) :: st) S Q) : V X d M pc lv (vI i :: vR a :: st) S Q := by
  subst hp
  refine V_p (fun G F hH hl w => ?_) kk
  have hKs := G.2.1.moved F.2.2.2.2.2.2.1.alike
  have h32 := hH.ge ho (by omega) (hH.n27 hin)
  have hc := hH.ar ho h32 (by omega)
  rw [arc_i ho.2 (by omega), vp_cell_i] at hc
  have hlt : i.toNatClampNeg < gN S a := Nat.not_le.mp fun q => hin (Or.inr q)
  rw [stc_ia (by omega)]
  exact W.bald (v := .int (gI S a i.toNatClampNeg)) F.1 F.2.1 hc ((hKs.2 0 _ rfl).1 _ _) (fun q => by cases q) (by rw [arrV_size]; exact hin) (by rw [arrV_read _ _ hlt]) rfl rfl hd w
theorem V_lald {a pc2 : Nat} {i : Int32} (hd : decode M.2.1 pc = .ok (.laload, 1)) (hp : pc + 1 = pc2) (ho : isK S a 22) (hin : vp_in i (gN S a)) (kk : V X d M pc2 lv (vL (gL S a i.toNatClampNeg) :: st) S Q) : V X d M pc lv (vI i :: vR a :: st) S Q := by
  subst hp
  refine V_p (fun G F hH hl w => ?_) kk
  have hKs := G.2.1.moved F.2.2.2.2.2.2.1.alike
  have h32 := hH.ge ho (by omega) (hH.n27 hin)
  have hc := hH.ar ho h32 (by omega)
  rw [arc_l ho.2, vp_cell_l] at hc
  have hlt : i.toNatClampNeg < gN S a := Nat.not_le.mp fun q => hin (Or.inr q)
  rw [stc_ia (by omega)]
  exact W.lald (v := .long (gL S a i.toNatClampNeg)) F.1 F.2.1 hc ((hKs.2 2 _ rfl).1 _ _) (fun q => by cases q) (by rw [arrV_size]; exact hin) (by rw [arrV_read _ _ hlt]) rfl rfl hd w
/-- rows of references: kinds 24 .. 27 -/
theorem kel_at {k : Nat} (hk : 24 ≤ k) (hk2 : k < 28) : (tysL X)[k - 20]? = some (xA X k, kel k) ∧ (kel k).isReference = true := by
  rcases (show k = 24 ∨ k = 25 ∨ k = 26 ∨ k = 27 by omega) with rfl | rfl | rfl | rfl <;> exact ⟨rfl, rfl⟩
theorem arc_arr {a : Nat} (c : ClassId) : ∃ f : Nat → Value, vp_cell c (arc X S a) = arrV c (gN S a) f := by
  unfold arc
  by_cases c1 : gK S a = 22
  · rw [if_pos c1]; exact ⟨_, vp_cell_l _ _ _⟩
  · rw [if_neg c1]
    by_cases c2 : gK S a < 24
    · rw [if_pos c2]; exact ⟨_, vp_cell_i _ _ _⟩
    · rw [if_neg c2]; exact ⟨_, vp_cell_q _ _ _⟩
theorem V_alen {a k pc2 : Nat} (hd : decode M.2.1 pc = .ok (.arraylength, 1)) (hp : pc + 1 = pc2) (hk : 20 ≤ k) (hk2 : k < 28) (ho : isK S a k) (h27 : a ≠ 27) (kk : V X d M pc2 lv (vI (nI (gN S a)) :: st) S Q) : V X d M pc lv (vR a :: st) S Q := by
  subst hp
  have hty : ∃ ty, (tysL X)[k - 20]? = some (xA X k, ty) := by
    rcases (show k = 20 ∨ k = 21 ∨ k = 22 ∨ k = 23 ∨ k = 24 ∨ k = 25 ∨ k = 26 ∨ k = 27 by omega) with rfl | rfl | rfl | rfl | rfl | rfl | rfl | rfl <;> exact ⟨_, rfl⟩
  obtain ⟨ty, hty⟩ := hty
  obtain ⟨f, hf⟩ := arc_arr (X := X) (S := S) (a := a) (xA X k)
  refine V_p (fun G F hH hl w => ?_) kk
  have hKs := G.2.1.moved F.2.2.2.2.2.2.1.alike
  have h32 := hH.ge ho hk2 h27
  have hc := hH.ar ho h32 hk
  rw [hf] at hc
  have e1 : stc X (vR a :: st) = .ref (ad X a) :: stc X st := by show cv X (vR a) :: stc X st = _; rw [cvR (by omega)]
  rw [e1]
  exact W.alen (n := nI (gN S a)) F.1 F.2.1 hc ((hKs.2 _ _ hty).1 _ _) (by rw [arrV_size]; rfl) rfl rfl hd w
end HEAP2

