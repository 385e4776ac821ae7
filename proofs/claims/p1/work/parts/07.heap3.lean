section HEAP3
variable {X : Cx} {d : Nat} {M : MI} {pc : Nat} {lv : Lv} {st : List AV} {S : Mem} {Q : Res → Mem → Prop}
theorem stc_via {v : AV} {i : Int32} {a : Nat} (h : a ≠ 0) : stc X (v :: vI i :: vR a :: st) = cv X v :: .int i :: .ref (ad X a) :: stc X st := by show cv X v :: Value.int i :: cv X (vR a) :: stc X st = _; rw [cvR h]
theorem atc_ar {a k : Nat} {H : Heap} (ho : gK S a = k) (hk : 20 ≤ k) (h : H[ad X a]? = some (vp_cell (xA X k) (arc X S a))) : atc X S a H := by unfold atc; rw [ho, if_neg (by omega)]; exact h
theorem arrV_set (c : ClassId) (n : Nat) (f g : Nat → Value) (i : Nat) (v : Value) (h1 : g i = v) (h2 : ∀ j, j ≠ i → g j = f j) : (arrV c n f).setSlot i v = arrV c n g := by
  rw [arrV_store]
  congr 1
  funext q
  by_cases hq : q = i
  · subst hq; simp [updV, h1]
  · simp [updV, hq, h2 q hq]
theorem V_iast {a pc2 : Nat} {i x : Int32} (hd : decode M.2.1 pc = .ok (.iastore, 1)) (hp : pc + 1 = pc2) (ho : isK S a 21) (hin : vp_in i (gN S a)) (kk : V X d M pc2 lv st (uI S a i.toNatClampNeg x) Q) : V X d M pc lv (vI x :: vI i :: vR a :: st) S Q := by
  subst hp
  refine V_h (S2 := uI S a i.toNatClampNeg x) rfl rfl (fun G F hH hl w => ?_) kk
  have hKs := G.2.1.moved F.2.2.2.2.2.2.1.alike
  have h32 := hH.ge ho (by omega) (hH.n27 hin)
  have hc := hH.ar ho h32 (by omega)
  rw [arc_i ho.2 (by omega), vp_cell_i] at hc
  rw [stc_via (by omega)]
  refine W.iast F.1 F.2.1 hc ((hKs.2 1 _ rfl).1 _ _) (fun q => by cases q) (by rw [arrV_size]; exact hin) rfl rfl hd fun H1 e z oq => ?_
  refine w H1 _ (hH.set h32 z oq (atc_ar (k := 21) ho.2 (by omega) ?_) rfl (fun _ => rfl) (fun _ => rfl) (fun b hb => up2_ne hb) (fun _ _ => rfl) (fun _ _ => rfl)) (by show xB X ≤ ad X a; rw [ad_ge h32]; omega)
  rw [e, arc_i (S := uI S a i.toNatClampNeg x) ho.2 (by omega), vp_cell_i]
  exact congrArg some (arrV_set _ _ _ _ _ _ (by show Value.int (up2 S.1 a _ x a _) = _; rw [up2_at]) (fun j hj => by show Value.int (up2 S.1 a _ x a j) = _; rw [up2_nk hj]; rfl))
theorem V_bast {a pc2 : Nat} {i x : Int32} (hd : decode M.2.1 pc = .ok (.bastore, 1)) (hp : pc + 1 = pc2) (ho : isK S a 20) (hin : vp_in i (gN S a)) (kk : V X d M pc2 lv st (uI S a i.toNatClampNeg x.toInt8.toInt32) Q) : V X d M pc lv (vI x :: vI i :: vR a :: st) S Q := by
  subst hp
  refine V_h (S2 := uI S a i.toNatClampNeg x.toInt8.toInt32) rfl rfl (fun G F hH hl w => ?_) kk
  have hKs := G.2.1.moved F.2.2.2.2.2.2.1.alike
  have h32 := hH.ge ho (by omega) (hH.n27 hin)
  have hc := hH.ar ho h32 (by omega)
  rw [arc_i ho.2 (by omega), vp_cell_i] at hc
  rw [stc_via (by omega)]
  refine W.bast F.1 F.2.1 hc ((hKs.2 0 _ rfl).1 _ _) (fun q => by cases q) (by rw [arrV_size]; exact hin) rfl rfl hd fun H1 e z oq => ?_
  refine w H1 _ (hH.set h32 z oq (atc_ar (k := 20) ho.2 (by omega) ?_) rfl (fun _ => rfl) (fun _ => rfl) (fun b hb => up2_ne hb) (fun _ _ => rfl) (fun _ _ => rfl)) (by show xB X ≤ ad X a; rw [ad_ge h32]; omega)
  rw [e, arc_i (S := uI S a i.toNatClampNeg x.toInt8.toInt32) ho.2 (by omega), vp_cell_i]
  exact congrArg some (arrV_set _ _ _ _ _ _ (by show Value.int (up2 S.1 a _ _ a _) = _; rw [up2_at]; rfl) (fun j hj => by show Value.int (up2 S.1 a _ _ a j) = _; rw [up2_nk hj]; rfl))
theorem V_zast {a pc2 : Nat} {i x : Int32} (hd : decode M.2.1 pc = .ok (.bastore, 1)) (hp : pc + 1 = pc2) (ho : isK S a 23) (hin : vp_in i (gN S a)) (hx : x = 0 ∨ x = 1) (kk : V X d M pc2 lv st (uI S a i.toNatClampNeg x) Q) : V X d M pc lv (vI x :: vI i :: vR a :: st) S Q := by
  subst hp
  refine V_h (S2 := uI S a i.toNatClampNeg x) rfl rfl (fun G F hH hl w => ?_) kk
  have hKs := G.2.1.moved F.2.2.2.2.2.2.1.alike
  have h32 := hH.ge ho (by omega) (hH.n27 hin)
  have hc := hH.ar ho h32 (by omega)
  rw [arc_i ho.2 (by omega), vp_cell_i] at hc
  rw [stc_via (by omega)]
  refine W.zast F.1 F.2.1 hc ((hKs.2 3 _ rfl).1 _ _) (fun q => by cases q) (by rw [arrV_size]; exact hin) rfl rfl hd fun H1 e z oq => ?_
  refine w H1 _ (hH.set h32 z oq (atc_ar (k := 23) ho.2 (by omega) ?_) rfl (fun _ => rfl) (fun _ => rfl) (fun b hb => up2_ne hb) (fun _ _ => rfl) (fun _ _ => rfl)) (by show xB X ≤ ad X a; rw [ad_ge h32]; omega)
  have en : narrow .boolean (.int x) = .int x := by rcases hx with rfl | rfl <;> rfl
  rw [e, arc_i (S := uI S a i.toNatClampNeg x) ho.2 (by omega), vp_cell_i, en]
  exact congrArg some (arrV_set _ _ _ _ _ _ (by show Value.int (up2 S.1 a _ x a _) = _; rw [up2_at]) (fun j hj => by show Value.int (up2 S.1 a _ x a j) = _; rw [up2_nk hj]; rfl))
theorem V_last {a pc2 : Nat} {i : Int32} {x : Int64} (hd : decode M.2.1 pc = .ok (.lastore, 1)) (hp : pc + 1 = pc2) (ho : isK S a 22) (hin : vp_in i (gN S a)) (kk : V X d M pc2 lv st (uL S a i.toNatClampNeg x) Q) : V X d M pc lv (vL x :: vI i :: vR a :: st) S Q := by
  subst hp
  refine V_h (S2 := uL S a i.toNatClampNeg x) rfl rfl (fun G F hH hl w => ?_) kk
  have hKs := G.2.1.moved F.2.2.2.2.2.2.1.alike
  have h32 := hH.ge ho (by omega) (hH.n27 hin)
  have hc := hH.ar ho h32 (by omega)
  rw [arc_l ho.2, vp_cell_l] at hc
  rw [stc_via (by omega)]
  refine W.last F.1 F.2.1 hc ((hKs.2 2 _ rfl).1 _ _) (fun q => by cases q) (by rw [arrV_size]; exact hin) rfl rfl hd fun H1 e z oq => ?_
  refine w H1 _ (hH.set h32 z oq (atc_ar (k := 22) ho.2 (by omega) ?_) rfl (fun _ => rfl) (fun _ => rfl) (fun _ _ => rfl) (fun b hb => up2_ne hb) (fun _ _ => rfl)) (by show xB X ≤ ad X a; rw [ad_ge h32]; omega)
  rw [e, arc_l (S := uL S a i.toNatClampNeg x) ho.2, vp_cell_l]
  exact congrArg some (arrV_set _ _ _ _ _ _ (by show Value.long (up2 S.2.1 a _ x a _) = _; rw [up2_at]) (fun j hj => by show Value.long (up2 S.2.1 a _ x a j) = _; rw [up2_nk hj]; rfl))
/-- an object is made -/
theorem V_new {ci : Nat} {Cn : String} {T : u_T} {N : Nat} {ty : Nat → FieldType} (B : KC ci Cn T N ty) {ix pc2 : Nat} (hd : decode M.2.1 pc = .ok (.new ix, 3)) (hw : Cond.classLink (kcn.getD M.2.2.2.2 "") ix Cn ∈ lw_tbl) (hi : Cond.instantiable Cn N ∈ lw_tbl) (hi2 : Cond.initialized Cn ∈ lw_tbl)
    (hv : ∀ j, j < N → defaultValue (ty j) = fvl X (nw S ci 0 N) (tp S) (ty j) j) (hp : pc + 3 = pc2) (kk : V X d M pc2 lv (vR (tp S) :: st) (nw S ci 0 N) Q) : V X d M pc lv st S Q := by
  subst hp
  refine V_a (S2 := nw S ci 0 N) rfl rfl (fun {p e s m args below meth c H locs R cells slots Qf ls} G F hH hl h1 h2 w => ?_) kk
  have hW := F.2.2.2.2.2.2.1
  have hts : ∀ w ∈ u_ws Cn T N, w.before args s = true := fun w hw => word_at hW (Or.inl (u_good w hw)) (G.1 w (B.2.1 w hw))
  have hKn := (G.2.1.moved hW.alike).1 ci _ B.1
  refine W.newcK F.1 F.2.1 F.2.2.2.2.1 (word_at hW (Or.inl rfl) (G.1 _ hw)) (word_at hW (Or.inl rfl) (G.1 _ hi)) (word_at hW (Or.inl rfl) (G.1 _ hi2)) rfl hd h1 h2 hKn.2.1 rfl fun H1 kC hkC e1 z1 o1 => ?_
  have h32 := hH.1
  have ea : H.size = ad X (tp S) := by rw [ad_ge h32]; exact hH.2.1
  have K := w H1 (hH.push (by have := B.2.2.2.2.2.2; omega) z1 o1 (by
    have ek : gK (nw S ci 0 N) (tp S) = ci := by show va_up (gK S) (tp S) ci (tp S) = ci; unfold va_up; rw [if_pos rfl]
    unfold atc
    rw [ek, if_pos (by have := B.2.2.2.2.2.2; omega), B.2.2.2.2.1, B.2.2.2.2.2.1, ← ea]
    exact (u_born ty hts (fun w h => h) hKn hkC e1 B.2.2.1).to hv))
  have es : stc X (vR (tp S) :: st) = .ref H.size :: stc X st := by show cv X (vR (tp S)) :: stc X st = _; rw [cvR (by omega), ea]
  rw [es] at K
  exact K
/-- a row of ints, bytes, booleans or longs is made -/
def aty : Nat → ArrayType
  | 20 => .byte
  | 21 => .int
  | 22 => .long
  | _ => .boolean
theorem V_newa {k n pc2 : Nat} (hk : 20 ≤ k) (hk2 : k < 24) (hd : decode M.2.1 pc = .ok (.newarray (aty k), 2)) (hw : Cond.arrayClass (kel k) ∈ lw_tbl) (hp : pc + 2 = pc2) {x : Int32} (hx : x = nI n) (hn : n ≤ 1000000) (kk : V X d M pc2 lv (vR (tp S) :: st) (nw S k n n) Q) : V X d M pc lv (vI x :: st) S Q := by
  subst hp; subst hx
  refine V_a (S2 := nw S k n n) rfl rfl (fun {p e s m args below meth c H locs R cells slots Qf ls} G F hH hl h1 h2 w => ?_) kk
  have hW := F.2.2.2.2.2.2.1
  have hKs := G.2.1.moved hW.alike
  have hty : newarray.typeOf (aty k) = kel k := by rcases (show k = 20 ∨ k = 21 ∨ k = 22 ∨ k = 23 by omega) with rfl | rfl | rfl | rfl <;> rfl
  have hra : s.vm.findClass ("[" ++ (kel k).toString) = some (xA X k) := by
    rcases (show k = 20 ∨ k = 21 ∨ k = 22 ∨ k = 23 by omega) with rfl | rfl | rfl | rfl
    · exact (hKs.2 0 _ rfl).2
    · exact (hKs.2 1 _ rfl).2
    · exact (hKs.2 2 _ rfl).2
    · exact (hKs.2 3 _ rfl).2
  refine va_newaK F.1 F.2.1 (by rw [hty]; exact word_at hW (Or.inr ⟨_, rfl⟩) (G.1 _ hw)) rfl hd rfl (nI_pos (by omega)) (nI_clamp (by omega)) ?_ h1 h2 rfl fun H1 cA e1 z1 o1 hAr hNm => ?_
  · rw [hty]
    rcases (show k = 20 ∨ k = 21 ∨ k = 22 ∨ k = 23 by omega) with rfl | rfl | rfl | rfl <;> simp [kel, componentBytes] <;> omega
  rw [hty] at hNm e1
  have ecA : cA = xA X k := Option.some.inj (hNm.symm.trans hra)
  have h32 := hH.1
  have ea : H.size = ad X (tp S) := by rw [ad_ge h32]; exact hH.2.1
  have ek : gK (nw S k n n) (tp S) = k := by show va_up (gK S) (tp S) k (tp S) = k; unfold va_up; rw [if_pos rfl]
  have en : gN (nw S k n n) (tp S) = n := by show va_up (gN S) (tp S) n (tp S) = n; unfold va_up; rw [if_pos rfl]
  have K := w H1 (hH.push (by omega) z1 o1 (atc_ar ek hk (by
    rw [← ea, e1, ecA]
    rcases (show k = 20 ∨ k = 21 ∨ k = 22 ∨ k = 23 by omega) with rfl | rfl | rfl | rfl
    · rw [arc_i ek (by omega), vp_cell_i, en]; congr 2; funext j; show _ = Value.int (cl2 S.1 (tp S) 0 (tp S) j); unfold cl2; rw [if_pos rfl]; rfl
    · rw [arc_i ek (by omega), vp_cell_i, en]; congr 2; funext j; show _ = Value.int (cl2 S.1 (tp S) 0 (tp S) j); unfold cl2; rw [if_pos rfl]; rfl
    · rw [arc_l ek, vp_cell_l, en]; congr 2; funext j; show _ = Value.long (cl2 S.2.1 (tp S) 0 (tp S) j); unfold cl2; rw [if_pos rfl]; rfl
    · rw [arc_i ek (by omega), vp_cell_i, en]; congr 2; funext j; show _ = Value.int (cl2 S.1 (tp S) 0 (tp S) j); unfold cl2; rw [if_pos rfl]; rfl)))
  have es : stc X (vR (tp S) :: st) = .ref H.size :: stc X st := by show cv X (vR (tp S)) :: stc X st = _; rw [cvR (by omega), ea]
  rw [es] at K
  exact K
end HEAP3

