section TEXT
variable {X : Cx} {d : Nat} {M : MI} {pc pc2 : Nat} {lv : Lv} {st : List AV} {S : Mem} {Q : Res → Mem → Prop}
theorem V_aast27 {a v : Nat} {i : Int32} (hd : decode M.2.1 pc = .ok (.aastore, 1)) (hp : pc + 1 = pc2) (ho : isK S a 27) (hin : vp_in i (gN S a)) (hv1 : 2 ≤ v) (hv2 : v < 27) (kk : V X d M pc2 lv st (uR S a i.toNatClampNeg v) Q) : V X d M pc lv (vR v :: vI i :: vR a :: st) S Q := by
  refine V_aastK (k := 27) (by decide) (by decide) hd hp ho hin (by omega) (fun {s H} G hW hH => ?_) kk
  have hKs := G.2.1.moved hW.alike
  have hs := G.2.2.2.2.2.2.2.2.1
  obtain ⟨cell, q1, q2, q3, -⟩ := (va_O.moved hW.alike (hs.1 (v - 2) (by omega)).1).kept hH.old
  have ev : ad X v = xs X (v - 2 + 2) := by unfold ad; rw [if_pos (by omega)]; congr 1; omega
  obtain ⟨kA, comp, k1, k2, k3, -⟩ := (hKs.2 7 _ rfl).2
  have hcomp : comp = cell.cls := Option.some.inj (k3.symm.trans q3)
  subst hcomp
  obtain ⟨kC, hkC, -⟩ := Vm.findClass_spec q3
  exact ⟨kA, _, kC, cell, kC, k1, k2, hkC, by rw [ev]; exact q1, fun q h => (by rw [h] at q2; cases q2), hkC, va_asg _ _⟩
end TEXT
/-- bytes of the texts, by the place of their rows (28 + i) -/
def stN (a : Nat) : Nat := strL.getD (a - 28) 0
def stB (a j : Nat) : Int32 := (strB.getD (a - 28) []).getD j 0
section TEXT2
variable {X : Cx} {d : Nat} {M : MI} {pc pc2 : Nat} {lv : Lv} {st : List AV} {S : Mem} {Q : Res → Mem → Prop}
theorem ad_lt {a : Nat} (h : a < 64) : ad X a = xs X a := by unfold ad; rw [if_pos h]
/-- a text's row of bytes -/
theorem V_txv {r ix : Nat} (hr : 2 ≤ r) (hr2 : r < 27) (hd : decode M.2.1 pc = .ok (.getfield ix, 3)) (hw : Cond.fieldLink (kcn.getD M.2.2.2.2 "") ix "java/lang/String" "value" "[B" ∈ lw_tbl) (hp : pc + 3 = pc2) (kk : V X d M pc2 lv (vR (r + 26) :: st) S Q) : V X d M pc lv (vR r :: st) S Q := by
  subst hp
  refine V_p (fun G F hH hl w => ?_) kk
  have hW := F.2.2.2.2.2.2.1
  have hs := (G.2.2.2.2.2.2.2.2.1.1 (r - 2) (by omega)).2.2.1
  obtain ⟨cf, k, fi, f, cell, h1, h2, h3, h4, h5, h6⟩ := (va_OF.moved hW.alike hs).kept hH.old
  have e1 : stc X (vR r :: st) = .ref (xs X (r - 2 + 2)) :: stc X st := by show cv X (vR r) :: stc X st = _; rw [cvR (by omega), ad_lt (by omega), show r - 2 + 2 = r by omega]
  have e2 : stc X (vR (r + 26) :: st) = .ref (xs X (r - 2 + 28)) :: stc X st := by show cv X (vR (r + 26)) :: stc X st = _; rw [cvR (by omega), ad_lt (by omega), show r - 2 + 28 = r + 26 by omega]
  rw [e1]
  rw [e2] at w
  exact W.getf F.1 F.2.1 F.2.2.2.2.1 (word_at hW (Or.inl rfl) (G.1 _ hw)) h1 h2 h3 h4 h5 rfl rfl hd w
theorem V_txc {r ix : Nat} (hr : 2 ≤ r) (hr2 : r < 27) (hd : decode M.2.1 pc = .ok (.getfield ix, 3)) (hw : Cond.fieldLink (kcn.getD M.2.2.2.2 "") ix "java/lang/String" "coder" "B" ∈ lw_tbl) (hp : pc + 3 = pc2) (kk : V X d M pc2 lv (vI 0 :: st) S Q) : V X d M pc lv (vR r :: st) S Q := by
  subst hp
  refine V_p (fun G F hH hl w => ?_) kk
  have hW := F.2.2.2.2.2.2.1
  have hs := (G.2.2.2.2.2.2.2.2.1.1 (r - 2) (by omega)).2.1
  obtain ⟨cf, k, fi, f, cell, h1, h2, h3, h4, h5, h6⟩ := (va_OF.moved hW.alike hs).kept hH.old
  have e1 : stc X (vR r :: st) = .ref (xs X (r - 2 + 2)) :: stc X st := by show cv X (vR r) :: stc X st = _; rw [cvR (by omega), ad_lt (by omega), show r - 2 + 2 = r by omega]
  rw [e1]
  exact W.getf F.1 F.2.1 F.2.2.2.2.1 (word_at hW (Or.inl rfl) (G.1 _ hw)) h1 h2 h3 h4 h5 rfl rfl hd w
theorem V_txl {a : Nat} (ha : 28 ≤ a) (ha2 : a < 53) (hd : decode M.2.1 pc = .ok (.arraylength, 1)) (hp : pc + 1 = pc2) (kk : V X d M pc2 lv (vI (nI (stN a)) :: st) S Q) : V X d M pc lv (vR a :: st) S Q := by
  subst hp
  refine V_p (fun G F hH hl w => ?_) kk
  have hW := F.2.2.2.2.2.2.1
  obtain ⟨cell, h1, h2, h3, h4, h5, h6, h7⟩ := (va_T.moved hW.alike (G.2.2.2.2.2.2.2.2.1.1 (a - 28) (by omega)).2.2.2).kept hH.old
  have e1 : stc X (vR a :: st) = .ref (xs X (a - 28 + 28)) :: stc X st := by show cv X (vR a) :: stc X st = _; rw [cvR (by omega), ad_lt (by omega), show a - 28 + 28 = a by omega]
  rw [e1]
  exact W.alen (n := nI (stN a)) F.1 F.2.1 h1 h2 h5 rfl rfl hd w
theorem V_txb {a : Nat} {i : Int32} (ha : 28 ≤ a) (ha2 : a < 53) (hd : decode M.2.1 pc = .ok (.baload, 1)) (hp : pc + 1 = pc2) (hin : vp_in i (stN a)) (hn : stN a < 2147483648) (kk : V X d M pc2 lv (vI (stB a i.toNatClampNeg) :: st) S Q) : V X d M pc lv (vI i :: vR a :: st) S Q := by
  subst hp
  refine V_p (fun G F hH hl w => ?_) kk
  have hW := F.2.2.2.2.2.2.1
  obtain ⟨cell, h1, h2, h3, h4, h5, h6, h7⟩ := (va_T.moved hW.alike (G.2.2.2.2.2.2.2.2.1.1 (a - 28) (by omega)).2.2.2).kept hH.old
  have e1 : stc X (vI i :: vR a :: st) = .int i :: .ref (xs X (a - 28 + 28)) :: stc X st := by show Value.int i :: cv X (vR a) :: stc X st = _; rw [cvR (by omega), ad_lt (by omega), show a - 28 + 28 = a by omega]
  rw [e1]
  have hlt : i.toNatClampNeg < stN a := Nat.not_le.mp fun q => hin (Or.inr q)
  exact W.bald (v := .int (stB a i.toNatClampNeg)) F.1 F.2.1 h1 h2 h3 (fun q => by
    rcases q with q | q
    · exact hin (Or.inl q)
    · have h4' : stN a ≤ cell.slots.size := h4
      omega) (h6 _ hlt) rfl rfl hd w
theorem V_compact {ix : Nat} (hd : decode M.2.1 pc = .ok (.getstatic ix, 3)) (hw : Cond.fieldLink (kcn.getD M.2.2.2.2 "") ix "java/lang/String" "COMPACT_STRINGS" "Z" ∈ lw_tbl) (hp : pc + 3 = pc2) (kk : V X d M pc2 lv (vI 1 :: st) S Q) : V X d M pc lv st S Q := by
  subst hp
  refine V_p (fun G F hH hl w => ?_) kk
  obtain ⟨cf, kf, fi, f, a, cell, h1, h2, h3, h4, h5, h6, h7, h8⟩ := (va_Z.moved F.2.2.2.2.2.2.1.alike G.2.2.2.2.2.2.2.2.2.2.2.1).kept hH.old
  exact W.gets (v := .int 1) F.1 F.2.1 F.2.2.2.2.1 (word_at F.2.2.2.2.2.2.1 (Or.inl rfl) (G.1 _ hw)) h1 h2 h3 h4 h5 (fun e => by rw [e] at h6; cases h6) h7 rfl hd w
end TEXT2

