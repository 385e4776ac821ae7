/-! a nest mate's field (Stop.place), Throwable's statics, calls on texts -/
section NEST
variable {X : Cx} {d : Nat} {M : MI} {pc pc2 : Nat} {lv : Lv} {st : List AV} {S : Mem} {Q : Res → Mem → Prop}
theorem V_getNI {ci : Nat} {Cn host : String} {T : u_T} {N : Nat} {ty : Nat → FieldType} (B : KC ci Cn T N ty) {ix a : Nat} (k : Nat) (hd : decode M.2.1 pc = .ok (.getfield ix, 3)) (hw : Cond.fieldLinkNest (kcn.getD M.2.2.2.2 "") ix (T k).1 (T k).2.1 (T k).2.2.1 host ∈ lw_tbl) (hk : k < N)
    (hv : ∀ S : Mem, fvl X S a (ty k) k = .int (gI S a k)) (hp : pc + 3 = pc2) (ho : isK S a ci) (kk : V X d M pc2 lv (vI (gI S a k) :: st) S Q) : V X d M pc lv (vR a :: st) S Q := by
  subst hp
  refine V_p (fun {p e s m args below meth c H locs R cells slots Qf ls} G F hH hl w => ?_) kk
  have hW := F.2.2.2.2.2.2.1
  have hts : ∀ w ∈ u_ws Cn T N, w.before args s = true := fun w hw => word_at hW (Or.inl (u_good w hw)) (G.1 w (B.2.1 w hw))
  obtain ⟨cell, q1, q2, q3, q4⟩ := hH.ob B ho
  obtain ⟨hS, hfc, kC, hkC, hkind⟩ := (G.2.1.moved hW.alike).1 ci _ B.1
  obtain ⟨cf, kf, fi, f, hi, hsl⟩ := hS k hk
  have h64 := hH.geo ho B.2.2.2.2.2.2
  have hnw : va_Nw (.fieldLinkNest (kcn.getD M.2.2.2.2 "") ix (T k).1 (T k).2.1 (T k).2.2.1 host) s := va_Nw.warmF hW (va_Nw.of rfl (G.1 _ hw))
  have e1 : stc X (vR a :: st) = .ref (ad X a) :: stc X st := by show cv X (vR a) :: stc X st = _; rw [cvR (by omega)]
  rw [e1]
  refine va_Wgetf F.1 F.2.1 F.2.2.2.2.1 (va_Nw.use rfl hnw) hi (u_facts hfc hkC (u_lays hts (fun w h => h) hk) hi).1 q1 (by rw [q3]; exact fun h => by cases h) (v := .int (gI S a k)) ?_ rfl rfl hd w
  rw [hsl, q4 k hk, ← hv]
theorem V_putNI {ci : Nat} {Cn host : String} {T : u_T} {N : Nat} {ty : Nat → FieldType} (B : KC ci Cn T N ty) {ix a : Nat} {x : Int32} (k : Nat) (hd : decode M.2.1 pc = .ok (.putfield ix, 3)) (hw : Cond.fieldLinkNest (kcn.getD M.2.2.2.2 "") ix (T k).1 (T k).2.1 (T k).2.2.1 host ∈ lw_tbl) (hk : k < N) (hf : (T k).2.2.2 = false)
    (hty : ty k = .int) (hp : pc + 3 = pc2) (ho : isK S a ci) (kk : V X d M pc2 lv st (uI S a k x) Q) : V X d M pc lv (vI x :: vR a :: st) S Q := by
  subst hp
  refine V_h (S2 := uI S a k x) rfl rfl (fun {p e s m args below meth c H locs R cells slots Qf ls} G F hH hl w => ?_) kk
  have hW := F.2.2.2.2.2.2.1
  have hts : ∀ w ∈ u_ws Cn T N, w.before args s = true := fun w hw => word_at hW (Or.inl (u_good w hw)) (G.1 w (B.2.1 w hw))
  have hKs := G.2.1.moved hW.alike
  have hap := va_apart (own := "") hts (fun w h => h) ty B.2.2.1 B.2.2.2.1 hKs B.1
  obtain ⟨cell, q1, q2, q3, q4⟩ := hH.ob B ho
  obtain ⟨hS, hfc, kC, hkC, hkind⟩ := hKs.1 ci _ B.1
  obtain ⟨cf, kf, fi, f, hi, hsl⟩ := hS k hk
  have h64 := hH.geo ho B.2.2.2.2.2.2
  have hnw : va_Nw (.fieldLinkNest (kcn.getD M.2.2.2.2 "") ix (T k).1 (T k).2.1 (T k).2.2.1 host) s := va_Nw.warmF hW (va_Nw.of rfl (G.1 _ hw))
  have e1 : stc X (vI x :: vR a :: st) = .int x :: .ref (ad X a) :: stc X st := by show Value.int x :: cv X (vR a) :: stc X st = _; rw [cvR (by omega)]
  have hlay := hts _ (u_in_lay hk)
  have hst := (u_facts hfc hkC (u_lays hts (fun w h => h) hk) hi).1
  unfold u_lay at hlay
  rw [if_neg (by rw [hf]; decide)] at hlay
  have h6 := u_store (v := .int x) hfc hkC hkind hlay hi (B.2.2.1 k hk) (by rw [hty]; rfl) (by rw [hty]; rfl)
  rw [e1]
  refine va_WputK F.1 F.2.1 (f := f) F.2.2.2.2.1 (va_Nw.use rfl hnw) hi hst (by rw [q2]; exact h6) q1 q3 (by rw [hsl]; exact k2_hasslot (q4 k hk)) rfl rfl hd fun H' e1 e2 e3 => ?_
  rw [hsl] at e1 ⊢
  refine w H' _ (hH.set h64 e2 e3 ?_ rfl (fun _ => rfl) (fun _ => rfl) (fun b hb => up2_ne hb) (fun _ _ => rfl) (fun _ _ => rfl)) (by show xB X ≤ ad X a; rw [ad_ge h64]; omega)
  unfold atc
  rw [show gK (uI S a k x) a = ci from ho.2, if_pos (by have := B.2.2.2.2.2.2; omega), B.2.2.2.2.1, B.2.2.2.2.2.1]
  refine t_OB.to (V := updV (fun j => fvl X S a (ty j) j) k (.int x)) ⟨_, e1, q2, q3, t_set q4 hap hk (.int x)⟩ (fun j hj => ?_)
  by_cases cc : j = k
  · subst cc
    rw [hty]
    show updV _ j (Value.int x) j = Value.int (up2 S.1 a j x a j)
    rw [up2_at]; simp [updV]
  · have e5 : fvl X (uI S a k x) a (ty j) j = fvl X S a (ty j) j := by unfold fvl; rw [show gI (uI S a k x) a j = gI S a j from up2_nk cc]; first | done | rfl
    rw [e5]; simp [updV, cc]
/-- Throwable's two statics: null, or one object -/
theorem V_unas {ix : Nat} (hd : decode M.2.1 pc = .ok (.getstatic ix, 3)) (hw : Cond.fieldLink (kcn.getD M.2.2.2.2 "") ix "java/lang/Throwable" "UNASSIGNED_STACK" "[Ljava/lang/StackTraceElement;" ∈ lw_tbl) (hp : pc + 3 = pc2) (kk : ∀ r : Nat, r = 0 ∨ r = 53 → V X d M pc2 lv (vR r :: st) S Q) : V X d M pc lv st S Q := by
  subst hp
  by_cases hz : va_Z "java/lang/Throwable" "UNASSIGNED_STACK" "[Ljava/lang/StackTraceElement;" .null (fre X) (x0 X) (x0 X).heap
  · refine V_p (fun G F hH hl w => ?_) (kk 0 (Or.inl rfl))
    obtain ⟨cf, kf, fi, f, a, cell, h1, h2, h3, h4, h5, h6, h7, h8⟩ := (va_Z.moved F.2.2.2.2.2.2.1.alike hz).kept hH.old
    exact W.gets (v := .null) F.1 F.2.1 F.2.2.2.2.1 (word_at F.2.2.2.2.2.2.1 (Or.inl rfl) (G.1 _ hw)) h1 h2 h3 h4 h5 (fun e => by rw [e] at h6; cases h6) h7 rfl hd w
  · refine V_p (fun G F hH hl w => ?_) (kk 53 (Or.inr rfl))
    have hz2 := G.2.2.2.2.2.2.2.2.2.1.resolve_left hz
    obtain ⟨cf, kf, fi, f, a, cell, h1, h2, h3, h4, h5, h6, h7, h8⟩ := (va_Z.moved F.2.2.2.2.2.2.1.alike hz2).kept hH.old
    exact W.gets (v := .ref (xs X 53)) F.1 F.2.1 F.2.2.2.2.1 (word_at F.2.2.2.2.2.2.1 (Or.inl rfl) (G.1 _ hw)) h1 h2 h3 h4 h5 (fun e => by rw [e] at h6; cases h6) h7 rfl hd w
theorem V_supp {ix : Nat} (hd : decode M.2.1 pc = .ok (.getstatic ix, 3)) (hw : Cond.fieldLink (kcn.getD M.2.2.2.2 "") ix "java/lang/Throwable" "SUPPRESSED_SENTINEL" "Ljava/util/List;" ∈ lw_tbl) (hp : pc + 3 = pc2) (kk : ∀ r : Nat, r = 0 ∨ r = 54 → V X d M pc2 lv (vR r :: st) S Q) : V X d M pc lv st S Q := by
  subst hp
  by_cases hz : va_Z "java/lang/Throwable" "SUPPRESSED_SENTINEL" "Ljava/util/List;" .null (fre X) (x0 X) (x0 X).heap
  · refine V_p (fun G F hH hl w => ?_) (kk 0 (Or.inl rfl))
    obtain ⟨cf, kf, fi, f, a, cell, h1, h2, h3, h4, h5, h6, h7, h8⟩ := (va_Z.moved F.2.2.2.2.2.2.1.alike hz).kept hH.old
    exact W.gets (v := .null) F.1 F.2.1 F.2.2.2.2.1 (word_at F.2.2.2.2.2.2.1 (Or.inl rfl) (G.1 _ hw)) h1 h2 h3 h4 h5 (fun e => by rw [e] at h6; cases h6) h7 rfl hd w
  · refine V_p (fun G F hH hl w => ?_) (kk 54 (Or.inr rfl))
    have hz2 := G.2.2.2.2.2.2.2.2.2.2.1.resolve_left hz
    obtain ⟨cf, kf, fi, f, a, cell, h1, h2, h3, h4, h5, h6, h7, h8⟩ := (va_Z.moved F.2.2.2.2.2.2.1.alike hz2).kept hH.old
    exact W.gets (v := .ref (xs X 54)) F.1 F.2.1 F.2.2.2.2.1 (word_at F.2.2.2.2.2.2.1 (Or.inl rfl) (G.1 _ hw)) h1 h2 h3 h4 h5 (fun e => by rw [e] at h6; cases h6) h7 rfl hd w
/-- a call on a text -/
theorem V_callT {d' ix r n : Nat} {M' : MI} {as stk : List AV} {Qc : Res → Mem → Prop} (hr : 2 ≤ r) (hr2 : r < 27) (hcn : M'.1.cls = "java/lang/String") (hd : decode M.2.1 pc = .ok (.invokevirtual ix, 3)) (hw : Cond.methodLink (kcn.getD M.2.2.2.2 "") ix M'.1 ∈ lw_tbl) (hm : MV M' n) (hn : as.length = n)
    (hstk : stk = as.reverse ++ vR r :: st) (hs8 : (st.map cat).sum ≤ 8) (hp : pc + 3 = pc2) (hdd : d' + 1 ≤ d) (hc : C X d' M' (vR r :: as) S Qc) (k : ∀ r S1, Qc r S1 → ∃ v, r = .inl v ∧ V X d M pc2 lv (v.toList ++ st) S1 Q) : V X d M pc lv stk S Q := by
  subst hstk
  refine V_behind hp hdd (fun {S1 v0 p e s m args below meth c H locs R cells slots ls} G F hH hl hf1 hf2 hf3 hf4 hM => ?_) hc k
  have hW := F.2.2.2.2.2.2.1
  have g : ∀ {w : Cond} {a' : Array Value} {U : State}, (x0 X).WarmedH U.vm → (w.onTables && w.keeps) = true → w ∈ lw_tbl → w.before a' U = true := fun hU hg hw => word_at hU (Or.inl hg) (G.1 _ hw)
  obtain ⟨⟨m1, m2, m3, m4, m5⟩, m6, m7⟩ := hm
  obtain ⟨cell, q1, q2, q3, -⟩ := (va_O.moved hW.alike (G.2.2.2.2.2.2.2.2.1.1 (r - 2) (by omega)).1).kept hH.old
  have hcell : ∃ cell : Cell, H[ad X r]? = some cell ∧ cell.vm.isStatics = false ∧ s.vm.findClass M'.1.cls = some cell.cls := ⟨cell, by rw [ad_lt (by omega), show r = r - 2 + 2 by omega]; exact q1, q2, by rw [hcn]; exact q3⟩
  have e1 : stc X (vR r :: as) = .ref (ad X r) :: stc X as := by show cv X (vR r) :: stc X as = _; rw [cvR (by omega)]
  rw [e1]
  exact va_runV (As := stc X as) (rest := stc X st) (b := ad X r) (Ts := []) (C := M'.1.cls) (own := kcn.getD M.2.2.2.2 "") (index := ix) (bytes := M'.2.1) (maxL := M'.2.2.1) (ret := M'.2.2.2.1) (n := n) (g := F0 m pc ls (stc X (as.reverse ++ vR r :: st))) ⟨F.1, F.2.1, F.2.2.1, F.2.2.2.2.1, fun w h => by cases h⟩ hM
    ⟨⟨rfl, rfl, hf1, by show 8 + (M'.2.2.1 + 11) + 41 * d' ≤ R.locals; omega, fun w hw a' U hU => by rw [List.mem_singleton.mp hw]; exact g (hW.trans hU) rfl m1, List.mem_singleton.mpr rfl, g hW rfl m1, g hW rfl m2, m3, fun sig h => by rw [h] at m4; exact (Option.some.inj m4).symm, g hW rfl hw⟩, g hW rfl m6, g hW rfl m7⟩
    ⟨Pr_blind, hcell, fun U hU hW2 => ⟨by rw [e1], by rw [hU]; exact hH, hW.trans hW2⟩⟩ rfl (by show (stc X as).length = n; unfold stc; rw [List.length_map]; exact hn) hl.1 (by show stc X _ = _; rw [stc_app, stc_rev]; show _ ++ cv X (vR r) :: stc X st = _; rw [cvR (by omega)]) (lv_room (by rw [stc_cat]; exact hs8)) hd ⟨hf3, hf4⟩
end NEST

