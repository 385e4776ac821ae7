/-- what the tables say of a method that is called: its code, its class made ready -/
def MO (M : MI) (n : Nat) : Prop := codeW M ∈ lw_tbl ∧ Cond.initialized M.1.cls ∈ lw_tbl ∧ (M.1.cls ≠ "java/lang/invoke/MethodHandle" ∧ M.1.cls ≠ "java/lang/invoke/VarHandle") ∧ (parseMethodDescriptor M.1.desc).map (fun d => d.parameters.length) = some n ∧ M.2.2.1 ≤ 22
def MV (M : MI) (n : Nat) : Prop := MO M n ∧ Cond.instanceMethod M.1 ∈ lw_tbl ∧ Cond.selects M.1.cls M.1 M.1 ∈ lw_tbl
def MS (M : MI) (n : Nat) : Prop := MO M n ∧ Cond.static M.1 ∈ lw_tbl
def MN (M : MI) (n : Nat) : Prop := MO M n ∧ Cond.instanceMethod M.1 ∈ lw_tbl ∧ M.1.name = "<init>"
theorem stc_app {X : Cx} (a b : List AV) : stc X (a ++ b) = stc X a ++ stc X b := List.map_append
theorem stc_rev {X : Cx} (a : List AV) : stc X a.reverse = (stc X a).reverse := List.map_reverse
theorem stc_cat {X : Cx} (a : List AV) : (stc X a).map (fun v => v.category) = a.map cat := by
  unfold stc
  rw [List.map_map]
  congr 1
  funext v
  exact cat_cv X v
theorem Pr_blind {X : Cx} {as : List AV} {S : Mem} : FrameBlind (Pr X as S) := fun _ _ _ _ h => ⟨h.1, h.2.1, h.2.2⟩
section CALLS
variable {X : Cx} {d : Nat} {M : MI} {pc : Nat} {lv : Lv} {st : List AV} {S : Mem} {Q : Res → Mem → Prop}
/-- behind a run of a callee -/
theorem W_run {S1 : Mem} {v0 : Option AV} {p : Program} {e : Env} {s : State} {m : MethodId} {args : Array Value} {below : List Frame} {meth : Method} {c : Code} {H : Heap} {locs : List Loc} {R : Room} {cells slots : Nat} {Qf : State → Prop} {ls : Array Slot} {stk : List Value} {a1 : Array Value}
    (hr : va_Run p (xl X) e R s m args below meth c H locs cells slots (tp S1 - tp S) (sz S1 - sz S) (F0 m pc ls stk) (stc X st) (Qr X (.inl v0) S1 a1) (fre X))
    (k : ∀ (H1 : Heap) (L : List Loc), HR X S1 H1 → (∀ q ∈ L, xB X ≤ q.base) → W p (xl X) e R s m args below meth c H1 (locs ++ L) (cells + (tp S1 - tp S)) (slots + (sz S1 - sz S)) Qf (F0 m (pc + 3) ls (stc X (v0.toList ++ st)))) :
    W p (xl X) e R s m args below meth c H locs cells slots Qf (F0 m pc ls stk) := by
  intro T hT Y
  obtain ⟨v, st0, t, T', L, h0, Y', hL, e1, e2, ⟨q1, q2, q3⟩, hgo⟩ := hr T hT Y
  have ev : v = v0.map (cv X) := by injection q1
  obtain ⟨t2, a1, b1⟩ := k T'.heap L (by rw [e1]; exact q2) hL T' rfl Y'
  refine ⟨t2, hgo t2 ?_, b1⟩
  have e3 : stc X (v0.toList ++ st) = v.toList ++ stc X st := by
    rw [stc_app, ev]
    cases v0 <;> rfl
  rw [e3] at a1
  exact a1
theorem V_behind {d' pc2 : Nat} {M' : MI} {as stk : List AV} {Qc : Res → Mem → Prop} (hp : pc + 3 = pc2) (hdd : d' + 1 ≤ d)
    (h : ∀ {S1 : Mem} {v0 : Option AV} {p : Program} {e : Env} {s : State} {m : MethodId} {args : Array Value} {below : List Frame} {meth : Method} {c : Code} {H : Heap} {locs : List Loc} {R : Room} {cells slots : Nat} {ls : Array Slot}, Good X → Fix X M p s m meth c → HR X S H → lv_has ls M.2.2.1 (lvc X lv) → d' + 1 ≤ R.frames → 41 * (d' + 1) ≤ R.locals → cells + (tp S1 - tp S) ≤ R.cells → slots + (sz S1 - sz S) ≤ R.slots →
      Met (xl X) M'.1 [codeW M'] (rmd d' (tp S1 - tp S) (sz S1 - sz S)) (Pr X as S) (Qr X (.inl v0) S1) (tp S1 - tp S) (sz S1 - sz S) (fre X) →
      va_Run p (xl X) e R s m args below meth c H locs cells slots (tp S1 - tp S) (sz S1 - sz S) (F0 m pc ls (stc X stk)) (stc X st) (Qr X (.inl v0) S1 (stc X as).toArray) (fre X))
    (hc : C X d' M' as S Qc) (k : ∀ r S1, Qc r S1 → ∃ v, r = .inl v ∧ V X d M pc2 lv (v.toList ++ st) S1 Q) : V X d M pc lv stk S Q := by
  subst hp
  obtain ⟨r, S1, ⟨t1, z1, hM⟩, qc⟩ := hc
  obtain ⟨v, rfl, r2, S', ⟨h1, h2, h3⟩, q⟩ := k r S1 qc
  refine ⟨r2, S', ⟨by omega, by omega, fun G p e s m args below meth c H locs t0 z0 ls F hH hL ht hz hl => ?_⟩, q⟩
  refine W_run (h G F hH hl (by show d' + 1 ≤ d; omega) (by show 41 * (d' + 1) ≤ 41 * d; omega) (by show tp S - t0 + (tp S1 - tp S) ≤ tp S' - t0; omega) (by show sz S - z0 + (sz S1 - sz S) ≤ sz S' - z0; omega) (hM G).ret) (fun H1 L hH1 hL1 => ?_)
  have K := h3 G p e s m args below meth c H1 (locs ++ L) t0 z0 ls F hH1 (fun q hq => (List.mem_append.mp hq).elim (hL q) (hL1 q)) (by omega) (by omega) hl
  rw [show tp S1 - t0 = tp S - t0 + (tp S1 - tp S) by omega, show sz S1 - z0 = sz S - z0 + (sz S1 - sz S) by omega] at K
  exact K
theorem V_callV {d' ix pc2 a ci n N : Nat} {T : u_T} {M' : MI} {as stk : List AV} {Qc : Res → Mem → Prop} (hd : decode M.2.1 pc = .ok (.invokevirtual ix, 3)) (hw : Cond.methodLink (kcn.getD M.2.2.2.2 "") ix M'.1 ∈ lw_tbl) (hm : MV M' n) (hn : as.length = n) (hcl : kcl[ci]? = some (M'.1.cls, T, N)) (hci : ci < 14)
    (hstk : stk = as.reverse ++ vR a :: st) (hs8 : (st.map cat).sum ≤ 8) (hp : pc + 3 = pc2) (hdd : d' + 1 ≤ d) (ho : isK S a ci) (hc : C X d' M' (vR a :: as) S Qc) (k : ∀ r S1, Qc r S1 → ∃ v, r = .inl v ∧ V X d M pc2 lv (v.toList ++ st) S1 Q) : V X d M pc lv stk S Q := by
  subst hstk
  refine V_behind hp hdd (fun {S1 v0 p e s m args below meth c H locs R cells slots ls} G F hH hl hf1 hf2 hf3 hf4 hM => ?_) hc k
  have hW := F.2.2.2.2.2.2.1
  have h32 := hH.geo ho hci
  have g : ∀ {w : Cond} {a' : Array Value} {U : State}, (x0 X).WarmedH U.vm → (w.onTables && w.keeps) = true → w ∈ lw_tbl → w.before a' U = true := fun hU hg hw => word_at hU (Or.inl hg) (G.1 _ hw)
  have hKs := G.2.1.moved hW.alike
  have hob := hH.2.2.2.1 a h32 ho.1
  obtain ⟨⟨m1, m2, m3, m4, m5⟩, m6, m7⟩ := hm
  have hcell : ∃ cell : Cell, H[ad X a]? = some cell ∧ cell.vm.isStatics = false ∧ s.vm.findClass M'.1.cls = some cell.cls := by
    have h1 := hob.2
    unfold atc at h1
    rw [ho.2, if_pos (by omega)] at h1
    obtain ⟨cell, g1, g2, g3, -⟩ := h1
    exact ⟨cell, g1, by rw [g3]; rfl, by rw [g2]; exact (hKs.1 ci _ hcl).2.1⟩
  have e1 : stc X (vR a :: as) = .ref (ad X a) :: stc X as := by show cv X (vR a) :: stc X as = _; rw [cvR (by omega)]
  rw [e1]
  exact va_runV (As := stc X as) (rest := stc X st) (b := ad X a) (Ts := []) (C := M'.1.cls) (own := kcn.getD M.2.2.2.2 "") (index := ix) (bytes := M'.2.1) (maxL := M'.2.2.1) (ret := M'.2.2.2.1) (n := n) (g := F0 m pc ls (stc X (as.reverse ++ vR a :: st))) ⟨F.1, F.2.1, F.2.2.1, F.2.2.2.2.1, fun w h => by cases h⟩ hM
    ⟨⟨rfl, rfl, hf1, by show 8 + (M'.2.2.1 + 11) + 41 * d' ≤ R.locals; omega, fun w hw a' U hU => by rw [List.mem_singleton.mp hw]; exact g (hW.trans hU) rfl m1, List.mem_singleton.mpr rfl, g hW rfl m1, g hW rfl m2, m3, fun sig h => by rw [h] at m4; exact (Option.some.inj m4).symm, g hW rfl hw⟩, g hW rfl m6, g hW rfl m7⟩
    ⟨Pr_blind, hcell, fun U hU hW2 => ⟨by rw [e1], by rw [hU]; exact hH, hW.trans hW2⟩⟩ rfl (by show (stc X as).length = n; unfold stc; rw [List.length_map]; exact hn) hl.1 (by show stc X _ = _; rw [stc_app, stc_rev]; show _ ++ cv X (vR a) :: stc X st = _; rw [cvR (by omega)]) (lv_room (by rw [stc_cat]; exact hs8)) hd ⟨hf3, hf4⟩
theorem V_callS {d' ix pc2 n : Nat} {M' : MI} {as stk : List AV} {Qc : Res → Mem → Prop} (hd : decode M.2.1 pc = .ok (.invokestatic ix, 3)) (hw : Cond.methodLink (kcn.getD M.2.2.2.2 "") ix M'.1 ∈ lw_tbl) (hm : MS M' n) (hn : as.length = n)
    (hstk : stk = as.reverse ++ st) (hs8 : (st.map cat).sum ≤ 8) (hp : pc + 3 = pc2) (hdd : d' + 1 ≤ d) (hc : C X d' M' as S Qc) (k : ∀ r S1, Qc r S1 → ∃ v, r = .inl v ∧ V X d M pc2 lv (v.toList ++ st) S1 Q) : V X d M pc lv stk S Q := by
  subst hstk
  refine V_behind hp hdd (fun {S1 v0 p e s m args below meth c H locs R cells slots ls} G F hH hl hf1 hf2 hf3 hf4 hM => ?_) hc k
  have hW := F.2.2.2.2.2.2.1
  have g : ∀ {w : Cond} {a' : Array Value} {U : State}, (x0 X).WarmedH U.vm → (w.onTables && w.keeps) = true → w ∈ lw_tbl → w.before a' U = true := fun hU hg hw => word_at hU (Or.inl hg) (G.1 _ hw)
  obtain ⟨⟨m1, m2, m3, m4, m5⟩, m6⟩ := hm
  exact va_runS (As := stc X as) (rest := stc X st) (Ts := []) (own := kcn.getD M.2.2.2.2 "") (index := ix) (bytes := M'.2.1) (maxL := M'.2.2.1) (ret := M'.2.2.2.1) (n := n) (g := F0 m pc ls (stc X (as.reverse ++ st))) ⟨F.1, F.2.1, F.2.2.1, F.2.2.2.2.1, fun w h => by cases h⟩ hM
    ⟨⟨rfl, rfl, hf1, by show 8 + (M'.2.2.1 + 11) + 41 * d' ≤ R.locals; omega, fun w hw a' U hU => by rw [List.mem_singleton.mp hw]; exact g (hW.trans hU) rfl m1, List.mem_singleton.mpr rfl, g hW rfl m1, g hW rfl m2, m3, fun sig h => by rw [h] at m4; exact (Option.some.inj m4).symm, g hW rfl hw⟩, g hW rfl m6⟩
    ⟨Pr_blind, fun U hU hW2 => ⟨rfl, by rw [hU]; exact hH, hW.trans hW2⟩⟩ rfl (by show (stc X as).length = n; unfold stc; rw [List.length_map]; exact hn) hl.1 (by show stc X _ = _; rw [stc_app, stc_rev]) (lv_room (by rw [stc_cat]; exact hs8)) hd ⟨hf3, hf4⟩
theorem V_callI {d' ix pc2 a n : Nat} {M' : MI} {as stk : List AV} {Qc : Res → Mem → Prop} (hd : decode M.2.1 pc = .ok (.invokespecial ix, 3)) (hw : Cond.methodLink (kcn.getD M.2.2.2.2 "") ix M'.1 ∈ lw_tbl) (hm : MN M' n) (hret : M'.2.2.2.1 = none) (hn : as.length = n)
    (hstk : stk = as.reverse ++ vR a :: st) (hs8 : (st.map cat).sum ≤ 8) (hp : pc + 3 = pc2) (hdd : d' + 1 ≤ d) (ha : a ≠ 0) (hc : C X d' M' (vR a :: as) S Qc) (k : ∀ r S1, Qc r S1 → ∃ v, r = .inl v ∧ V X d M pc2 lv (v.toList ++ st) S1 Q) : V X d M pc lv stk S Q := by
  subst hstk
  refine V_behind hp hdd (fun {S1 v0 p e s m args below meth c H locs R cells slots ls} G F hH hl hf1 hf2 hf3 hf4 hM => ?_) hc k
  have hW := F.2.2.2.2.2.2.1
  have g : ∀ {w : Cond} {a' : Array Value} {U : State}, (x0 X).WarmedH U.vm → (w.onTables && w.keeps) = true → w ∈ lw_tbl → w.before a' U = true := fun hU hg hw => word_at hU (Or.inl hg) (G.1 _ hw)
  obtain ⟨⟨m1, m2, m3, m4, m5⟩, m6, m7⟩ := hm
  have e1 : stc X (vR a :: as) = .ref (ad X a) :: stc X as := by show cv X (vR a) :: stc X as = _; rw [cvR ha]
  have hcw : codeW M' = Cond.code M'.1 M'.2.1 M'.2.2.1 none := by unfold codeW; rw [hret]
  rw [e1]
  exact va_runI (As := stc X as) (rest := stc X st) (b := ad X a) (Ts := []) (own := kcn.getD M.2.2.2.2 "") (index := ix) (bytes := M'.2.1) (maxL := M'.2.2.1) (n := n) (g := F0 m pc ls (stc X (as.reverse ++ vR a :: st))) ⟨F.1, F.2.1, F.2.2.1, F.2.2.2.2.1, fun w h => by cases h⟩ hM
    ⟨⟨rfl, rfl, hf1, by show 8 + (M'.2.2.1 + 11) + 41 * d' ≤ R.locals; omega, fun w hw a' U hU => by rw [List.mem_singleton.mp hw]; exact g (hW.trans hU) rfl m1, by rw [← hcw]; exact List.mem_singleton.mpr rfl, by rw [← hcw]; exact g hW rfl m1, g hW rfl m2, m3, fun sig h => by rw [h] at m4; exact (Option.some.inj m4).symm, g hW rfl hw⟩, m7, g hW rfl m6⟩
    ⟨Pr_blind, fun U hU hW2 => ⟨by rw [e1], by rw [hU]; exact hH, hW.trans hW2⟩⟩ rfl (by show (stc X as).length = n; unfold stc; rw [List.length_map]; exact hn) hl.1 (by show stc X _ = _; rw [stc_app, stc_rev]; show _ ++ cv X (vR a) :: stc X st = _; rw [cvR ha]) (lv_room (by rw [stc_cat]; exact hs8)) hd ⟨hf3, hf4⟩
theorem V_callIN {d' ix pc2 a n : Nat} {host : String} {M' : MI} {as stk : List AV} {Qc : Res → Mem → Prop} (hd : decode M.2.1 pc = .ok (.invokespecial ix, 3)) (hw : Cond.methodLinkNest (kcn.getD M.2.2.2.2 "") ix M'.1 host ∈ lw_tbl) (hm : MN M' n) (hret : M'.2.2.2.1 = none) (hn : as.length = n)
    (hstk : stk = as.reverse ++ vR a :: st) (hs8 : (st.map cat).sum ≤ 8) (hp : pc + 3 = pc2) (hdd : d' + 1 ≤ d) (ha : a ≠ 0) (hc : C X d' M' (vR a :: as) S Qc) (k : ∀ r S1, Qc r S1 → ∃ v, r = .inl v ∧ V X d M pc2 lv (v.toList ++ st) S1 Q) : V X d M pc lv stk S Q := by
  subst hstk
  refine V_behind hp hdd (fun {S1 v0 p e s m args below meth c H locs R cells slots ls} G F hH hl hf1 hf2 hf3 hf4 hM => ?_) hc k
  have hW := F.2.2.2.2.2.2.1
  have g : ∀ {w : Cond} {a' : Array Value} {U : State}, (x0 X).WarmedH U.vm → (w.onTables && w.keeps) = true → w ∈ lw_tbl → w.before a' U = true := fun hU hg hw => word_at hU (Or.inl hg) (G.1 _ hw)
  obtain ⟨⟨m1, m2, m3, m4, m5⟩, m6, m7⟩ := hm
  have e1 : stc X (vR a :: as) = .ref (ad X a) :: stc X as := by show cv X (vR a) :: stc X as = _; rw [cvR ha]
  have hcw : codeW M' = Cond.code M'.1 M'.2.1 M'.2.2.1 none := by unfold codeW; rw [hret]
  have hnw : va_Nw (.methodLinkNest (kcn.getD M.2.2.2.2 "") ix M'.1 host) s := va_Nw.warmM hW (va_Nw.of rfl (G.1 _ hw))
  rw [e1]
  exact va_runIN (As := stc X as) (rest := stc X st) (b := ad X a) (Ts := []) (own := kcn.getD M.2.2.2.2 "") (host := host) (index := ix) (bytes := M'.2.1) (maxL := M'.2.2.1) (n := n) (g := F0 m pc ls (stc X (as.reverse ++ vR a :: st))) ⟨F.1, F.2.1, F.2.2.1, F.2.2.2.2.1, fun w h => by cases h⟩ hM
    ⟨⟨⟨rfl, rfl, hf1, by show 8 + (M'.2.2.1 + 11) + 41 * d' ≤ R.locals; omega, fun w hw a' U hU => by rw [List.mem_singleton.mp hw]; exact g (hW.trans hU) rfl m1, by rw [← hcw]; exact List.mem_singleton.mpr rfl⟩, by rw [← hcw]; exact g hW rfl m1, g hW rfl m2, m3, fun sig h => by rw [h] at m4; exact (Option.some.inj m4).symm, va_Nw.use rfl hnw⟩, m7, g hW rfl m6⟩
    ⟨Pr_blind, fun U hU hW2 => ⟨by rw [e1], by rw [hU]; exact hH, hW.trans hW2⟩⟩ rfl (by show (stc X as).length = n; unfold stc; rw [List.length_map]; exact hn) hl.1 (by show stc X _ = _; rw [stc_app, stc_rev]; show _ ++ cv X (vR a) :: stc X st = _; rw [cvR ha]) (lv_room (by rw [stc_cat]; exact hs8)) hd ⟨hf3, hf4⟩
/-- Object's own constructor -/
theorem V_obj {ix pc2 a : Nat} (hd : decode M.2.1 pc = .ok (.invokespecial ix, 3)) (hw : Cond.methodLink (kcn.getD M.2.2.2.2 "") ix Lib.objectInit ∈ lw_tbl) (hi : Cond.instanceMethod Lib.objectInit ∈ lw_tbl) (hcd : Cond.code Lib.objectInit ⟨#[0xb1]⟩ 1 none ∈ lw_tbl) (hp : pc + 3 = pc2) (hs8 : (st.map cat).sum ≤ 8) (hdd : 1 ≤ d) (ha : a ≠ 0) (k : V X d M pc2 lv st S Q) : V X d M pc lv (vR a :: st) S Q := by
  subst hp
  obtain ⟨r, S', ⟨h1, h2, h3⟩, q⟩ := k
  refine ⟨r, S', ⟨h1, h2, fun G p e s m args below meth c H locs t0 z0 ls F hH hL ht hz hl => ?_⟩, q⟩
  have hW := F.2.2.2.2.2.2.1
  have g : ∀ {w : Cond} {a' : Array Value} {U : State}, (x0 X).WarmedH U.vm → (w.onTables && w.keeps) = true → w ∈ lw_tbl → w.before a' U = true := fun hU hg hw => word_at hU (Or.inl hg) (G.1 _ hw)
  refine W.objInit (a := ad X a) (rest := stc X st) F.1 F.2.1 F.2.2.2.2.1 (g hW rfl hw) (g hW rfl hi) (g hW rfl hcd) rfl (by rw [F.2.2.1]; exact hl.1) (by show cv X (vR a) :: stc X st = _; rw [cvR ha]) hd (by show 1 ≤ d; exact hdd) ?_ (h3 G p e s m args below meth c H locs t0 z0 ls F hH hL ht hz hl)
  have := lv_room (m := m) (pc := pc) (ls := ls) (rest := stc X (vR a :: st)) (st := stc X st) (by rw [stc_cat]; exact hs8)
  show _ ≤ 41 * d
  omega
end CALLS

