/-! compile: a callee's Stop is caught -/
section CATCH
variable {X : Cx} {d : Nat} {M : MI} {pc pc2 : Nat} {lv : Lv} {st : List AV} {S : Mem} {Q : Res → Mem → Prop}
/-- the search for a handler ends at the row x, whose catch type may not be resolved yet: it is then -/
theorem cold_row {e : Env} {s : State} {f : JFrame} {a : Addr} {meth : Method} {code : Code} {x : ExceptionTableEntry} {cT : ClassId} {cell : Cell} (hm : s.vm.method? f.method = some meth) (hc : meth.code = some code) (ht : code.exceptionTable.toList = [x]) (hx : covers x f.pc = true) (h0 : x.catchType ≠ 0)
    (hl : s.vm.ClassLinks e.platform f.method.cls x.catchType cT) (hcell : s.heap[a]? = some cell) (hobj : ∀ k, cell.vm ≠ .statics k) (hk : ∃ k, s.vm.classes[cell.cls]? = some k) (hk2 : ∃ k, s.vm.classes[cT]? = some k) (hfit : s.vm.assignable cell.cls cT = true) (Q : Handler → Pre) (E : CtlPost) (d : Bool) (acts : List Action) :
    wp (findHandler f a) Q E e d acts s ↔ Q (.found x.handlerPc) d acts (s.setVm (s.vm.noted f.method.cls x.catchType (.cls cT))) := by
  rw [W.findHandler_eq hm hc, ht]
  obtain ⟨r1, r2⟩ := (resolveClass_links e.toSetting hl).op (op := VmOp.resolveClass f.method.cls x.catchType) rfl
  have al : s.vm.Alike (s.vm.noted f.method.cls x.catchType (.cls cT)) := (Vm.Alike.refl s.vm).noted _ _ _
  obtain ⟨k1, hk1⟩ := hk
  obtain ⟨k2, hk2⟩ := hk2
  obtain ⟨k1', hk1', -⟩ := al.2.2 _ _ hk1
  obtain ⟨k2', hk2', -⟩ := al.2.2 _ _ hk2
  have fit : (s.vm.noted f.method.cls x.catchType (.cls cT)).assignable cell.cls cT = true := by rw [al.assignable]; exact hfit
  simp only [covers] at hx
  simp [findHandler.go, hx, h0, r1, r2, hcell, hobj, hk1', hk2', fit, VmOp.dirties, VmOp.acts]
theorem cold_step {e : Env} {s : State} {a : Addr} {f : JFrame} {r : List Frame} {pc : Nat} {vm' : Vm} (hf : ∀ (Q : Handler → Pre) (E : CtlPost) (d : Bool) (acts : List Action), wp (findHandler f a) Q E e d acts s ↔ Q (.found pc) d acts (s.setVm vm')) :
    (stepThrowing e s a (.java f :: r)).Is ((s.setVm vm').setFrames (.java { f with pc := pc, stack := [.ref a] } :: r)) [] := by
  simp only [stepThrowing, searchFrame, vmDo]
  generalize hr : Sem.go _ e false [] s = res
  obtain ⟨as, rfl, ha⟩ := Sem.eq_ok_of hr (a := Handler.found pc) (s' := s.setVm vm') (acts' := []) (by simp [hf _ _ _ _])
  exact ⟨rfl, ha⟩
theorem cold_catch {p : Program} {l : Launch} {e : Env} {R : Room} {s : State} {m : MethodId} {args : Array Value} {below : List Frame} {meth : Method} {c : Code} {T : State} {locs : List Loc} {cells slots : Nat} (Y : Stand p l e R s m args below meth c T locs cells slots) (a : Addr) {g : JFrame} (hg : g.method = m) {own name : String} (hown : s.vm.findClass own = some m.cls)
    (x : ExceptionTableEntry) (ht : c.exceptionTable.toList = [x]) (hx : covers x g.pc = true) (h0 : x.catchType ≠ 0) (hlink : (Cond.classLink own x.catchType name).before args s = true) {cT : ClassId} {cell : Cell} (hcT : s.vm.findClass name = some cT) (hcell : T.heap[a]? = some cell) (hobj : cell.vm.isStatics = false) (hfit : s.vm.assignable cell.cls cT = true) :
    ∃ vm', Stand p l e R s m args below meth c (T.setVm vm') locs cells slots ∧ ∀ target, Steps p.tables e below ((T.setVm vm').setTop { g with pc := x.handlerPc, stack := [.ref a] }) target → Steps p.tables e below ((T.setTop g).pushFrame (.throwing a)) target := by
  have hpl : e.platform.magicAccessors = ({} : Platform).magicAccessors := by rw [Y.admits.platform]
  obtain ⟨c', hc', hcl⟩ := Cond.classLink_spec hown hlink e.platform hpl
  cases hcT.symm.trans hc'
  obtain ⟨dk, _, _, kt, hd, _, _, _, _, hkt, _, hopen⟩ := hcl.here
  have hcl0 := Y.warmed.classLinks hcl
  have hW' : s.WarmedH (T.vm.noted m.cls x.catchType (.cls cT)) := Y.warmed.noted hd hopen (State.rightAt_cls hcl)
  have hal := Y.warmed.alike
  obtain ⟨kt', hkt', -⟩ := hal.2.2 _ _ hkt
  have hfit' : T.vm.assignable cell.cls cT = true := by rw [hal.assignable]; exact hfit
  refine ⟨_, Y.noted hW', fun target hrest => ?_⟩
  subst hg
  obtain ⟨hgo, hw⟩ := Y.here.throwing a
  refine Steps.head hgo hw ?_
  have hf := fun Q E d acts => cold_row (Q := Q) (E := E) (d := d) (acts := acts) (s := (T.setTop g).pushFrame (.throwing a)) (f := g) (a := a) (meth := meth) (code := c) (x := x) (cT := cT) (cell := cell) (e := e) Y.method' Y.code ht hx h0 hcl0 hcell (VmData.ne_statics_of hobj) (Vm.classAt_of_assignable hfit' ⟨kt', hkt'⟩) ⟨kt', hkt'⟩ hfit'
  rw [stepThread_throwing (frames_entered Y.here.top _), (cold_step (s := (T.setTop g).pushFrame (.throwing a)) hf).1]
  obtain ⟨g0, hg0⟩ := Option.isSome_iff_exists.mp Y.here.top
  obtain ⟨r, hr⟩ := State.topJava?_eq_some.mp hg0
  have hr' : (T.setVm (T.vm.noted g.method.cls x.catchType (.cls cT))).frames = .java g0 :: r := hr
  have hsw : ∀ (u : State) (vm' : Vm) (F G : List Frame), ((u.setFrames F).setVm vm').setFrames G = (u.setVm vm').setFrames G := fun u vm' F G => by
    have h1 : (u.setFrames F).setVm vm' = (u.setVm vm').setFrames F := rfl
    rw [h1, State.setFrames_setFrames]
  rw [State.setTop_of_frames _ hr'] at hrest
  rw [hr, List.tail_cons, State.pushFrame, hsw, State.setTop_of_frames _ hr, hsw]
  exact hrest
theorem Ev_caught {d' a0 : Nat} {M' : MI} {as stk : List AV} {S1 S2 : Mem} {r2 : Res} (h15 : M.2.2.2.2 = 15) (hpc : covers ⟨95, 120, 123, 7⟩ pc = true) (ha : isK S1 a0 12) (hdd : d' + 1 ≤ d) (hc : CR X d' M' as S (.inr a0) S1)
    (h : Good X → ∀ (p : Program) (e : Env) (s : State) (m : MethodId) (args : Array Value) (below : List Frame) (meth : Method) (c : Code) (H : Heap) (locs : List Loc) (R : Room) (cells slots : Nat) (ls : Array Slot), Fix X M p s m meth c → HR X S H → lv_has ls M.2.2.1 (lvc X lv) → ∀ T : State, T.heap = H → Stand p (xl X) e R s m args below meth c T locs cells slots →
      ∃ (vm₁ : Vm) (mk : MethodId), Stand p (xl X) e R s m args below meth c (T.setVm vm₁) locs cells slots ∧ s.WarmedH vm₁ ∧ (T.setVm vm₁).methodNamed? M'.1 = some mk ∧ (∀ target, (∀ acts, Steps p.tables e below (doInvoke e ((T.setVm vm₁).setTop (F0 m pc ls (stc X st))) acts mk (stc X as).toArray).1 target) → Steps p.tables e below (T.setTop (F0 m pc ls (stc X stk))) target))
    (hmo : codeW M' ∈ lw_tbl ∧ Cond.initialized M'.1.cls ∈ lw_tbl ∧ M'.2.2.1 ≤ 22) (hs8 : (st.map cat).sum ≤ 8) {ig : Instr} {len : Nat} (hd : decode M.2.1 pc = .ok (ig, len)) (hv : Ev X d M 123 lv [vR a0] S1 r2 S2) : Ev X d M pc lv stk S r2 S2 := by
  obtain ⟨t1, z1, hM⟩ := hc
  obtain ⟨t2, z2, hv⟩ := hv
  refine ⟨Nat.le_trans t1 t2, Nat.le_trans z1 z2, fun G p e s m args below meth c H locs t0 z0 ls F hH hL ht hz hl => ?_⟩
  intro T hT Y
  have hWs := F.2.2.2.2.2.2.1
  obtain ⟨vm₁, mk, Y1, hW1, hn, hgo⟩ := h G p e s m args below meth c H locs _ _ _ ls F hH hl T hT Y
  have g : ∀ {w : Cond} {a' : Array Value} {U : State}, (x0 X).WarmedH U.vm → (w.onTables && w.keeps) = true → w ∈ lw_tbl → w.before a' U = true := fun hU hg hw => word_at hU (Or.inl hg) (G.1 _ hw)
  have hW2 : (x0 X).WarmedH (T.setVm vm₁).vm := hWs.trans hW1
  obtain ⟨T', L, Y2, hL2, hH2, hW3, hst⟩ := thrown_by (g := F0 m pc ls (stc X st)) (aa := (stc X as).toArray) (hM G) Y1 rfl (by rw [F.2.2.1]; exact hl.1) (by rw [F.2.1]; exact hd) (lv_room (by rw [stc_cat]; exact hs8)) hn (g hW2 rfl hmo.1) (g hW2 rfl hmo.2.1) (by show d' + 1 ≤ d; exact hdd) (by show 8 + (M'.2.2.1 + 11) + 41 * d' ≤ 41 * d; have := hmo.2.2; omega) (by show tp S - t0 + (tp S1 - tp S) ≤ tp S2 - t0; omega) (by show sz S - z0 + (sz S1 - sz S) ≤ sz S2 - z0; omega) ⟨rfl, by show HR X S T.heap; rw [hT]; exact hH, hW2⟩
  have hKs := G.2.1.moved hWs.alike
  have h64 := hH2.geo ha (by decide)
  have hob := (hH2.2.2.2.1 a0 h64 ha.1).2
  unfold atc at hob
  rw [ha.2, if_pos (by decide)] at hob
  obtain ⟨cell, g1, g2, g3, -⟩ := hob
  have hfc : s.vm.findClass RX12 = some (xC X 12) := (hKs.1 12 _ rfl).2.1
  obtain ⟨kC, hkC, -⟩ := Vm.findClass_spec hfc
  obtain ⟨vm2, Y3, hgo2⟩ := cold_catch Y2 (ad X a0) (g := F0 m pc ls (stc X st)) rfl (own := kcn.getD M.2.2.2.2 "") (name := RX12) F.2.2.2.2.1 ⟨95, 120, 123, 7⟩ (by rw [F.2.2.2.2.2.2.2.2.2 h15]; rfl) hpc (by decide) (by rw [h15]; exact g hWs rfl cl_13_7) hfc g1 (by rw [g3]; rfl) (by rw [g2]; exact va_asg _ _)
  have K := hv G p e s m args below meth c T'.heap (locs ++ L) t0 z0 ls F hH2 (fun q hq => (List.mem_append.mp hq).elim (hL q) (hL2 q)) (by omega) (by omega) hl
  have ec : tp S1 - t0 = tp S - t0 + (tp S1 - tp S) := by omega
  have es : sz S1 - z0 = sz S - z0 + (sz S1 - sz S) := by omega
  rw [ec, es] at K
  obtain ⟨t, k1, k2⟩ := K (T'.setVm vm2) rfl Y3
  refine ⟨t, hgo _ (fun acts => ?_), k2⟩
  rw [doInvoke_state]
  refine hst.trans ?_
  refine hgo2 _ ?_
  have e5 : stc X [vR a0] = [.ref (ad X a0)] := by show [cv X (vR a0)] = _; rw [cvR (by omega)]
  rw [e5] at k1
  exact k1
theorem V_caughtV {d' ix a ci n N a0 : Nat} {T : u_T} {M' : MI} {as stk : List AV} {S1 : Mem} (hd : decode M.2.1 pc = .ok (.invokevirtual ix, 3)) (hw : Cond.methodLink (kcn.getD M.2.2.2.2 "") ix M'.1 ∈ lw_tbl) (hm : MV M' n) (hn : as.length = n) (hcl : kcl[ci]? = some (M'.1.cls, T, N)) (hci : ci < 14)
    (hstk : stk = as.reverse ++ vR a :: st) (hs8 : (st.map cat).sum ≤ 8) (h15 : M.2.2.2.2 = 15) (hpc : covers ⟨95, 120, 123, 7⟩ pc = true) (hdd : d' + 1 ≤ d) (ho : isK S a ci) (hc : CR X d' M' (vR a :: as) S (.inr a0) S1) (ha0 : isK S1 a0 12) (q : V X d M 123 lv [vR a0] S1 Q) : V X d M pc lv stk S Q := by
  subst hstk
  obtain ⟨r2, S2, hev, hq⟩ := q
  refine ⟨r2, S2, Ev_caught (st := st) h15 hpc ha0 hdd hc (fun G p e s m args below meth c H locs R cells slots ls F hH hl T hT Y => ?_) ⟨hm.1.1, hm.1.2.1, hm.1.2.2.2.2⟩ hs8 hd hev, hq⟩
  have hW := F.2.2.2.2.2.2.1
  have h32 := hH.geo ho hci
  have g : ∀ {w : Cond} {a' : Array Value} {U : State}, (x0 X).WarmedH U.vm → (w.onTables && w.keeps) = true → w ∈ lw_tbl → w.before a' U = true := fun hU hg hw => word_at hU (Or.inl hg) (G.1 _ hw)
  have hKs := G.2.1.moved hW.alike
  have hob := hH.2.2.2.1 a h32 ho.1
  obtain ⟨⟨m1, m2, m3, m4, m5⟩, m6, m7⟩ := hm
  have hcell : ∃ cell : Cell, H[ad X a]? = some cell ∧ cell.vm.isStatics = false ∧ s.vm.findClass M'.1.cls = some cell.cls := by
    have h1 := hob.2
    unfold atc at h1
    rw [ho.2, if_pos (by omega)] at h1
    obtain ⟨cell, g1, g2, g3, -⟩ := h1
    exact ⟨cell, g1, by rw [g3]; rfl, by rw [g2]; exact (hKs.1 ci _ hcl).2.1⟩
  obtain ⟨cellB, hcB, hobj, hcls⟩ := hcell
  obtain ⟨mk, methM, hnamed, hmethM, hstM, habM⟩ := Cond.instanceMethod_spec (g (a' := args) hW rfl m6)
  obtain ⟨methM', cM, hmethM', -, -, -, -, -, -, hsigM⟩ := Cond.code_spec hnamed (g (a' := args) hW rfl m1)
  cases hmethM.symm.trans hmethM'
  obtain ⟨c2, r2, m2', q1, q2, q3, q4, kP, hkP, hkPi⟩ := Cond.selects_spec (g (a' := args) hW rfl m7)
  cases hcls.symm.trans q1
  cases (State.methodFound?_of_named hnamed m3).symm.trans q2
  cases hnamed.symm.trans q3
  have hselP : selectMethod e.platform s.vm cellB.cls mk = .method mk := by rw [Launch.admits_selectMethod Y.admits]; exact q4
  have hlen : (stc X as).length = methM.sig.parameters.length := by
    rw [hsigM] at m4
    unfold stc
    rw [List.length_map, hn]
    exact (Option.some.inj m4).symm
  obtain ⟨vm₁, X₁, hstep₁⟩ := Y.invokevirtual F.1 F.2.2.2.2.1 (g hW rfl hw) hnamed hmethM hstM hkP hkPi m3 (a := ad X a) (cell := cellB) (by rw [hT]; exact hcB)
    (fun z h => by rw [h] at hobj; cases hobj) hselP hmethM habM hkP hkPi (g := F0 m pc ls (stc X (as.reverse ++ vR a :: st))) rfl (argsL := stc X as) (rest := stc X st) hlen (by show stc X _ = _; rw [stc_app, stc_rev]; show _ ++ cv X (vR a) :: stc X st = _; rw [cvR (by omega)]) (by rw [F.2.1]; exact hd)
  have e1 : stc X (vR a :: as) = .ref (ad X a) :: stc X as := by show cv X (vR a) :: stc X as = _; rw [cvR (by omega)]
  rw [e1]
  exact ⟨vm₁, mk, X₁, X₁.warmed, X₁.named hnamed, hstep₁⟩
/-- a call in compile that comes back, or whose Stop is caught at 123 -/
theorem V_callVC {d' ix a ci n N : Nat} {T : u_T} {M' : MI} {as stk : List AV} {Qc : Res → Mem → Prop} (hd : decode M.2.1 pc = .ok (.invokevirtual ix, 3)) (hw : Cond.methodLink (kcn.getD M.2.2.2.2 "") ix M'.1 ∈ lw_tbl) (hm : MV M' n) (hn : as.length = n) (hcl : kcl[ci]? = some (M'.1.cls, T, N)) (hci : ci < 14)
    (hstk : stk = as.reverse ++ vR a :: st) (hs8 : (st.map cat).sum ≤ 8) (hp : pc + 3 = pc2) (h15 : M.2.2.2.2 = 15) (hpc : covers ⟨95, 120, 123, 7⟩ pc = true) (hdd : d' + 1 ≤ d) (ho : isK S a ci) (hc : C X d' M' (vR a :: as) S Qc) (k : ∀ r S1, Qc r S1 → (∃ v, r = .inl v ∧ V X d M pc2 lv (v.toList ++ st) S1 Q) ∨ ∃ x, r = .inr x ∧ isK S1 x 12 ∧ V X d M 123 lv [vR x] S1 Q) : V X d M pc lv stk S Q := by
  obtain ⟨r, S1, hcr, hq⟩ := hc
  rcases k r S1 hq with ⟨v, rfl, hv⟩ | ⟨x, rfl, hx, hx2⟩
  · exact V_callV hd hw hm hn hcl hci hstk hs8 hp hdd ho (Qc := fun r' S' => r' = .inl v ∧ S' = S1) ⟨_, _, hcr, rfl, rfl⟩ (fun r' S' h => ⟨v, h.1, by rw [h.2]; exact hv⟩)
  · exact V_caughtV hd hw hm hn hcl hci hstk hs8 h15 hpc hdd ho hcr hx hx2
/-- compile's own word: its code with the handler -/
def codeWc : Cond := Cond.codeWith yX13_compile cX13_compile 4 (some .int) [(95, 120, 123, 7)]
def CRc (X : Cx) (d : Nat) (as : List AV) (S : Mem) (r : Res) (S' : Mem) : Prop :=
  tp S ≤ tp S' ∧ sz S ≤ sz S' ∧ (Good X → MetX (xl X) yX13_compile [codeWc] (rmd d (tp S' - tp S) (sz S' - sz S)) (Pr X as S) (Qr X r S') (tp S' - tp S) (sz S' - sz S) (fre X))
def Cc (X : Cx) (d : Nat) (as : List AV) (S : Mem) (Q : Res → Mem → Prop) : Prop := ∃ (r : Res) (S' : Mem), CRc X d as S r S' ∧ Q r S'
/-- compile by its body -/
theorem Cc_of_V {as : List AV} (hw : (as.map cat).sum ≤ 4) (h : V X d MX13_compile 0 (lvE 0 as) [] S Q) : Cc X d as S Q := by
  obtain ⟨r, S', ⟨h1, h2, h3⟩, q⟩ := h
  refine ⟨r, S', ⟨h1, h2, fun G => ?_⟩, q⟩
  refine MetFree.of_bodyS (code := cX13_compile) (maxLocals := 4) (ret := some .int) rfl ?_ ?_
  · intro args s m h hn
    obtain ⟨m', meth, c, hn', h1, h2, h3, h4, h5, h6, h7, -⟩ := Cond.codeWith_spec (atoms_spec (ws := [codeWc]) h _ (List.mem_singleton.mpr rfl))
    cases hn.symm.trans hn'
    exact ⟨meth, c, h1, h2, h3, h4, h6, h7⟩
  · intro p e s m args below meth c s₁ B hml hv _
    obtain ⟨rfl, hH, hW⟩ := hv
    have hh0 : s₁.heap = s.heap := by rw [B.state]; rfl
    have hl := lv_entry (stc X as) (n := 4) (by
      have e1 : ∀ as : List AV, (lg_sl (stc X as)).length = (as.map cat).sum := by
        intro as
        induction as with
        | nil => rfl
        | cons v r ih =>
          have e2 : lg_sl (stc X (v :: r)) = (if (cv X v).category = 2 then [Slot.val (cv X v), .second] else [.val (cv X v)]) ++ lg_sl (stc X r) := rfl
          rw [e2, List.length_append, ih, List.map_cons, List.sum_cons, cat_cv]
          have e3 : cat v = 1 ∨ cat v = 2 := by rw [← cat_cv X]; exact lv_cat _
          rcases e3 with e3 | e3 <;> rw [e3] <;> simp
      rw [e1]; exact hw)
    have hown : s.vm.findClass yX13_compile.cls = some m.cls := findClass_of_methodNamed B.named
    obtain ⟨m', meth', c', hn', k1, k2, -, -, k5, -, -, -⟩ := Cond.codeWith_spec (atoms_spec (ws := [codeWc]) B.pre _ (List.mem_singleton.mpr rfl))
    cases B.named.symm.trans hn'
    cases B.method.symm.trans k1
    cases (Stand.of_body B).code.symm.trans k2
    have htab : c.exceptionTable.toList = tableOf [(95, 120, 123, 7)] := by rw [← k5, table_eq]
    have hent : entryFrame m (stc X as).toArray 4 = F0 m 0 ((lg_sl (stc X as) ++ List.replicate (4 - (lg_sl (stc X as)).length) Slot.unset).toArray) [] := by rw [lg_entry_eq]
    have K := h3 G p e s m (stc X as).toArray below meth c s.heap [] (tp S) (sz S) _ ⟨B.exec, B.bytes, hml, B.returns, hown, B.notSynchronized, hW, (name_of_methodNamed B.named B.method).1, fun e15 => absurd rfl e15, fun _ => htab⟩ hH (by intro q hq; cases hq) (Nat.le_refl _) (Nat.le_refl _) (by rw [lvE_args]; exact hl)
    rw [Nat.sub_self, Nat.sub_self] at K
    have K2 : W p (xl X) e (headSpec [codeWc] (rmd d (tp S' - tp S) (sz S' - sz S))).room s m (stc X as).toArray below meth c s.heap [] 0 0 (MQx below (Qr X r S') (stc X as).toArray s (tp S' - tp S) (sz S' - sz S) (fre X)) (entryFrame m (stc X as).toArray 4) := by rw [hent]; exact K
    obtain ⟨t, a1, o, b1, b2, b3⟩ := K2 s₁ hh0 (Stand.of_body B)
    exact ⟨t, o, a1, b1, b2, b3⟩
theorem returned_by {d' : Nat} {v : Option AV} {as : List AV} {S1 : Mem} {mc ms : Nat} {p : Program} {e : Env} {R : Room} {s : State} {m : MethodId} {sargs : Array Value} {below : List Frame} {meth : Method} {c : Code} {U : State} {Ls : List Loc} {c0 s0 : Nat} {g : JFrame} {ig : Instr} {len : Nat} {mk : MethodId} {aa : Array Value}
    (hM : MetX (xl X) yX13_compile [codeWc] (rmd d' mc ms) (Pr X as S) (Qr X (.inl v) S1) mc ms (fre X)) (Y : Stand p (xl X) e R s m sargs below meth c U Ls c0 s0) (hg : g.method = m) (hsize : g.locals.size = c.maxLocals) (hdg : decode c.code g.pc = .ok (ig, len))
    (hW : 2 * g.monitorRoom + (g.stack.map fun v => v.category).sum ≤ 8) (hn : U.methodNamed? yX13_compile = some mk) (hcode : codeWc.before aa U = true) (hini : (Cond.initialized yX13_compile.cls).before aa U = true) (hf1 : d' + 1 ≤ R.frames) (hf2 : 8 + (4 + 11) + 41 * d' ≤ R.locals) (hf3 : c0 + mc ≤ R.cells) (hf4 : s0 + ms ≤ R.slots) (hP : Pr X as S aa U) :
    ∃ (T' : State) (L : List Loc), Stand p (xl X) e R s m sargs below meth c T' (Ls ++ L) (c0 + mc) (s0 + ms) ∧ (∀ q ∈ L, fre X q.base) ∧ HR X S1 T'.heap ∧ (x0 X).WarmedH T'.vm ∧ Steps p.tables e below (doInvoke e (U.setTop g) [] mk aa).1 (T'.setTop { g with pc := g.pc + len, stack := (v.map (cv X)).toList ++ g.stack }) := by
  obtain ⟨mY', methY, cY, hnY', hmY, hcY, -, hlY, -, -, -, -⟩ := Cond.codeWith_spec hcode
  cases hn.symm.trans hnY'
  obtain ⟨kY, hkY, -⟩ := className_of_methodNamed hn
  have hinitY : kY.init = .initialized := Cond.initialized_spec (findClass_of_methodNamed hn) hkY hini
  have h : At U g.method c below := by rw [hg]; exact Y.here
  have happ : (headSpec [codeWc] (rmd d' mc ms)).appliesLoose yX13_compile e.platform (U.calling g mk aa) = true :=
    Spec.appliesLoose_calling (g := g) h hdg hn hkY hinitY
      (Y.room_calling (g := g) (R' := rmd d' mc ms) hsize hmY hcY hf1 (by rw [hlY]; show _ + (4 + 11) + 41 * d' ≤ R.locals; omega) hf3 hf4) (atoms_intro (ws := [codeWc]) (fun w hw => by rw [List.mem_singleton.mp hw]; exact hcode))
  obtain ⟨mid, hmid⟩ := h.above
  have hfr : (U.setTop g).frames = (.java g :: mid) ++ below := by rw [State.frames_setTop' g h.top, hmid]; rfl
  obtain ⟨o, s₂, hsteps, -, hend, hq⟩ := Steps.callFree hM p Y.admits Y.cas Y.clock (acts := []) hfr happ (Pr_blind _ _ _ _ hP) trivial
  have hq2 : Qr X (.inl v) S1 aa (U.calling g mk aa) o s₂ ∧ ∃ L, FE (U.calling g mk aa) s₂ L mc ms ∧ ∀ q ∈ L, fre X q.base := hq
  obtain ⟨⟨q1, q2, q3⟩, L, ⟨hW₂, e2, r2, r3, r4, r5, r6⟩, hL⟩ := hq2
  rw [State.frames_setTop' g h.top] at hend
  have e3 : s₂ = ({ (U.calling g mk aa).setFrames s₂.frames with heap := s₂.heap, slotsUsed := s₂.slotsUsed } : State).setVm s₂.vm := by
    have : s₂ = ({ s₂ with vm := (U.calling g mk aa).vm } : State).setVm s₂.vm := rfl
    rw [e2] at this
    exact this
  subst q1
  obtain ⟨c₂, i₂, len₂, hc₂, hd₂, hf₂⟩ := hend
  have hW' : U.WarmedH s₂.vm := hW₂
  have hcc : c₂ = c := by
    have h1 : s₂.code? g.method = U.code? g.method := by
      rw [State.code?_eq, State.code?_eq, hW'.alike.method?]
    exact Option.some.inj (hc₂.symm.trans (h1.trans h.code))
  subst hcc
  have hlen : len₂ = len := by rw [hdg] at hd₂; cases hd₂; rfl
  subst hlen
  obtain ⟨g₀, hg0⟩ := Option.isSome_iff_exists.mp h.top
  obtain ⟨r, hr⟩ := State.topJava?_eq_some.mp hg0
  have hs₂ : s₂ = (({ U with heap := s₂.heap, slotsUsed := s₂.slotsUsed } : State).setVm s₂.vm).setTop { g with pc := g.pc + len₂, stack := (v.map (cv X)).toList ++ g.stack } := by
    have hr' : (({ U with heap := s₂.heap, slotsUsed := s₂.slotsUsed } : State).setVm s₂.vm).frames = .java g₀ :: r := hr
    refine e3.trans ?_
    rw [hf₂, State.calling_eq h.top, State.setFrames_setFrames, State.setTop_of_frames _ hr', hr]
    rfl
  have hsame : U.sameButNew ({ U with heap := s₂.heap, slotsUsed := s₂.slotsUsed } : State) L mc ms := by
    refine ⟨?_, r2, r3, r4, r5, r6⟩
    obtain ⟨t, ht, -⟩ := State.frames_cons hr
    show ({ U with heap := s₂.heap, slotsUsed := s₂.slotsUsed } : State) = { U.setFrames U.frames with heap := s₂.heap, slotsUsed := s₂.slotsUsed }
    rw [State.setFrames_self ht]
  subst hg
  refine ⟨({ U with heap := s₂.heap, slotsUsed := s₂.slotsUsed } : State).setVm s₂.vm, L,
    ⟨Y.admits, Y.cas, Y.clock, Y.frames, Y.room, Y.hears, Y.method, Y.code, (Y.here.setHeapUsed s₂.heap s₂.slotsUsed).setVm hW'.alike, Y.tail, State.WarmedH.trans Y.warmed hW', Y.limits, Y.bytes, Y.same.trans (hsame.setVm s.vm)⟩, hL, q2, q3, ?_⟩
  rw [← hs₂]
  exact hsteps
/-- the law's call of compile -/
theorem V_callCc {d' a : Nat} {F : Int32 → Mem → Prop} (hd : decode M.2.1 pc = .ok (.invokevirtual 28, 3)) (hcn : kcn.getD M.2.2.2.2 "" = RL) (hs8 : (st.map cat).sum ≤ 8) (hp : pc + 3 = pc2) (hdd : d' + 1 ≤ d) (ho : isK S a 13) (hc : Cc X d' [vR a] S (RI F)) (k : ∀ x S1, F x S1 → V X d M pc2 lv (vI x :: st) S1 Q) : V X d M pc lv (vR a :: st) S Q := by
  subst hp
  obtain ⟨r, S1, ⟨t1, z1, hM⟩, x, rfl, hF⟩ := hc
  obtain ⟨r2, S2, ⟨t2, z2, hv⟩, hq⟩ := k x S1 hF
  refine ⟨r2, S2, ⟨Nat.le_trans t1 t2, Nat.le_trans z1 z2, fun G p e s m args below meth c H locs t0 z0 ls F hH hL ht hz hl => ?_⟩, hq⟩
  intro T0 hT Y
  have hW := F.2.2.2.2.2.2.1
  have h32 := hH.geo ho (by decide)
  have g : ∀ {w : Cond} {a' : Array Value} {U : State}, (x0 X).WarmedH U.vm → (w.onTables && w.keeps) = true → w ∈ lw_tbl → w.before a' U = true := fun hU hg hw => word_at hU (Or.inl hg) (G.1 _ hw)
  have hKs := G.2.1.moved hW.alike
  have hob := (hH.2.2.2.1 a h32 ho.1).2
  unfold atc at hob
  rw [ho.2, if_pos (by decide)] at hob
  obtain ⟨cellB, hcB, g2, g3, -⟩ := hob
  have hobj : cellB.vm.isStatics = false := by rw [g3]; rfl
  have hcls : s.vm.findClass RX13 = some cellB.cls := by rw [g2]; exact (hKs.1 13 _ rfl).2.1
  have m3 : yX13_compile.cls ≠ "java/lang/invoke/MethodHandle" ∧ yX13_compile.cls ≠ "java/lang/invoke/VarHandle" := by decide +kernel
  obtain ⟨mk, methM, hnamed, hmethM, hstM, habM⟩ := Cond.instanceMethod_spec (g (a' := args) hW rfl in_compile)
  obtain ⟨mk', methM', cM, hnamed', hmethM', -, -, -, -, -, -, hsigM⟩ := Cond.codeWith_spec (g (a' := args) hW rfl cw_compile)
  cases hnamed.symm.trans hnamed'
  cases hmethM.symm.trans hmethM'
  obtain ⟨c2, r2', m2', q1, q2, q3, q4, kP, hkP, hkPi⟩ := Cond.selects_spec (g (a' := args) hW rfl se_compile)
  cases hcls.symm.trans q1
  cases (State.methodFound?_of_named hnamed m3).symm.trans q2
  cases hnamed.symm.trans q3
  have hselP : selectMethod e.platform s.vm cellB.cls mk = .method mk := by rw [Launch.admits_selectMethod Y.admits]; exact q4
  have hlen : (stc X []).length = methM.sig.parameters.length := by
    have m4 : parseMethodDescriptor yX13_compile.desc = some methM.sig := hsigM
    have m5 : (parseMethodDescriptor yX13_compile.desc).map (fun q => q.parameters.length) = some 0 := by decide +kernel
    rw [m4] at m5
    exact (Option.some.inj m5).symm
  obtain ⟨vm₁, Y1, hgo⟩ := Y.invokevirtual F.1 F.2.2.2.2.1 (by rw [hcn]; exact g hW rfl ml_14_28) hnamed hmethM hstM hkP hkPi m3 (a := ad X a) (cell := cellB) (by rw [hT]; exact hcB)
    (fun z h => by rw [h] at hobj; cases hobj) hselP hmethM habM hkP hkPi (g := F0 m pc ls (stc X (vR a :: st))) rfl (argsL := stc X []) (rest := stc X st) hlen (by show cv X (vR a) :: stc X st = _; rw [cvR (by omega)]; rfl) (by rw [F.2.1]; exact hd)
  have hW2 : (x0 X).WarmedH (T0.setVm vm₁).vm := hW.trans Y1.warmed
  have e1 : stc X [vR a] = .ref (ad X a) :: stc X [] := by show [cv X (vR a)] = _; rw [cvR (by omega)]; rfl
  obtain ⟨T', L, Y2, hL2, hH2, hW3, hst⟩ := returned_by (g := F0 m pc ls (stc X st)) (aa := (stc X [vR a]).toArray) (hM G) Y1 rfl (by rw [F.2.2.1]; exact hl.1) (by rw [F.2.1]; exact hd) (lv_room (by rw [stc_cat]; exact hs8)) (Y1.named hnamed) (g hW2 rfl cw_compile) (g hW2 rfl ii_13) (by show d' + 1 ≤ d; exact hdd) (by show 8 + (4 + 11) + 41 * d' ≤ 41 * d; omega) (by show tp S - t0 + (tp S1 - tp S) ≤ tp S2 - t0; omega) (by show sz S - z0 + (sz S1 - sz S) ≤ sz S2 - z0; omega) ⟨rfl, by show HR X S T0.heap; rw [hT]; exact hH, hW2⟩
  have K := hv G p e s m args below meth c T'.heap (locs ++ L) t0 z0 ls F hH2 (fun q hq => (List.mem_append.mp hq).elim (hL q) (hL2 q)) (by omega) (by omega) hl
  have ec : tp S1 - t0 = tp S - t0 + (tp S1 - tp S) := by omega
  have es : sz S1 - z0 = sz S - z0 + (sz S1 - sz S) := by omega
  rw [ec, es] at K
  obtain ⟨t, k1, k2⟩ := K T' rfl Y2
  refine ⟨t, hgo _ (fun acts => ?_), k2⟩
  rw [e1] at hst
  rw [doInvoke_state]
  exact hst.trans k1
end CATCH

