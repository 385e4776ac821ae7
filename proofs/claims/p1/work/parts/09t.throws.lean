/-! what is thrown: by an instruction, by a callee -/
section THROWS
variable {X : Cx} {d : Nat} {M : MI} {pc pc2 : Nat} {lv : Lv} {st : List AV} {S : Mem} {Q : Res → Mem → Prop}
theorem Fix.out {p : Program} {s : State} {m : MethodId} {meth : Method} {c : Code} (F : Fix X M p s m meth c) (h15 : M.2.2.2.2 ≠ 15) (n : Nat) : ∀ x ∈ c.exceptionTable.toList, covers x n = false := by
  intro x hx
  have h := F.2.2.2.2.2.2.2.2.1 h15
  have h2 : c.exceptionTable = #[] := Array.isEmpty_iff.mp h
  rw [h2] at hx
  cases hx
theorem V_athrow {a : Nat} (hd : decode M.2.1 pc = .ok (.athrow, 1)) (h15 : M.2.2.2.2 ≠ 15) (ha : a ≠ 0) (q : Q (.inr a) S) : V X d M pc lv (vR a :: st) S Q := by
  refine ⟨.inr a, S, ⟨Nat.le_refl _, Nat.le_refl _, fun G p e s m args below meth c H locs t0 z0 ls F hH hL ht hz hl => ?_⟩, q⟩
  intro T hT Y
  have hlocks := F.2.2.2.2.2.1
  obtain ⟨l1, l2, l3, l4, l5⟩ := Y.athrowLeaves F.1 (g := F0 m pc ls (stc X (vR a :: st))) rfl rfl rfl (F.out h15 _) (a := ad X a) (rest := stc X st) (by show cv X (vR a) :: stc X st = _; rw [cvR ha]) (by rw [F.2.1]; exact hd) hlocks
  exact ⟨_, l1, .threw (ad X a), l2, l3, ⟨rfl, by show HR X S T.heap; rw [hT]; exact hH, F.2.2.2.2.2.2.1.trans l4⟩, locs, ⟨l4, l5⟩, hL⟩
theorem thrown_by {d' a0 : Nat} {M' : MI} {as : List AV} {S1 : Mem} {mc ms : Nat} {p : Program} {e : Env} {R : Room} {s : State} {m : MethodId} {sargs : Array Value} {below : List Frame} {meth : Method} {c : Code} {U : State} {Ls : List Loc} {c0 s0 : Nat} {g : JFrame} {ig : Instr} {len : Nat} {mk : MethodId} {aa : Array Value}
    (hM : MetX (xl X) M'.1 [codeW M'] (rmd d' mc ms) (Pr X as S) (Qr X (.inr a0) S1) mc ms (fre X)) (Y : Stand p (xl X) e R s m sargs below meth c U Ls c0 s0) (hg : g.method = m) (hsize : g.locals.size = c.maxLocals) (hdg : decode c.code g.pc = .ok (ig, len))
    (hW : 2 * g.monitorRoom + (g.stack.map fun v => v.category).sum ≤ 8) (hn : U.methodNamed? M'.1 = some mk) (hcode : (codeW M').before aa U = true) (hini : (Cond.initialized M'.1.cls).before aa U = true) (hf1 : d' + 1 ≤ R.frames) (hf2 : 8 + (M'.2.2.1 + 11) + 41 * d' ≤ R.locals) (hf3 : c0 + mc ≤ R.cells) (hf4 : s0 + ms ≤ R.slots) (hP : Pr X as S aa U) :
    ∃ (T' : State) (L : List Loc), Stand p (xl X) e R s m sargs below meth c T' (Ls ++ L) (c0 + mc) (s0 + ms) ∧ (∀ q ∈ L, fre X q.base) ∧ HR X S1 T'.heap ∧ (x0 X).WarmedH T'.vm ∧ Steps p.tables e below (doInvoke e (U.setTop g) [] mk aa).1 ((T'.setTop g).pushFrame (.throwing (ad X a0))) := by
  obtain ⟨methY, cY, hmY, hcY, -, hlY, -, -, -, -⟩ := Cond.code_spec hn hcode
  obtain ⟨kY, hkY, -⟩ := className_of_methodNamed hn
  have hinitY : kY.init = .initialized := Cond.initialized_spec (findClass_of_methodNamed hn) hkY hini
  have h : At U g.method c below := by rw [hg]; exact Y.here
  have happ : (headSpec [codeW M'] (rmd d' mc ms)).appliesLoose M'.1 e.platform (U.calling g mk aa) = true :=
    Spec.appliesLoose_calling (g := g) h hdg hn hkY hinitY
      (Y.room_calling (g := g) (R' := rmd d' mc ms) hsize hmY hcY hf1 (by rw [hlY]; show _ + (M'.2.2.1 + 11) + 41 * d' ≤ R.locals; omega) hf3 hf4) (atoms_intro (ws := [codeW M']) (fun w hw => by rw [List.mem_singleton.mp hw]; exact hcode))
  obtain ⟨mid, hmid⟩ := h.above
  have hfr : (U.setTop g).frames = (.java g :: mid) ++ below := by rw [State.frames_setTop' g h.top, hmid]; rfl
  obtain ⟨o, s₂, hsteps, -, hend, hq⟩ := Steps.callFree hM p Y.admits Y.cas Y.clock (acts := []) hfr happ (Pr_blind _ _ _ _ hP) trivial
  have hq2 : Qr X (.inr a0) S1 aa (U.calling g mk aa) o s₂ ∧ ∃ L, FE (U.calling g mk aa) s₂ L mc ms ∧ ∀ q ∈ L, fre X q.base := hq
  obtain ⟨⟨q1, q2, q3⟩, L, ⟨hW₂, e2, r2, r3, r4, r5, r6⟩, hL⟩ := hq2
  rw [State.frames_setTop' g h.top] at hend
  have e3 : s₂ = ({ (U.calling g mk aa).setFrames s₂.frames with heap := s₂.heap, slotsUsed := s₂.slotsUsed } : State).setVm s₂.vm := by
    have : s₂ = ({ s₂ with vm := (U.calling g mk aa).vm } : State).setVm s₂.vm := rfl
    rw [e2] at this
    exact this
  subst q1
  have hf₂ : s₂.frames = .throwing (ad X a0) :: .java g :: U.frames.tail := hend
  have hW' : U.WarmedH s₂.vm := hW₂
  obtain ⟨g₀, hg0⟩ := Option.isSome_iff_exists.mp h.top
  obtain ⟨r, hr⟩ := State.topJava?_eq_some.mp hg0
  have hs₂ : s₂ = ((({ U with heap := s₂.heap, slotsUsed := s₂.slotsUsed } : State).setVm s₂.vm).setTop g).pushFrame (.throwing (ad X a0)) := by
    have hr' : (({ U with heap := s₂.heap, slotsUsed := s₂.slotsUsed } : State).setVm s₂.vm).frames = .java g₀ :: r := hr
    refine e3.trans ?_
    rw [hf₂, State.calling_eq h.top, State.setFrames_setFrames, State.pushFrame, State.frames_setTop _ hr', State.setTop_of_frames _ hr', State.setFrames_setFrames, hr]
    rfl
  have hsame : U.sameButNew ({ U with heap := s₂.heap, slotsUsed := s₂.slotsUsed } : State) L mc ms := by
    refine ⟨?_, r2, r3, r4, r5, r6⟩
    obtain ⟨t, ht, -⟩ := State.frames_cons hr
    show ({ U with heap := s₂.heap, slotsUsed := s₂.slotsUsed } : State) = { U.setFrames U.frames with heap := s₂.heap, slotsUsed := s₂.slotsUsed }
    rw [State.setFrames_self ht]
  subst hg
  refine ⟨({ U with heap := s₂.heap, slotsUsed := s₂.slotsUsed } : State).setVm s₂.vm, L,
    ⟨Y.admits, Y.cas, Y.clock, Y.frames, Y.room, Y.hears, Y.method, Y.code, (Y.here.setHeapUsed s₂.heap s₂.slotsUsed).setVm hW'.alike, Y.tail, State.WarmedH.trans Y.warmed hW', Y.limits, Y.bytes, Y.same.trans (hsame.setVm s.vm)⟩, hL, q2, q3, ?_⟩
  rw [← hs₂]
  exact hsteps
/-- behind a callee that throws, where nothing catches -/
theorem Ev_thrown {d' a0 : Nat} {M' : MI} {as stk : List AV} {S1 : Mem} (h15 : M.2.2.2.2 ≠ 15) (hdd : d' + 1 ≤ d) (hc : CR X d' M' as S (.inr a0) S1)
    (h : Good X → ∀ (p : Program) (e : Env) (s : State) (m : MethodId) (args : Array Value) (below : List Frame) (meth : Method) (c : Code) (H : Heap) (locs : List Loc) (R : Room) (cells slots : Nat) (ls : Array Slot), Fix X M p s m meth c → HR X S H → lv_has ls M.2.2.1 (lvc X lv) → ∀ T : State, T.heap = H → Stand p (xl X) e R s m args below meth c T locs cells slots →
      ∃ (vm₁ : Vm) (mk : MethodId), Stand p (xl X) e R s m args below meth c (T.setVm vm₁) locs cells slots ∧ s.WarmedH vm₁ ∧ (T.setVm vm₁).methodNamed? M'.1 = some mk ∧ (∀ target, (∀ acts, Steps p.tables e below (doInvoke e ((T.setVm vm₁).setTop (F0 m pc ls (stc X st))) acts mk (stc X as).toArray).1 target) → Steps p.tables e below (T.setTop (F0 m pc ls (stc X stk))) target))
    (hmo : codeW M' ∈ lw_tbl ∧ Cond.initialized M'.1.cls ∈ lw_tbl ∧ M'.2.2.1 ≤ 22) (hs8 : (st.map cat).sum ≤ 8) {ig : Instr} {len : Nat} (hd : decode M.2.1 pc = .ok (ig, len)) : Ev X d M pc lv stk S (.inr a0) S1 := by
  obtain ⟨t1, z1, hM⟩ := hc
  refine ⟨t1, z1, fun G p e s m args below meth c H locs t0 z0 ls F hH hL ht hz hl => ?_⟩
  intro T hT Y
  have hWs := F.2.2.2.2.2.2.1
  obtain ⟨vm₁, mk, Y1, hW1, hn, hgo⟩ := h G p e s m args below meth c H locs _ _ _ ls F hH hl T hT Y
  have g : ∀ {w : Cond} {a' : Array Value} {U : State}, (x0 X).WarmedH U.vm → (w.onTables && w.keeps) = true → w ∈ lw_tbl → w.before a' U = true := fun hU hg hw => word_at hU (Or.inl hg) (G.1 _ hw)
  have hW2 : (x0 X).WarmedH (T.setVm vm₁).vm := hWs.trans hW1
  obtain ⟨T', L, Y2, hL2, hH2, hW3, hst⟩ := thrown_by (g := F0 m pc ls (stc X st)) (aa := (stc X as).toArray) (hM G) Y1 rfl (by rw [F.2.2.1]; exact hl.1) (by rw [F.2.1]; exact hd) (lv_room (by rw [stc_cat]; exact hs8)) hn (g hW2 rfl hmo.1) (g hW2 rfl hmo.2.1) (by show d' + 1 ≤ d; exact hdd) (by show 8 + (M'.2.2.1 + 11) + 41 * d' ≤ 41 * d; have := hmo.2.2; omega) (by show tp S - t0 + (tp S1 - tp S) ≤ tp S1 - t0; omega) (by show sz S - z0 + (sz S1 - sz S) ≤ sz S1 - z0; omega) ⟨rfl, by show HR X S T.heap; rw [hT]; exact hH, hW2⟩
  have hlocks := F.2.2.2.2.2.1
  obtain ⟨l1, l2, l3, l4, l5⟩ := Y2.leaveThrown (ad X a0) (g := F0 m pc ls (stc X st)) rfl rfl rfl (F.out h15 _) hlocks
  refine ⟨_, hgo _ (fun acts => ?_), .threw (ad X a0), l2, l3, ⟨rfl, hH2, hW3⟩, locs ++ L, ⟨l4, ?_⟩, fun q hq => (List.mem_append.mp hq).elim (hL q) (hL2 q)⟩
  · rw [doInvoke_state]; exact hst.trans l1
  · rw [show tp S1 - t0 = tp S - t0 + (tp S1 - tp S) by omega, show sz S1 - z0 = sz S - z0 + (sz S1 - sz S) by omega]; exact l5
theorem V_thrownV {d' ix a ci n N a0 : Nat} {T : u_T} {M' : MI} {as stk : List AV} {S1 : Mem} (hd : decode M.2.1 pc = .ok (.invokevirtual ix, 3)) (hw : Cond.methodLink (kcn.getD M.2.2.2.2 "") ix M'.1 ∈ lw_tbl) (hm : MV M' n) (hn : as.length = n) (hcl : kcl[ci]? = some (M'.1.cls, T, N)) (hci : ci < 14)
    (hstk : stk = as.reverse ++ vR a :: st) (hs8 : (st.map cat).sum ≤ 8) (h15 : M.2.2.2.2 ≠ 15) (hdd : d' + 1 ≤ d) (ho : isK S a ci) (hc : CR X d' M' (vR a :: as) S (.inr a0) S1) (q : Q (.inr a0) S1) : V X d M pc lv stk S Q := by
  subst hstk
  refine ⟨.inr a0, S1, Ev_thrown (st := st) h15 hdd hc (fun G p e s m args below meth c H locs R cells slots ls F hH hl T hT Y => ?_) ⟨hm.1.1, hm.1.2.1, hm.1.2.2.2.2⟩ hs8 hd, q⟩
  have hW := F.2.2.2.2.2.2.1
  have h32 := hH.geo ho hci
  have g : ∀ {w : Cond} {a' : Array Value} {U : State}, (x0 X).WarmedH U.vm → (w.onTables && w.keeps) = true → w ∈ lw_tbl → w.before a' U = true := fun hU hg hw => word_at hU (Or.inl hg) (G.1 _ hw)
  have hKs := G.2.1.moved hW.alike
  have hob := hH.2.2.2.1 a h32 ho.1
  obtain ⟨⟨m1, m2, m3, m4, m5⟩, m6, m7⟩ := hm
  have hcell : ∃ cell : Cell, H[ad X a]? = some cell ∧ cell.vm.isStatics = false ∧ s.vm.findClass M'.1.cls = some cell.cls := by
    have h1 := hob.2
    unfold atc at h1
    rw [ho.2, if_pos (by omega)] at h1
    obtain ⟨cell, g1, g2, g3, -⟩ := h1
    exact ⟨cell, g1, by rw [g3]; rfl, by rw [g2]; exact (hKs.1 ci _ hcl).2.1⟩
  obtain ⟨cellB, hcB, hobj, hcls⟩ := hcell
  obtain ⟨mk, methM, hnamed, hmethM, hstM, habM⟩ := Cond.instanceMethod_spec (g (a' := args) hW rfl m6)
  obtain ⟨methM', cM, hmethM', -, -, -, -, -, -, hsigM⟩ := Cond.code_spec hnamed (g (a' := args) hW rfl m1)
  cases hmethM.symm.trans hmethM'
  obtain ⟨c2, r2, m2', q1, q2, q3, q4, kP, hkP, hkPi⟩ := Cond.selects_spec (g (a' := args) hW rfl m7)
  cases hcls.symm.trans q1
  cases (State.methodFound?_of_named hnamed m3).symm.trans q2
  cases hnamed.symm.trans q3
  have hselP : selectMethod e.platform s.vm cellB.cls mk = .method mk := by rw [Launch.admits_selectMethod Y.admits]; exact q4
  have hlen : (stc X as).length = methM.sig.parameters.length := by
    rw [hsigM] at m4
    unfold stc
    rw [List.length_map, hn]
    exact (Option.some.inj m4).symm
  obtain ⟨vm₁, X₁, hstep₁⟩ := Y.invokevirtual F.1 F.2.2.2.2.1 (g hW rfl hw) hnamed hmethM hstM hkP hkPi m3 (a := ad X a) (cell := cellB) (by rw [hT]; exact hcB)
    (fun z h => by rw [h] at hobj; cases hobj) hselP hmethM habM hkP hkPi (g := F0 m pc ls (stc X (as.reverse ++ vR a :: st))) rfl (argsL := stc X as) (rest := stc X st) hlen (by show stc X _ = _; rw [stc_app, stc_rev]; show _ ++ cv X (vR a) :: stc X st = _; rw [cvR (by omega)]) (by rw [F.2.1]; exact hd)
  have e1 : stc X (vR a :: as) = .ref (ad X a) :: stc X as := by show cv X (vR a) :: stc X as = _; rw [cvR (by omega)]
  rw [e1]
  exact ⟨vm₁, mk, X₁, X₁.warmed, X₁.named hnamed, hstep₁⟩
/-- a call that may come back or throw -/
theorem V_callVT {d' ix a ci n N : Nat} {T : u_T} {M' : MI} {as stk : List AV} {Qc : Res → Mem → Prop} (hd : decode M.2.1 pc = .ok (.invokevirtual ix, 3)) (hw : Cond.methodLink (kcn.getD M.2.2.2.2 "") ix M'.1 ∈ lw_tbl) (hm : MV M' n) (hn : as.length = n) (hcl : kcl[ci]? = some (M'.1.cls, T, N)) (hci : ci < 14)
    (hstk : stk = as.reverse ++ vR a :: st) (hs8 : (st.map cat).sum ≤ 8) (hp : pc + 3 = pc2) (h15 : M.2.2.2.2 ≠ 15) (hdd : d' + 1 ≤ d) (ho : isK S a ci) (hc : C X d' M' (vR a :: as) S Qc) (k : ∀ r S1, Qc r S1 → (∃ v, r = .inl v ∧ V X d M pc2 lv (v.toList ++ st) S1 Q) ∨ ∃ x, r = .inr x ∧ Q (.inr x) S1) : V X d M pc lv stk S Q := by
  obtain ⟨r, S1, hcr, hq⟩ := hc
  rcases k r S1 hq with ⟨v, rfl, hv⟩ | ⟨x, rfl, hx⟩
  · exact V_callV hd hw hm hn hcl hci hstk hs8 hp hdd ho (Qc := fun r' S' => r' = .inl v ∧ S' = S1) ⟨_, _, hcr, rfl, rfl⟩ (fun r' S' h => ⟨v, h.1, by rw [h.2]; exact hv⟩)
  · exact V_thrownV hd hw hm hn hcl hci hstk hs8 h15 hdd ho hcr hx
/-- what a callee gives back, or throws on to Q -/
def TI (Q : Res → Mem → Prop) (F : Int32 → Mem → Prop) : Res → Mem → Prop := fun r S => (∃ x : Int32, r = .inl (some (vI x)) ∧ F x S) ∨ ∃ y : Nat, r = .inr y ∧ Q (.inr y) S
def TV (Q : Res → Mem → Prop) (F : Mem → Prop) : Res → Mem → Prop := fun r S => (r = .inl none ∧ F S) ∨ ∃ y : Nat, r = .inr y ∧ Q (.inr y) S
theorem TI.k {F : Int32 → Mem → Prop} (h : ∀ x S1, F x S1 → V X d M pc2 lv (vI x :: st) S1 Q) : ∀ r S1, TI Q F r S1 → (∃ v, r = .inl v ∧ V X d M pc2 lv (v.toList ++ st) S1 Q) ∨ ∃ x, r = .inr x ∧ Q (.inr x) S1 := by
  rintro r S1 (⟨x, e, hf⟩ | hx)
  · exact Or.inl ⟨some (vI x), e, h x S1 hf⟩
  · exact Or.inr hx
theorem TV.k {F : Mem → Prop} (h : ∀ S1, F S1 → V X d M pc2 lv st S1 Q) : ∀ r S1, TV Q F r S1 → (∃ v, r = .inl v ∧ V X d M pc2 lv (v.toList ++ st) S1 Q) ∨ ∃ x, r = .inr x ∧ Q (.inr x) S1 := by
  rintro r S1 (⟨e, hf⟩ | hx)
  · exact Or.inl ⟨none, e, h S1 hf⟩
  · exact Or.inr hx
end THROWS

