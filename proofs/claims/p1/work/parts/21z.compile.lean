/-! compile over the view -/
def aTVC (X : Cx) (b d : Nat) (M : MI) (lv : Lv) (Q : Res → Rm → Prop) (F : Rm → Prop) : Res → Rm → Prop := fun r s => (r = .inl none ∧ F s) ∨ (r = .inr (b + 1) ∧ A X b d M 123 lv [vR (b + 1)] s Q)
def ACRc (X : Cx) (b d : Nat) (as : List AV) (σ : Rm) (r : Res) (σ' : Rm) : Prop := ∀ T : Mem, Lay b T → vw b T = σ → ∃ T' : Mem, CRc X d as T r T' ∧ vw b T' = σ' ∧ Fr b T T'
def ACc (X : Cx) (b d : Nat) (as : List AV) (σ : Rm) (Q : Res → Rm → Prop) : Prop := ∃ (r : Res) (σ' : Rm), ACRc X b d as σ r σ' ∧ Q r σ'
section MODELC
variable {X : Cx} {b d : Nat} {M : MI} {pc pc2 : Nat} {lv : Lv} {st : List AV} {σ : Rm} {Q : Res → Rm → Prop}
theorem aTVC.k {F : Rm → Prop} (h : ∀ s, F s → A X b d M pc2 lv st s Q) : ∀ r s, aTVC X b d M lv Q F r s → (∃ v, r = .inl v ∧ A X b d M pc2 lv (v.toList ++ st) s Q) ∨ (r = .inr (b + 1) ∧ A X b d M 123 lv [vR (b + 1)] s Q) := by
  rintro r s (⟨e, hf⟩ | hx)
  · exact Or.inl ⟨none, e, h s hf⟩
  · exact Or.inr hx
theorem A_callC {e : Nat} {M' : MI} {as stk : List AV} {Qc : Res → Rm → Prop} (h : ∀ (T : Mem) (Q' Qc' : Res → Mem → Prop), Lay b T → C X e M' as T Qc' → (∀ r S1, Qc' r S1 → (∃ v, r = .inl v ∧ V X d M pc2 lv (v.toList ++ st) S1 Q') ∨ ∃ x, r = .inr x ∧ isK S1 x 12 ∧ V X d M 123 lv [vR x] S1 Q') → V X d M pc lv stk T Q')
    (hc : AC X b e M' as σ Qc) (k : ∀ r σ1, Qc r σ1 → (∃ v, r = .inl v ∧ A X b d M pc2 lv (v.toList ++ st) σ1 Q) ∨ (r = .inr (b + 1) ∧ A X b d M 123 lv [vR (b + 1)] σ1 Q)) : A X b d M pc lv stk σ Q := by
  obtain ⟨r, σ1, cr, qc⟩ := hc
  rcases k r σ1 qc with ⟨v, rfl, r2, σ2, ae, q⟩ | ⟨rfl, r2, σ2, ae, q⟩
  · refine ⟨r2, σ2, fun T L hv => ?_, q⟩
    obtain ⟨T1, c1, v1, f1⟩ := cr T L hv
    obtain ⟨T2, e2, v2, f2⟩ := ae T1 (L.fr f1) v1
    obtain ⟨r3, S3, ev3, rfl, rfl⟩ := h T (fun r' S' => r' = r2 ∧ S' = T2) (fun r' S' => r' = .inl v ∧ S' = T1) L ⟨_, _, c1, rfl, rfl⟩ (fun r' S' hh => Or.inl ⟨v, hh.1, by rw [hh.2]; exact ⟨r2, T2, e2, rfl, rfl⟩⟩)
    exact ⟨S3, ev3, v2, f1.trans f2⟩
  · refine ⟨r2, σ2, fun T L hv => ?_, q⟩
    obtain ⟨T1, c1, v1, f1⟩ := cr T L hv
    have L1 := L.fr f1
    obtain ⟨T2, e2, v2, f2⟩ := ae T1 L1 v1
    obtain ⟨r3, S3, ev3, rfl, rfl⟩ := h T (fun r' S' => r' = r2 ∧ S' = T2) (fun r' S' => r' = .inr (b + 1) ∧ S' = T1) L ⟨_, _, c1, rfl, rfl⟩ (fun r' S' hh => Or.inr ⟨b + 1, hh.1, by rw [hh.2]; exact (L1.2.2.1 0 (by decide) (by decide)).2.1, by rw [hh.2]; exact ⟨r2, T2, e2, rfl, rfl⟩⟩)
    exact ⟨S3, ev3, v2, f1.trans f2⟩
theorem ACc_of_A {as : List AV} (hw : (as.map cat).sum ≤ 4) (h : A X b d MX13_compile 0 (lvE 0 as) [] σ Q) : ACc X b d as σ Q := by
  obtain ⟨r, σ', e, q⟩ := h
  refine ⟨r, σ', fun T L hv => ?_, q⟩
  obtain ⟨T', ev, h1, h2⟩ := e T L hv
  obtain ⟨r2, S2, cr, rfl, rfl⟩ := Cc_of_V hw (Q := fun r' S' => r' = r ∧ S' = T') ⟨r, T', ev, rfl, rfl⟩
  exact ⟨S2, cr, h1, h2⟩
theorem Cc_of_ACc {e : Nat} {as : List AV} {T : Mem} {Q' : Res → Mem → Prop} (L : Lay b T) (h : ACc X b e as (vw b T) Q) (hq : ∀ r σ' T', Q r σ' → vw b T' = σ' → Fr b T T' → Q' r T') : Cc X e as T Q' := by
  obtain ⟨r, σ', cr, q⟩ := h
  obtain ⟨T', c, h1, h2⟩ := cr T L rfl
  exact ⟨r, T', c, hq r σ' T' q h1 h2⟩
end MODELC
theorem a_compile_0 {X : Cx} {b d : Nat} {σ : Rm} {Q : Res → Rm → Prop}  (h : ∀ s1 : Rm, s1 = wS σ 4 (sI σ 2) → A X b d MX13_compile 10 [(0, vR b), (1, vI 0)] [] s1 Q) : A X b d MX13_compile 0 [(0, vR b)] [] σ Q := by
  refine A_p (fun T Q _ _ k => V_aload_n (pc2 := 1) (dk D_X13_compile 0 rfl) rfl (V_lg 0 rfl) rfl k) ?_
  refine A_p (fun T Q _ _ k => V_aload_n (pc2 := 2) (dk D_X13_compile 1 rfl) rfl (V_lg 0 rfl) rfl k) ?_
  refine A_sc (pc2 := 5) 2 (dk D_X13_compile 2 rfl) fl_13_296 (by decide) rfl (fun _ => rfl) rfl ?_
  refine A_put (pc2 := 8) 4 (dk D_X13_compile 3 rfl) fl_13_314 (by decide) rfl rfl rfl rfl ?_
  have h := h _ rfl
  refine A_p (fun T Q _ _ k => V_iconst (x := 0) (pc2 := 9) (dk D_X13_compile 4 rfl) (by decide) rfl k) ?_
  refine A_p (fun T Q _ _ k => V_istore_n (pc2 := 10) (lv2 := [(0, _), (1, _)]) (dk D_X13_compile 5 rfl) rfl (by decide) rfl rfl k) ?_
  exact h
theorem a_compile_10 {X : Cx} {b d : Nat} {σ : Rm} {Q : Res → Rm → Prop} (x1 : Int32) (h : (((sI σ 2) ≤ x1 → ∀ s2 : Rm, s2 = wS σ 2 0 → ∀ s3 : Rm, s3 = wS s2 46 0 → ∃ e4 : Nat, e4 + 1 ≤ d ∧ AC X b e4 MX13_begins [vR b] s3 (aRV fun  s7 => ∀ s8 : Rm, s8 = wS s7 10 0 → ∀ s9 : Rm, s9 = wS s8 12 0 → ∀ s10 : Rm, s10 = wS s9 17 0 → ∀ s11 : Rm, s11 = wS s10 18 0 → ∀ s12 : Rm, s12 = wS s11 29 0 → ∀ s13 : Rm, s13 = wS s12 34 0 → ∀ s14 : Rm, s14 = wS s13 41 0 → ∀ s15 : Rm, s15 = wS s14 37 (-9) → ∃ e16 : Nat, e16 + 1 ≤ d ∧ AC X b e16 MX13_cut [vR b] s15 (aRV fun  s19 => ∃ e20 : Nat, e20 + 1 ≤ d ∧ AC X b e20 MX13_readBody [vR b] s19 (aTVC X b d MX13_compile [(0, vR b), (1, vI x1)] Q fun s23 => A X b d MX13_compile 99 [(0, vR b), (1, vI x1)] [] s23 Q)))) ∧ (¬ (sI σ 2) ≤ x1 → (vp_in x1 3000) ∧ (vp_in x1 3000) ∧ ∀ s26 : Rm, s26 = wI σ 3 ((x1 : Int32).toNatClampNeg) ((aI σ 1 (x1 : Int32).toNatClampNeg) : Int32).toInt8.toInt32 → A X b d MX13_compile 10 [(0, vR b), (1, vI (x1 + 1))] [] s26 Q))) : A X b d MX13_compile 10 [(0, vR b), (1, vI x1)] [] σ Q := by
  refine A_p (fun T Q _ _ k => V_iload_n (pc2 := 11) (dk D_X13_compile 6 rfl) rfl (V_lg 1 rfl) rfl k) ?_
  refine A_p (fun T Q _ _ k => V_aload_n (pc2 := 12) (dk D_X13_compile 7 rfl) rfl (V_lg 0 rfl) rfl k) ?_
  refine A_sc (pc2 := 15) 2 (dk D_X13_compile 8 rfl) fl_13_296 (by decide) rfl (fun _ => rfl) rfl ?_
  refine A_if (pa := 36) (pb := 18) (fun T Q k1 k2 => V_cmpge (tgt := 36) (pc2 := 18) (dk D_X13_compile 9 rfl) (by decide) rfl (fun q => k1 q) (fun q => k2 q)) (fun q1 => ?_) (fun q1 => ?_)
  · have h := h.1 q1
    refine A_p (fun T Q _ _ k => V_aload_n (pc2 := 37) (dk D_X13_compile 20 rfl) rfl (V_lg 0 rfl) rfl k) ?_
    refine A_p (fun T Q _ _ k => V_iconst (x := 0) (pc2 := 38) (dk D_X13_compile 21 rfl) (by decide) rfl k) ?_
    refine A_put (pc2 := 41) 2 (dk D_X13_compile 22 rfl) fl_13_296 (by decide) rfl rfl rfl rfl ?_
    have h := h _ rfl
    refine A_p (fun T Q _ _ k => V_aload_n (pc2 := 42) (dk D_X13_compile 23 rfl) rfl (V_lg 0 rfl) rfl k) ?_
    refine A_p (fun T Q _ _ k => V_iconst (x := 0) (pc2 := 43) (dk D_X13_compile 24 rfl) (by decide) rfl k) ?_
    refine A_putZ (pc2 := 46) 46 (dk D_X13_compile 25 rfl) fl_13_448 (by decide) rfl rfl rfl rfl (Or.inl rfl) ?_
    have h := h _ rfl
    refine A_p (fun T Q _ _ k => V_aload_n (pc2 := 47) (dk D_X13_compile 26 rfl) rfl (V_lg 0 rfl) rfl k) ?_
    obtain ⟨e4, he5, hc6⟩ := h
    refine A_call (st := []) (pc2 := 50) (fun T Q Qc L hc k => V_callV (as := []) (st := []) (M' := MX13_begins) (ci := 13) (pc2 := 50) (dk D_X13_compile 27 rfl) ml_13_452 mv_X13_begins rfl rfl (by decide) rfl (Nat.le_of_ble_eq_true rfl) rfl he5 L.2.1 hc k) hc6 (aRV.k fun  s7 h => ?_)
    refine A_p (fun T Q _ _ k => V_aload_n (pc2 := 51) (dk D_X13_compile 28 rfl) rfl (V_lg 0 rfl) rfl k) ?_
    refine A_p (fun T Q _ _ k => V_iconst (x := 0) (pc2 := 52) (dk D_X13_compile 29 rfl) (by decide) rfl k) ?_
    refine A_put (pc2 := 55) 10 (dk D_X13_compile 30 rfl) fl_13_331 (by decide) rfl rfl rfl rfl ?_
    have h := h _ rfl
    refine A_p (fun T Q _ _ k => V_aload_n (pc2 := 56) (dk D_X13_compile 31 rfl) rfl (V_lg 0 rfl) rfl k) ?_
    refine A_p (fun T Q _ _ k => V_iconst (x := 0) (pc2 := 57) (dk D_X13_compile 32 rfl) (by decide) rfl k) ?_
    refine A_put (pc2 := 60) 12 (dk D_X13_compile 33 rfl) fl_13_345 (by decide) rfl rfl rfl rfl ?_
    have h := h _ rfl
    refine A_p (fun T Q _ _ k => V_aload_n (pc2 := 61) (dk D_X13_compile 34 rfl) rfl (V_lg 0 rfl) rfl k) ?_
    refine A_p (fun T Q _ _ k => V_iconst (x := 0) (pc2 := 62) (dk D_X13_compile 35 rfl) (by decide) rfl k) ?_
    refine A_put (pc2 := 65) 17 (dk D_X13_compile 36 rfl) fl_13_351 (by decide) rfl rfl rfl rfl ?_
    have h := h _ rfl
    refine A_p (fun T Q _ _ k => V_aload_n (pc2 := 66) (dk D_X13_compile 37 rfl) rfl (V_lg 0 rfl) rfl k) ?_
    refine A_p (fun T Q _ _ k => V_iconst (x := 0) (pc2 := 67) (dk D_X13_compile 38 rfl) (by decide) rfl k) ?_
    refine A_put (pc2 := 70) 18 (dk D_X13_compile 39 rfl) fl_13_445 (by decide) rfl rfl rfl rfl ?_
    have h := h _ rfl
    refine A_p (fun T Q _ _ k => V_aload_n (pc2 := 71) (dk D_X13_compile 40 rfl) rfl (V_lg 0 rfl) rfl k) ?_
    refine A_p (fun T Q _ _ k => V_iconst (x := 0) (pc2 := 72) (dk D_X13_compile 41 rfl) (by decide) rfl k) ?_
    refine A_put (pc2 := 75) 29 (dk D_X13_compile 42 rfl) fl_13_413 (by decide) rfl rfl rfl rfl ?_
    have h := h _ rfl
    refine A_p (fun T Q _ _ k => V_aload_n (pc2 := 76) (dk D_X13_compile 43 rfl) rfl (V_lg 0 rfl) rfl k) ?_
    refine A_p (fun T Q _ _ k => V_iconst (x := 0) (pc2 := 77) (dk D_X13_compile 44 rfl) (by decide) rfl k) ?_
    refine A_put (pc2 := 80) 34 (dk D_X13_compile 45 rfl) fl_13_416 (by decide) rfl rfl rfl rfl ?_
    have h := h _ rfl
    refine A_p (fun T Q _ _ k => V_aload_n (pc2 := 81) (dk D_X13_compile 46 rfl) rfl (V_lg 0 rfl) rfl k) ?_
    refine A_p (fun T Q _ _ k => V_iconst (x := 0) (pc2 := 82) (dk D_X13_compile 47 rfl) (by decide) rfl k) ?_
    refine A_put (pc2 := 85) 41 (dk D_X13_compile 48 rfl) fl_13_442 (by decide) rfl rfl rfl rfl ?_
    have h := h _ rfl
    refine A_p (fun T Q _ _ k => V_aload_n (pc2 := 86) (dk D_X13_compile 49 rfl) rfl (V_lg 0 rfl) rfl k) ?_
    refine A_p (fun T Q _ _ k => V_bipush (x := (-9)) (pc2 := 88) (dk D_X13_compile 50 rfl) (by decide) rfl k) ?_
    refine A_put (pc2 := 91) 37 (dk D_X13_compile 51 rfl) fl_13_354 (by decide) rfl rfl rfl rfl ?_
    have h := h _ rfl
    refine A_p (fun T Q _ _ k => V_aload_n (pc2 := 92) (dk D_X13_compile 52 rfl) rfl (V_lg 0 rfl) rfl k) ?_
    obtain ⟨e16, he17, hc18⟩ := h
    refine A_call (st := []) (pc2 := 95) (fun T Q Qc L hc k => V_callV (as := []) (st := []) (M' := MX13_cut) (ci := 13) (pc2 := 95) (dk D_X13_compile 53 rfl) ml_13_455 mv_X13_cut rfl rfl (by decide) rfl (Nat.le_of_ble_eq_true rfl) rfl he17 L.2.1 hc k) hc18 (aRV.k fun  s19 h => ?_)
    refine A_p (fun T Q _ _ k => V_aload_n (pc2 := 96) (dk D_X13_compile 54 rfl) rfl (V_lg 0 rfl) rfl k) ?_
    obtain ⟨e20, he21, hc22⟩ := h
    refine A_callC (st := []) (pc2 := 99) (fun T Q Qc L hc k => V_callVC (as := []) (st := []) (M' := MX13_readBody) (ci := 13) (pc2 := 99) (dk D_X13_compile 55 rfl) ml_13_458 mv_X13_readBody rfl rfl (by decide) rfl (Nat.le_of_ble_eq_true rfl) rfl rfl (by decide) he21 L.2.1 hc k) hc22 (aTVC.k fun s23 h => ?_)
    exact h
  · have h := h.2 q1
    refine A_p (fun T Q _ _ k => V_aload_n (pc2 := 19) (dk D_X13_compile 10 rfl) rfl (V_lg 0 rfl) rfl k) ?_
    refine A_ar (pc2 := 22) (a := 3) 3 (dk D_X13_compile 11 rfl) fl_13_20 (by decide) (by decide) rfl (fun _ => rfl) rfl ?_
    refine A_p (fun T Q _ _ k => V_iload_n (pc2 := 23) (dk D_X13_compile 12 rfl) rfl (V_lg 1 rfl) rfl k) ?_
    refine A_p (fun T Q _ _ k => V_aload_n (pc2 := 24) (dk D_X13_compile 13 rfl) rfl (V_lg 0 rfl) rfl k) ?_
    refine A_ar (pc2 := 27) (a := 2) 1 (dk D_X13_compile 14 rfl) fl_13_16 (by decide) (by decide) rfl (fun _ => rfl) rfl ?_
    refine A_p (fun T Q _ _ k => V_iload_n (pc2 := 28) (dk D_X13_compile 15 rfl) rfl (V_lg 1 rfl) rfl k) ?_
    obtain ⟨h24, h⟩ := h
    refine A_bld (pc2 := 29) 1 (dk D_X13_compile 16 rfl) rfl (by decide) rfl (by decide) rfl rfl h24 ?_
    obtain ⟨h25, h⟩ := h
    refine A_bst (pc2 := 30) 3 (dk D_X13_compile 17 rfl) rfl (by decide) rfl (by decide) rfl rfl h25 ?_
    have h := h _ rfl
    refine A_p (fun T Q _ _ k => V_iinc (y := _ + 1) (pc2 := 33) (lv2 := [(0, _), (1, _)]) (dk D_X13_compile 18 rfl) (V_lg 1 rfl) rfl (by decide) rfl rfl k) ?_
    refine A_p (fun T Q _ _ k => V_goto (tgt := 10) (dk D_X13_compile 19 rfl) (by decide) k) ?_
    exact h
theorem a_compile_123 {X : Cx} {b d : Nat} {σ : Rm} {Q : Res → Rm → Prop} (x1 : Int32) (h : ∀ s1 : Rm, s1 = wS σ 18 0 → Q (.inl (some (vI ((-10) - (aI s1 0 6))))) s1) : A X b d MX13_compile 123 [(0, vR b), (1, vI x1)] [vR (b + 1)] σ Q := by
  refine A_p (fun T Q _ _ k => V_astore_n (pc2 := 124) (lv2 := [(0, _), (1, _)]) (dk D_X13_compile 67 rfl) rfl (by decide) rfl rfl k) ?_
  refine A_p (fun T Q _ _ k => V_aload_n (pc2 := 125) (dk D_X13_compile 68 rfl) rfl (V_lg 0 rfl) rfl k) ?_
  refine A_p (fun T Q _ _ k => V_iconst (x := 0) (pc2 := 126) (dk D_X13_compile 69 rfl) (by decide) rfl k) ?_
  refine A_put (pc2 := 129) 18 (dk D_X13_compile 70 rfl) fl_13_445 (by decide) rfl rfl rfl rfl ?_
  have h := h _ rfl
  refine A_p (fun T Q _ _ k => V_bipush (x := (-10)) (pc2 := 131) (dk D_X13_compile 71 rfl) (by decide) rfl k) ?_
  refine A_p (fun T Q _ _ k => V_aload_n (pc2 := 132) (dk D_X13_compile 72 rfl) rfl (V_lg 1 rfl) rfl k) ?_
  refine A_getN (pc2 := 135) (dk D_X13_compile 73 rfl) rfl rfl ?_
  refine A_p (fun T Q _ _ k => V_isub (pc2 := 136) (dk D_X13_compile 74 rfl) rfl k) ?_
  exact A_ret (fun T Q _ k => V_ireturn (dk D_X13_compile 75 rfl) rfl k) h
