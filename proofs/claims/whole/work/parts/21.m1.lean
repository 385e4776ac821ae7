theorem a_readTry_0 {X : Cx} {b d : Nat} {σ : Rm} {Q : Res → Rm → Prop}  (h : ∀ s1 : Rm, s1 = wS σ 10 ((sI σ 10) + 1) → ∀ s2 : Rm, s2 = wS s1 29 ((sI s1 29) + 1) → ∃ e3 : Nat, e3 + 1 ≤ d ∧ AC X b e3 MX13_emit [vR b, vI 28, vI (sI s1 29), vI 0] s2 (aRI fun y6 s7 => (vp_in (sI s1 29) 1000) ∧ ∀ s9 : Rm, s9 = wI s7 27 (((sI s1 29) : Int32).toNatClampNeg) (-9) → ∃ e10 : Nat, e10 + 1 ≤ d ∧ AC X b e10 MX13_readBlock [vR b] s9 (aTV Q fun  s13 => ∃ e14 : Nat, e14 + 1 ≤ d ∧ AC X b e14 MX13_emit [vR b, vI 29, vI (sI s1 29), vI 0] s13 (aRI fun y17 s18 => A X b d MX13_readTry 57 [(0, vR b), (1, vI (sI s1 29)), (2, vI y17), (3, vI 0)] [] s18 Q)))) : A X b d MX13_readTry 0 [(0, vR b)] [] σ Q := by
  refine A_p (fun T Q _ _ k => V_aload_n (pc2 := 1) (dk D_X13_readTry 0 rfl) rfl (V_lg 0 rfl) rfl k) ?_
  refine A_p (fun T Q _ _ k => V_dup (pc2 := 2) (dk D_X13_readTry 1 rfl) rfl rfl k) ?_
  refine A_sc (pc2 := 5) 10 (dk D_X13_readTry 2 rfl) fl_13_331 (by decide) rfl (fun _ => rfl) rfl ?_
  refine A_p (fun T Q _ _ k => V_iconst (x := 1) (pc2 := 6) (dk D_X13_readTry 3 rfl) (by decide) rfl k) ?_
  refine A_p (fun T Q _ _ k => V_iadd (pc2 := 7) (dk D_X13_readTry 4 rfl) rfl k) ?_
  refine A_put (pc2 := 10) 10 (dk D_X13_readTry 5 rfl) fl_13_331 (by decide) rfl rfl rfl rfl ?_
  have h := h _ rfl
  refine A_p (fun T Q _ _ k => V_aload_n (pc2 := 11) (dk D_X13_readTry 6 rfl) rfl (V_lg 0 rfl) rfl k) ?_
  refine A_sc (pc2 := 14) 29 (dk D_X13_readTry 7 rfl) fl_13_413 (by decide) rfl (fun _ => rfl) rfl ?_
  refine A_p (fun T Q _ _ k => V_istore_n (pc2 := 15) (lv2 := [(0, _), (1, _)]) (dk D_X13_readTry 8 rfl) rfl (by decide) rfl rfl k) ?_
  refine A_p (fun T Q _ _ k => V_aload_n (pc2 := 16) (dk D_X13_readTry 9 rfl) rfl (V_lg 0 rfl) rfl k) ?_
  refine A_p (fun T Q _ _ k => V_dup (pc2 := 17) (dk D_X13_readTry 10 rfl) rfl rfl k) ?_
  refine A_sc (pc2 := 20) 29 (dk D_X13_readTry 11 rfl) fl_13_413 (by decide) rfl (fun _ => rfl) rfl ?_
  refine A_p (fun T Q _ _ k => V_iconst (x := 1) (pc2 := 21) (dk D_X13_readTry 12 rfl) (by decide) rfl k) ?_
  refine A_p (fun T Q _ _ k => V_iadd (pc2 := 22) (dk D_X13_readTry 13 rfl) rfl k) ?_
  refine A_put (pc2 := 25) 29 (dk D_X13_readTry 14 rfl) fl_13_413 (by decide) rfl rfl rfl rfl ?_
  have h := h _ rfl
  refine A_p (fun T Q _ _ k => V_aload_n (pc2 := 26) (dk D_X13_readTry 15 rfl) rfl (V_lg 0 rfl) rfl k) ?_
  refine A_p (fun T Q _ _ k => V_bipush (x := 28) (pc2 := 28) (dk D_X13_readTry 16 rfl) (by decide) rfl k) ?_
  refine A_p (fun T Q _ _ k => V_iload_n (pc2 := 29) (dk D_X13_readTry 17 rfl) rfl (V_lg 1 rfl) rfl k) ?_
  refine A_p (fun T Q _ _ k => V_iconst (x := 0) (pc2 := 30) (dk D_X13_readTry 18 rfl) (by decide) rfl k) ?_
  obtain ⟨e3, he4, hc5⟩ := h
  refine A_call (st := []) (pc2 := 33) (fun T Q Qc L hc k => V_callV (as := [_, _, _]) (st := []) (M' := MX13_emit) (ci := 13) (pc2 := 33) (dk D_X13_readTry 19 rfl) ml_13_373 mv_X13_emit rfl rfl (by decide) rfl (Nat.le_of_ble_eq_true rfl) rfl he4 L.2.1 hc k) hc5 (aRI.k fun y6 s7 h => ?_)
  refine A_p (fun T Q _ _ k => V_istore_n (pc2 := 34) (lv2 := [(0, _), (1, _), (2, _)]) (dk D_X13_readTry 20 rfl) rfl (by decide) rfl rfl k) ?_
  refine A_p (fun T Q _ _ k => V_aload_n (pc2 := 35) (dk D_X13_readTry 21 rfl) rfl (V_lg 0 rfl) rfl k) ?_
  refine A_ar (pc2 := 38) (a := 21) 27 (dk D_X13_readTry 22 rfl) fl_13_125 (by decide) (by decide) rfl (fun _ => rfl) rfl ?_
  refine A_p (fun T Q _ _ k => V_iload_n (pc2 := 39) (dk D_X13_readTry 23 rfl) rfl (V_lg 1 rfl) rfl k) ?_
  refine A_p (fun T Q _ _ k => V_bipush (x := (-9)) (pc2 := 41) (dk D_X13_readTry 24 rfl) (by decide) rfl k) ?_
  obtain ⟨h8, h⟩ := h
  refine A_ist (pc2 := 42) 27 (dk D_X13_readTry 25 rfl) rfl (by decide) rfl (by decide) rfl rfl h8 ?_
  have h := h _ rfl
  refine A_p (fun T Q _ _ k => V_aload_n (pc2 := 43) (dk D_X13_readTry 26 rfl) rfl (V_lg 0 rfl) rfl k) ?_
  obtain ⟨e10, he11, hc12⟩ := h
  refine A_callT (st := []) (pc2 := 46) (fun T Q Qc L hc k => V_callST (as := [_]) (st := []) (M' := MX13_readBlock) (pc2 := 46) (dk D_X13_readTry 27 rfl) ml_13_383 mv_X13_readBlock rfl rfl (Nat.le_of_ble_eq_true rfl) rfl (by decide) he11 hc k) hc12 (aTV.k fun  s13 h => ?_)
  refine A_p (fun T Q _ _ k => V_aload_n (pc2 := 47) (dk D_X13_readTry 28 rfl) rfl (V_lg 0 rfl) rfl k) ?_
  refine A_p (fun T Q _ _ k => V_bipush (x := 29) (pc2 := 49) (dk D_X13_readTry 29 rfl) (by decide) rfl k) ?_
  refine A_p (fun T Q _ _ k => V_iload_n (pc2 := 50) (dk D_X13_readTry 30 rfl) rfl (V_lg 1 rfl) rfl k) ?_
  refine A_p (fun T Q _ _ k => V_iconst (x := 0) (pc2 := 51) (dk D_X13_readTry 31 rfl) (by decide) rfl k) ?_
  obtain ⟨e14, he15, hc16⟩ := h
  refine A_call (st := []) (pc2 := 54) (fun T Q Qc L hc k => V_callV (as := [_, _, _]) (st := []) (M' := MX13_emit) (ci := 13) (pc2 := 54) (dk D_X13_readTry 32 rfl) ml_13_373 mv_X13_emit rfl rfl (by decide) rfl (Nat.le_of_ble_eq_true rfl) rfl he15 L.2.1 hc k) hc16 (aRI.k fun y17 s18 h => ?_)
  refine A_p (fun T Q _ _ k => V_istore_n (pc2 := 55) (lv2 := [(0, _), (1, _), (2, _)]) (dk D_X13_readTry 33 rfl) rfl (by decide) rfl rfl k) ?_
  refine A_p (fun T Q _ _ k => V_iconst (x := 0) (pc2 := 56) (dk D_X13_readTry 34 rfl) (by decide) rfl k) ?_
  refine A_p (fun T Q _ _ k => V_istore_n (pc2 := 57) (lv2 := [(0, _), (1, _), (2, _), (3, _)]) (dk D_X13_readTry 35 rfl) rfl (by decide) rfl rfl k) ?_
  exact h
theorem a_readTry_57 {X : Cx} {b d : Nat} {σ : Rm} {Q : Res → Rm → Prop} (x1 : Int32) (x2 : Int32) (x3 : Int32) (h : ∃ e1 : Nat, e1 + 1 ≤ d ∧ AC X b e1 MX13_isWord [vR b, vR 10] σ (aRI fun y4 s5 => ((y4 = 0 → ∃ e7 : Nat, e7 + 1 ≤ d ∧ AC X b e7 MX13_isWord [vR b, vR 11] s5 (aRI fun y10 s11 => ((y10 = 0 → A X b d MX13_readTry 255 [(0, vR b), (1, vI x1), (2, vI x2), (3, vI x3)] [] s11 Q) ∧ (¬ y10 = 0 → ∀ s13 : Rm, s13 = wS s11 10 ((sI s11 10) + 1) → (vp_in x1 1000) ∧ ∀ s15 : Rm, s15 = wI s13 27 ((x1 : Int32).toNatClampNeg) (sI s13 17) → ∃ e16 : Nat, e16 + 1 ≤ d ∧ AC X b e16 MX13_readBlock [vR b] s15 (aTV Q fun  s19 => ∃ e20 : Nat, e20 + 1 ≤ d ∧ AC X b e20 MX13_emit [vR b, vI 30, vI x1, vI 0] s19 (aRI fun y23 s24 => A X b d MX13_readTry 255 [(0, vR b), (1, vI x1), (2, vI y23), (3, vI 1)] [] s24 Q)))))) ∧ (¬ y4 = 0 → ∀ s25 : Rm, s25 = wS s5 10 ((sI s5 10) + 1) → (vp_in (sI s25 10) 3002) ∧ (((aI s25 5 ((sI s25 10) : Int32).toNatClampNeg) = 2 → ∃ e28 : Nat, e28 + 1 ≤ d ∧ AC X b e28 MX13_mustNumber [vR b] s25 (aTI Q fun y31 s32 => A X b d MX13_readTry 101 [(0, vR b), (1, vI x1), (2, vI x2), (3, vI 1), (4, vI y31)] [] s32 Q)) ∧ (¬ (aI s25 5 ((sI s25 10) : Int32).toNatClampNeg) = 2 → A X b d MX13_readTry 101 [(0, vR b), (1, vI x1), (2, vI x2), (3, vI 1), (4, vI (-9))] [] s25 Q)))))) : A X b d MX13_readTry 57 [(0, vR b), (1, vI x1), (2, vI x2), (3, vI x3)] [] σ Q := by
  refine A_p (fun T Q _ _ k => V_aload_n (pc2 := 58) (dk D_X13_readTry 36 rfl) rfl (V_lg 0 rfl) rfl k) ?_
  refine A_p (fun T Q _ _ k => V_ldcs 8 (pc2 := 60) (dk D_X13_readTry 37 rfl) rfl rfl k) ?_
  obtain ⟨e1, he2, hc3⟩ := h
  refine A_call (st := []) (pc2 := 63) (fun T Q Qc L hc k => V_callV (as := [_]) (st := []) (M' := MX13_isWord) (ci := 13) (pc2 := 63) (dk D_X13_readTry 38 rfl) ml_13_341 mv_X13_isWord rfl rfl (by decide) rfl (Nat.le_of_ble_eq_true rfl) rfl he2 L.2.1 hc k) hc3 (aRI.k fun y4 s5 h => ?_)
  refine A_if (pa := 211) (pb := 66) (fun T Q k1 k2 => V_ifeq (tgt := 211) (pc2 := 66) (dk D_X13_readTry 39 rfl) (by decide) rfl (fun q => k1 q) (fun q => k2 q)) (fun q6 => ?_) (fun q6 => ?_)
  · have h := h.1 q6
    refine A_p (fun T Q _ _ k => V_aload_n (pc2 := 212) (dk D_X13_readTry 122 rfl) rfl (V_lg 0 rfl) rfl k) ?_
    refine A_p (fun T Q _ _ k => V_ldcs 9 (pc2 := 214) (dk D_X13_readTry 123 rfl) rfl rfl k) ?_
    obtain ⟨e7, he8, hc9⟩ := h
    refine A_call (st := []) (pc2 := 217) (fun T Q Qc L hc k => V_callV (as := [_]) (st := []) (M' := MX13_isWord) (ci := 13) (pc2 := 217) (dk D_X13_readTry 124 rfl) ml_13_341 mv_X13_isWord rfl rfl (by decide) rfl (Nat.le_of_ble_eq_true rfl) rfl he8 L.2.1 hc k) hc9 (aRI.k fun y10 s11 h => ?_)
    refine A_if (pa := 255) (pb := 220) (fun T Q k1 k2 => V_ifeq (tgt := 255) (pc2 := 220) (dk D_X13_readTry 125 rfl) (by decide) rfl (fun q => k1 q) (fun q => k2 q)) (fun q12 => ?_) (fun q12 => ?_)
    · have h := h.1 q12
      exact h
    · have h := h.2 q12
      refine A_p (fun T Q _ _ k => V_aload_n (pc2 := 221) (dk D_X13_readTry 126 rfl) rfl (V_lg 0 rfl) rfl k) ?_
      refine A_p (fun T Q _ _ k => V_dup (pc2 := 222) (dk D_X13_readTry 127 rfl) rfl rfl k) ?_
      refine A_sc (pc2 := 225) 10 (dk D_X13_readTry 128 rfl) fl_13_331 (by decide) rfl (fun _ => rfl) rfl ?_
      refine A_p (fun T Q _ _ k => V_iconst (x := 1) (pc2 := 226) (dk D_X13_readTry 129 rfl) (by decide) rfl k) ?_
      refine A_p (fun T Q _ _ k => V_iadd (pc2 := 227) (dk D_X13_readTry 130 rfl) rfl k) ?_
      refine A_put (pc2 := 230) 10 (dk D_X13_readTry 131 rfl) fl_13_331 (by decide) rfl rfl rfl rfl ?_
      have h := h _ rfl
      refine A_p (fun T Q _ _ k => V_iconst (x := 1) (pc2 := 231) (dk D_X13_readTry 132 rfl) (by decide) rfl k) ?_
      refine A_p (fun T Q _ _ k => V_istore_n (pc2 := 232) (lv2 := [(0, _), (1, _), (2, _), (3, _)]) (dk D_X13_readTry 133 rfl) rfl (by decide) rfl rfl k) ?_
      refine A_p (fun T Q _ _ k => V_aload_n (pc2 := 233) (dk D_X13_readTry 134 rfl) rfl (V_lg 0 rfl) rfl k) ?_
      refine A_ar (pc2 := 236) (a := 21) 27 (dk D_X13_readTry 135 rfl) fl_13_125 (by decide) (by decide) rfl (fun _ => rfl) rfl ?_
      refine A_p (fun T Q _ _ k => V_iload_n (pc2 := 237) (dk D_X13_readTry 136 rfl) rfl (V_lg 1 rfl) rfl k) ?_
      refine A_p (fun T Q _ _ k => V_aload_n (pc2 := 238) (dk D_X13_readTry 137 rfl) rfl (V_lg 0 rfl) rfl k) ?_
      refine A_sc (pc2 := 241) 17 (dk D_X13_readTry 138 rfl) fl_13_351 (by decide) rfl (fun _ => rfl) rfl ?_
      obtain ⟨h14, h⟩ := h
      refine A_ist (pc2 := 242) 27 (dk D_X13_readTry 139 rfl) rfl (by decide) rfl (by decide) rfl rfl h14 ?_
      have h := h _ rfl
      refine A_p (fun T Q _ _ k => V_aload_n (pc2 := 243) (dk D_X13_readTry 140 rfl) rfl (V_lg 0 rfl) rfl k) ?_
      obtain ⟨e16, he17, hc18⟩ := h
      refine A_callT (st := []) (pc2 := 246) (fun T Q Qc L hc k => V_callST (as := [_]) (st := []) (M' := MX13_readBlock) (pc2 := 246) (dk D_X13_readTry 141 rfl) ml_13_383 mv_X13_readBlock rfl rfl (Nat.le_of_ble_eq_true rfl) rfl (by decide) he17 hc k) hc18 (aTV.k fun  s19 h => ?_)
      refine A_p (fun T Q _ _ k => V_aload_n (pc2 := 247) (dk D_X13_readTry 142 rfl) rfl (V_lg 0 rfl) rfl k) ?_
      refine A_p (fun T Q _ _ k => V_bipush (x := 30) (pc2 := 249) (dk D_X13_readTry 143 rfl) (by decide) rfl k) ?_
      refine A_p (fun T Q _ _ k => V_iload_n (pc2 := 250) (dk D_X13_readTry 144 rfl) rfl (V_lg 1 rfl) rfl k) ?_
      refine A_p (fun T Q _ _ k => V_iconst (x := 0) (pc2 := 251) (dk D_X13_readTry 145 rfl) (by decide) rfl k) ?_
      obtain ⟨e20, he21, hc22⟩ := h
      refine A_call (st := []) (pc2 := 254) (fun T Q Qc L hc k => V_callV (as := [_, _, _]) (st := []) (M' := MX13_emit) (ci := 13) (pc2 := 254) (dk D_X13_readTry 146 rfl) ml_13_373 mv_X13_emit rfl rfl (by decide) rfl (Nat.le_of_ble_eq_true rfl) rfl he21 L.2.1 hc k) hc22 (aRI.k fun y23 s24 h => ?_)
      refine A_p (fun T Q _ _ k => V_istore_n (pc2 := 255) (lv2 := [(0, _), (1, _), (2, _), (3, _)]) (dk D_X13_readTry 147 rfl) rfl (by decide) rfl rfl k) ?_
      exact h
  · have h := h.2 q6
    refine A_p (fun T Q _ _ k => V_aload_n (pc2 := 67) (dk D_X13_readTry 40 rfl) rfl (V_lg 0 rfl) rfl k) ?_
    refine A_p (fun T Q _ _ k => V_dup (pc2 := 68) (dk D_X13_readTry 41 rfl) rfl rfl k) ?_
    refine A_sc (pc2 := 71) 10 (dk D_X13_readTry 42 rfl) fl_13_331 (by decide) rfl (fun _ => rfl) rfl ?_
    refine A_p (fun T Q _ _ k => V_iconst (x := 1) (pc2 := 72) (dk D_X13_readTry 43 rfl) (by decide) rfl k) ?_
    refine A_p (fun T Q _ _ k => V_iadd (pc2 := 73) (dk D_X13_readTry 44 rfl) rfl k) ?_
    refine A_put (pc2 := 76) 10 (dk D_X13_readTry 45 rfl) fl_13_331 (by decide) rfl rfl rfl rfl ?_
    have h := h _ rfl
    refine A_p (fun T Q _ _ k => V_iconst (x := 1) (pc2 := 77) (dk D_X13_readTry 46 rfl) (by decide) rfl k) ?_
    refine A_p (fun T Q _ _ k => V_istore_n (pc2 := 78) (lv2 := [(0, _), (1, _), (2, _), (3, _)]) (dk D_X13_readTry 47 rfl) rfl (by decide) rfl rfl k) ?_
    refine A_p (fun T Q _ _ k => V_bipush (x := (-9)) (pc2 := 80) (dk D_X13_readTry 48 rfl) (by decide) rfl k) ?_
    refine A_p (fun T Q _ _ k => V_istore (pc2 := 82) (lv2 := [(0, _), (1, _), (2, _), (3, _), (4, _)]) (dk D_X13_readTry 49 rfl) (by decide) rfl rfl k) ?_
    refine A_p (fun T Q _ _ k => V_aload_n (pc2 := 83) (dk D_X13_readTry 50 rfl) rfl (V_lg 0 rfl) rfl k) ?_
    refine A_ar (pc2 := 86) (a := 4) 5 (dk D_X13_readTry 51 rfl) fl_13_23 (by decide) (by decide) rfl (fun _ => rfl) rfl ?_
    refine A_p (fun T Q _ _ k => V_aload_n (pc2 := 87) (dk D_X13_readTry 52 rfl) rfl (V_lg 0 rfl) rfl k) ?_
    refine A_sc (pc2 := 90) 10 (dk D_X13_readTry 53 rfl) fl_13_331 (by decide) rfl (fun _ => rfl) rfl ?_
    obtain ⟨h26, h⟩ := h
    refine A_ild (pc2 := 91) 5 (dk D_X13_readTry 54 rfl) rfl (by decide) rfl (by decide) rfl rfl h26 ?_
    refine A_p (fun T Q _ _ k => V_iconst (x := 2) (pc2 := 92) (dk D_X13_readTry 55 rfl) (by decide) rfl k) ?_
    refine A_if (pa := 95) (pb := 101) (fun T Q k1 k2 => V_cmpne (tgt := 101) (pc2 := 95) (dk D_X13_readTry 56 rfl) (by decide) rfl (fun q => k2 q) (fun q => k1 q)) (fun q27 => ?_) (fun q27 => ?_)
    · have h := h.1 q27
      refine A_p (fun T Q _ _ k => V_aload_n (pc2 := 96) (dk D_X13_readTry 57 rfl) rfl (V_lg 0 rfl) rfl k) ?_
      obtain ⟨e28, he29, hc30⟩ := h
      refine A_callT (st := []) (pc2 := 99) (fun T Q Qc L hc k => V_callVT (as := []) (st := []) (M' := MX13_mustNumber) (ci := 13) (pc2 := 99) (dk D_X13_readTry 58 rfl) ml_13_386 mv_X13_mustNumber rfl rfl (by decide) rfl (Nat.le_of_ble_eq_true rfl) rfl (by decide) he29 L.2.1 hc k) hc30 (aTI.k fun y31 s32 h => ?_)
      refine A_p (fun T Q _ _ k => V_istore (pc2 := 101) (lv2 := [(0, _), (1, _), (2, _), (3, _), (4, _)]) (dk D_X13_readTry 59 rfl) (by decide) rfl rfl k) ?_
      exact h
    · have h := h.2 q27
      exact h
theorem a_readTry_101 {X : Cx} {b d : Nat} {σ : Rm} {Q : Res → Rm → Prop} (x1 : Int32) (x2 : Int32) (x3 : Int32) (x4 : Int32) (h : ∃ e1 : Nat, e1 + 1 ≤ d ∧ AC X b e1 MX13_mustName [vR b] σ (aTI Q fun y4 s5 => ∃ e6 : Nat, e6 + 1 ≤ d ∧ AC X b e6 MX13_variable [vR b, vI y4] s5 (aRI fun y9 s10 => ∀ s11 : Rm, s11 = wS s10 34 ((sI s10 34) + 1) → (vp_in (sI s10 34) 1000) ∧ ∀ s13 : Rm, s13 = wI s11 30 (((sI s10 34) : Int32).toNatClampNeg) x4 → (vp_in (sI s10 34) 1000) ∧ ∀ s15 : Rm, s15 = wI s13 31 (((sI s10 34) : Int32).toNatClampNeg) y9 → (vp_in (sI s10 34) 1000) ∧ ∀ s17 : Rm, s17 = wI s15 32 (((sI s10 34) : Int32).toNatClampNeg) (sI s15 17) → (vp_in (sI s10 34) 1000) ∧ ∀ s19 : Rm, s19 = wI s17 33 (((sI s10 34) : Int32).toNatClampNeg) (sI s17 35) → (vp_in (sI s10 34) 1000) ∧ ∀ s21 : Rm, s21 = wI s19 45 (((sI s10 34) : Int32).toNatClampNeg) x1 → ∀ s22 : Rm, s22 = wS s21 35 ((sI s21 35) + 1) → ∃ e23 : Nat, e23 + 1 ≤ d ∧ AC X b e23 MX13_readBlock [vR b] s22 (aTV Q fun  s26 => ∀ s27 : Rm, s27 = wS s26 35 ((sI s26 35) - 1) → ∃ e28 : Nat, e28 + 1 ≤ d ∧ AC X b e28 MX13_emit [vR b, vI 29, vI x1, vI 0] s27 (aRI fun y31 s32 => A X b d MX13_readTry 57 [(0, vR b), (1, vI x1), (2, vI y31), (3, vI x3)] [] s32 Q))))) : A X b d MX13_readTry 101 [(0, vR b), (1, vI x1), (2, vI x2), (3, vI x3), (4, vI x4)] [] σ Q := by
  refine A_p (fun T Q _ _ k => V_aload_n (pc2 := 102) (dk D_X13_readTry 60 rfl) rfl (V_lg 0 rfl) rfl k) ?_
  refine A_p (fun T Q _ _ k => V_aload_n (pc2 := 103) (dk D_X13_readTry 61 rfl) rfl (V_lg 0 rfl) rfl k) ?_
  obtain ⟨e1, he2, hc3⟩ := h
  refine A_callT (st := [_]) (pc2 := 106) (fun T Q Qc L hc k => V_callVT (as := []) (st := [_]) (M' := MX13_mustName) (ci := 13) (pc2 := 106) (dk D_X13_readTry 62 rfl) ml_13_399 mv_X13_mustName rfl rfl (by decide) rfl (Nat.le_of_ble_eq_true rfl) rfl (by decide) he2 L.2.1 hc k) hc3 (aTI.k fun y4 s5 h => ?_)
  obtain ⟨e6, he7, hc8⟩ := h
  refine A_call (st := []) (pc2 := 109) (fun T Q Qc L hc k => V_callV (as := [_]) (st := []) (M' := MX13_variable) (ci := 13) (pc2 := 109) (dk D_X13_readTry 63 rfl) ml_13_402 mv_X13_variable rfl rfl (by decide) rfl (Nat.le_of_ble_eq_true rfl) rfl he7 L.2.1 hc k) hc8 (aRI.k fun y9 s10 h => ?_)
  refine A_p (fun T Q _ _ k => V_istore (pc2 := 111) (lv2 := [(0, _), (1, _), (2, _), (3, _), (4, _), (5, _)]) (dk D_X13_readTry 64 rfl) (by decide) rfl rfl k) ?_
  refine A_p (fun T Q _ _ k => V_aload_n (pc2 := 112) (dk D_X13_readTry 65 rfl) rfl (V_lg 0 rfl) rfl k) ?_
  refine A_sc (pc2 := 115) 34 (dk D_X13_readTry 66 rfl) fl_13_416 (by decide) rfl (fun _ => rfl) rfl ?_
  refine A_p (fun T Q _ _ k => V_istore (pc2 := 117) (lv2 := [(0, _), (1, _), (2, _), (3, _), (4, _), (5, _), (6, _)]) (dk D_X13_readTry 67 rfl) (by decide) rfl rfl k) ?_
  refine A_p (fun T Q _ _ k => V_aload_n (pc2 := 118) (dk D_X13_readTry 68 rfl) rfl (V_lg 0 rfl) rfl k) ?_
  refine A_p (fun T Q _ _ k => V_dup (pc2 := 119) (dk D_X13_readTry 69 rfl) rfl rfl k) ?_
  refine A_sc (pc2 := 122) 34 (dk D_X13_readTry 70 rfl) fl_13_416 (by decide) rfl (fun _ => rfl) rfl ?_
  refine A_p (fun T Q _ _ k => V_iconst (x := 1) (pc2 := 123) (dk D_X13_readTry 71 rfl) (by decide) rfl k) ?_
  refine A_p (fun T Q _ _ k => V_iadd (pc2 := 124) (dk D_X13_readTry 72 rfl) rfl k) ?_
  refine A_put (pc2 := 127) 34 (dk D_X13_readTry 73 rfl) fl_13_416 (by decide) rfl rfl rfl rfl ?_
  have h := h _ rfl
  refine A_p (fun T Q _ _ k => V_aload_n (pc2 := 128) (dk D_X13_readTry 74 rfl) rfl (V_lg 0 rfl) rfl k) ?_
  refine A_ar (pc2 := 131) (a := 23) 30 (dk D_X13_readTry 75 rfl) fl_13_131 (by decide) (by decide) rfl (fun _ => rfl) rfl ?_
  refine A_p (fun T Q _ _ k => V_iload (pc2 := 133) (dk D_X13_readTry 76 rfl) (V_lg 6 rfl) rfl k) ?_
  refine A_p (fun T Q _ _ k => V_iload (pc2 := 135) (dk D_X13_readTry 77 rfl) (V_lg 4 rfl) rfl k) ?_
  obtain ⟨h12, h⟩ := h
  refine A_ist (pc2 := 136) 30 (dk D_X13_readTry 78 rfl) rfl (by decide) rfl (by decide) rfl rfl h12 ?_
  have h := h _ rfl
  refine A_p (fun T Q _ _ k => V_aload_n (pc2 := 137) (dk D_X13_readTry 79 rfl) rfl (V_lg 0 rfl) rfl k) ?_
  refine A_ar (pc2 := 140) (a := 24) 31 (dk D_X13_readTry 80 rfl) fl_13_134 (by decide) (by decide) rfl (fun _ => rfl) rfl ?_
  refine A_p (fun T Q _ _ k => V_iload (pc2 := 142) (dk D_X13_readTry 81 rfl) (V_lg 6 rfl) rfl k) ?_
  refine A_p (fun T Q _ _ k => V_iload (pc2 := 144) (dk D_X13_readTry 82 rfl) (V_lg 5 rfl) rfl k) ?_
  obtain ⟨h14, h⟩ := h
  refine A_ist (pc2 := 145) 31 (dk D_X13_readTry 83 rfl) rfl (by decide) rfl (by decide) rfl rfl h14 ?_
  have h := h _ rfl
  refine A_p (fun T Q _ _ k => V_aload_n (pc2 := 146) (dk D_X13_readTry 84 rfl) rfl (V_lg 0 rfl) rfl k) ?_
  refine A_ar (pc2 := 149) (a := 25) 32 (dk D_X13_readTry 85 rfl) fl_13_137 (by decide) (by decide) rfl (fun _ => rfl) rfl ?_
  refine A_p (fun T Q _ _ k => V_iload (pc2 := 151) (dk D_X13_readTry 86 rfl) (V_lg 6 rfl) rfl k) ?_
  refine A_p (fun T Q _ _ k => V_aload_n (pc2 := 152) (dk D_X13_readTry 87 rfl) rfl (V_lg 0 rfl) rfl k) ?_
  refine A_sc (pc2 := 155) 17 (dk D_X13_readTry 88 rfl) fl_13_351 (by decide) rfl (fun _ => rfl) rfl ?_
  obtain ⟨h16, h⟩ := h
  refine A_ist (pc2 := 156) 32 (dk D_X13_readTry 89 rfl) rfl (by decide) rfl (by decide) rfl rfl h16 ?_
  have h := h _ rfl
  refine A_p (fun T Q _ _ k => V_aload_n (pc2 := 157) (dk D_X13_readTry 90 rfl) rfl (V_lg 0 rfl) rfl k) ?_
  refine A_ar (pc2 := 160) (a := 26) 33 (dk D_X13_readTry 91 rfl) fl_13_140 (by decide) (by decide) rfl (fun _ => rfl) rfl ?_
  refine A_p (fun T Q _ _ k => V_iload (pc2 := 162) (dk D_X13_readTry 92 rfl) (V_lg 6 rfl) rfl k) ?_
  refine A_p (fun T Q _ _ k => V_aload_n (pc2 := 163) (dk D_X13_readTry 93 rfl) rfl (V_lg 0 rfl) rfl k) ?_
  refine A_sc (pc2 := 166) 35 (dk D_X13_readTry 94 rfl) fl_13_389 (by decide) rfl (fun _ => rfl) rfl ?_
  obtain ⟨h18, h⟩ := h
  refine A_ist (pc2 := 167) 33 (dk D_X13_readTry 95 rfl) rfl (by decide) rfl (by decide) rfl rfl h18 ?_
  have h := h _ rfl
  refine A_p (fun T Q _ _ k => V_aload_n (pc2 := 168) (dk D_X13_readTry 96 rfl) rfl (V_lg 0 rfl) rfl k) ?_
  refine A_ar (pc2 := 171) (a := 32) 45 (dk D_X13_readTry 97 rfl) fl_13_158 (by decide) (by decide) rfl (fun _ => rfl) rfl ?_
  refine A_p (fun T Q _ _ k => V_iload (pc2 := 173) (dk D_X13_readTry 98 rfl) (V_lg 6 rfl) rfl k) ?_
  refine A_p (fun T Q _ _ k => V_iload_n (pc2 := 174) (dk D_X13_readTry 99 rfl) rfl (V_lg 1 rfl) rfl k) ?_
  obtain ⟨h20, h⟩ := h
  refine A_ist (pc2 := 175) 45 (dk D_X13_readTry 100 rfl) rfl (by decide) rfl (by decide) rfl rfl h20 ?_
  have h := h _ rfl
  refine A_p (fun T Q _ _ k => V_aload_n (pc2 := 176) (dk D_X13_readTry 101 rfl) rfl (V_lg 0 rfl) rfl k) ?_
  refine A_p (fun T Q _ _ k => V_dup (pc2 := 177) (dk D_X13_readTry 102 rfl) rfl rfl k) ?_
  refine A_sc (pc2 := 180) 35 (dk D_X13_readTry 103 rfl) fl_13_389 (by decide) rfl (fun _ => rfl) rfl ?_
  refine A_p (fun T Q _ _ k => V_iconst (x := 1) (pc2 := 181) (dk D_X13_readTry 104 rfl) (by decide) rfl k) ?_
  refine A_p (fun T Q _ _ k => V_iadd (pc2 := 182) (dk D_X13_readTry 105 rfl) rfl k) ?_
  refine A_put (pc2 := 185) 35 (dk D_X13_readTry 106 rfl) fl_13_389 (by decide) rfl rfl rfl rfl ?_
  have h := h _ rfl
  refine A_p (fun T Q _ _ k => V_aload_n (pc2 := 186) (dk D_X13_readTry 107 rfl) rfl (V_lg 0 rfl) rfl k) ?_
  obtain ⟨e23, he24, hc25⟩ := h
  refine A_callT (st := []) (pc2 := 189) (fun T Q Qc L hc k => V_callST (as := [_]) (st := []) (M' := MX13_readBlock) (pc2 := 189) (dk D_X13_readTry 108 rfl) ml_13_383 mv_X13_readBlock rfl rfl (Nat.le_of_ble_eq_true rfl) rfl (by decide) he24 hc k) hc25 (aTV.k fun  s26 h => ?_)
  refine A_p (fun T Q _ _ k => V_aload_n (pc2 := 190) (dk D_X13_readTry 109 rfl) rfl (V_lg 0 rfl) rfl k) ?_
  refine A_p (fun T Q _ _ k => V_dup (pc2 := 191) (dk D_X13_readTry 110 rfl) rfl rfl k) ?_
  refine A_sc (pc2 := 194) 35 (dk D_X13_readTry 111 rfl) fl_13_389 (by decide) rfl (fun _ => rfl) rfl ?_
  refine A_p (fun T Q _ _ k => V_iconst (x := 1) (pc2 := 195) (dk D_X13_readTry 112 rfl) (by decide) rfl k) ?_
  refine A_p (fun T Q _ _ k => V_isub (pc2 := 196) (dk D_X13_readTry 113 rfl) rfl k) ?_
  refine A_put (pc2 := 199) 35 (dk D_X13_readTry 114 rfl) fl_13_389 (by decide) rfl rfl rfl rfl ?_
  have h := h _ rfl
  refine A_p (fun T Q _ _ k => V_aload_n (pc2 := 200) (dk D_X13_readTry 115 rfl) rfl (V_lg 0 rfl) rfl k) ?_
  refine A_p (fun T Q _ _ k => V_bipush (x := 29) (pc2 := 202) (dk D_X13_readTry 116 rfl) (by decide) rfl k) ?_
  refine A_p (fun T Q _ _ k => V_iload_n (pc2 := 203) (dk D_X13_readTry 117 rfl) rfl (V_lg 1 rfl) rfl k) ?_
  refine A_p (fun T Q _ _ k => V_iconst (x := 0) (pc2 := 204) (dk D_X13_readTry 118 rfl) (by decide) rfl k) ?_
  obtain ⟨e28, he29, hc30⟩ := h
  refine A_call (st := []) (pc2 := 207) (fun T Q Qc L hc k => V_callV (as := [_, _, _]) (st := []) (M' := MX13_emit) (ci := 13) (pc2 := 207) (dk D_X13_readTry 119 rfl) ml_13_373 mv_X13_emit rfl rfl (by decide) rfl (Nat.le_of_ble_eq_true rfl) rfl he29 L.2.1 hc k) hc30 (aRI.k fun y31 s32 h => ?_)
  refine A_p (fun T Q _ _ k => V_istore_n (pc2 := 208) (lv2 := [(0, _), (1, _), (2, _), (3, _), (4, _), (5, _), (6, _)]) (dk D_X13_readTry 120 rfl) rfl (by decide) rfl rfl k) ?_
  refine A_p (fun T Q _ _ k => V_goto (tgt := 57) (dk D_X13_readTry 121 rfl) (by decide) k) ?_
  refine A_p (fun T Q _ _ k => V_pick [0, 1, 2, 3] (lv2 := [(0, _), (1, _), (2, _), (3, _)]) rfl k) ?_
  exact h
theorem a_readTry_255 {X : Cx} {b d : Nat} {σ : Rm} {Q : Res → Rm → Prop} (x1 : Int32) (x2 : Int32) (x3 : Int32) (h : ((x3 = 0 → (vp_in (sI σ 10) 3002) ∧ ∃ e3 : Nat, e3 + 1 ≤ d ∧ AC X b e3 MX13_fail [vR b, vI (aI σ 6 ((sI σ 10) : Int32).toNatClampNeg)] σ (aTV Q fun  s6 => A X b d MX13_readTry 272 [(0, vR b), (1, vI x1), (2, vI x2), (3, vI x3)] [] s6 Q)) ∧ (¬ x3 = 0 → A X b d MX13_readTry 272 [(0, vR b), (1, vI x1), (2, vI x2), (3, vI x3)] [] σ Q))) : A X b d MX13_readTry 255 [(0, vR b), (1, vI x1), (2, vI x2), (3, vI x3)] [] σ Q := by
  refine A_p (fun T Q _ _ k => V_iload_n (pc2 := 256) (dk D_X13_readTry 148 rfl) rfl (V_lg 3 rfl) rfl k) ?_
  refine A_if (pa := 259) (pb := 272) (fun T Q k1 k2 => V_ifne (tgt := 272) (pc2 := 259) (dk D_X13_readTry 149 rfl) (by decide) rfl (fun q => k2 q) (fun q => k1 q)) (fun q1 => ?_) (fun q1 => ?_)
  · have h := h.1 q1
    refine A_p (fun T Q _ _ k => V_aload_n (pc2 := 260) (dk D_X13_readTry 150 rfl) rfl (V_lg 0 rfl) rfl k) ?_
    refine A_p (fun T Q _ _ k => V_aload_n (pc2 := 261) (dk D_X13_readTry 151 rfl) rfl (V_lg 0 rfl) rfl k) ?_
    refine A_ar (pc2 := 264) (a := 5) 6 (dk D_X13_readTry 152 rfl) fl_13_27 (by decide) (by decide) rfl (fun _ => rfl) rfl ?_
    refine A_p (fun T Q _ _ k => V_aload_n (pc2 := 265) (dk D_X13_readTry 153 rfl) rfl (V_lg 0 rfl) rfl k) ?_
    refine A_sc (pc2 := 268) 10 (dk D_X13_readTry 154 rfl) fl_13_331 (by decide) rfl (fun _ => rfl) rfl ?_
    obtain ⟨h2, h⟩ := h
    refine A_ild (pc2 := 269) 6 (dk D_X13_readTry 155 rfl) rfl (by decide) rfl (by decide) rfl rfl h2 ?_
    obtain ⟨e3, he4, hc5⟩ := h
    refine A_callT (st := []) (pc2 := 272) (fun T Q Qc L hc k => V_callVT (as := [_]) (st := []) (M' := MX13_fail) (ci := 13) (pc2 := 272) (dk D_X13_readTry 156 rfl) ml_13_337 mv_X13_fail rfl rfl (by decide) rfl (Nat.le_of_ble_eq_true rfl) rfl (by decide) he4 L.2.1 hc k) hc5 (aTV.k fun  s6 h => ?_)
    exact h
  · have h := h.2 q1
    exact h
theorem a_readTry_272 {X : Cx} {b d : Nat} {σ : Rm} {Q : Res → Rm → Prop} (x1 : Int32) (x2 : Int32) (x3 : Int32) (h : (vp_in x1 1000) ∧ ∀ s2 : Rm, s2 = wI σ 28 ((x1 : Int32).toNatClampNeg) (sI σ 17) → Q (.inl none) s2) : A X b d MX13_readTry 272 [(0, vR b), (1, vI x1), (2, vI x2), (3, vI x3)] [] σ Q := by
  refine A_p (fun T Q _ _ k => V_aload_n (pc2 := 273) (dk D_X13_readTry 157 rfl) rfl (V_lg 0 rfl) rfl k) ?_
  refine A_ar (pc2 := 276) (a := 22) 28 (dk D_X13_readTry 158 rfl) fl_13_128 (by decide) (by decide) rfl (fun _ => rfl) rfl ?_
  refine A_p (fun T Q _ _ k => V_iload_n (pc2 := 277) (dk D_X13_readTry 159 rfl) rfl (V_lg 1 rfl) rfl k) ?_
  refine A_p (fun T Q _ _ k => V_aload_n (pc2 := 278) (dk D_X13_readTry 160 rfl) rfl (V_lg 0 rfl) rfl k) ?_
  refine A_sc (pc2 := 281) 17 (dk D_X13_readTry 161 rfl) fl_13_351 (by decide) rfl (fun _ => rfl) rfl ?_
  obtain ⟨h1, h⟩ := h
  refine A_ist (pc2 := 282) 28 (dk D_X13_readTry 162 rfl) rfl (by decide) rfl (by decide) rfl rfl h1 ?_
  have h := h _ rfl
  exact A_ret (fun T Q _ k => V_return (dk D_X13_readTry 163 rfl) rfl k) h
theorem a_readE_0 {X : Cx} {b d : Nat} {σ : Rm} {Q : Res → Rm → Prop}  (h : ∃ e1 : Nat, e1 + 1 ≤ d ∧ AC X b e1 MX13_readS [vR b] σ (aTV Q fun  s4 => ∃ e5 : Nat, e5 + 1 ≤ d ∧ AC X b e5 MX13_isSign [vR b, vI 60] s4 (aRI fun y8 s9 => ((y8 = 0 → (vp_in (sI s9 10) 3002) ∧ (((aI s9 5 ((sI s9 10) : Int32).toNatClampNeg) = 5 → A X b d MX13_readE 26 [(0, vR b)] [] s9 Q) ∧ (¬ (aI s9 5 ((sI s9 10) : Int32).toNatClampNeg) = 5 → A X b d MX13_readE 65 [(0, vR b)] [] s9 Q))) ∧ (¬ y8 = 0 → A X b d MX13_readE 26 [(0, vR b)] [] s9 Q))))) : A X b d MX13_readE 0 [(0, vR b)] [] σ Q := by
  refine A_p (fun T Q _ _ k => V_aload_n (pc2 := 1) (dk D_X13_readE 0 rfl) rfl (V_lg 0 rfl) rfl k) ?_
  obtain ⟨e1, he2, hc3⟩ := h
  refine A_callT (st := []) (pc2 := 4) (fun T Q Qc L hc k => V_callST (as := [_]) (st := []) (M' := MX13_readS) (pc2 := 4) (dk D_X13_readE 1 rfl) ml_13_419 mv_X13_readS rfl rfl (Nat.le_of_ble_eq_true rfl) rfl (by decide) he2 hc k) hc3 (aTV.k fun  s4 h => ?_)
  refine A_p (fun T Q _ _ k => V_aload_n (pc2 := 5) (dk D_X13_readE 2 rfl) rfl (V_lg 0 rfl) rfl k) ?_
  refine A_p (fun T Q _ _ k => V_bipush (x := 60) (pc2 := 7) (dk D_X13_readE 3 rfl) (by decide) rfl k) ?_
  obtain ⟨e5, he6, hc7⟩ := h
  refine A_call (st := []) (pc2 := 10) (fun T Q Qc L hc k => V_callV (as := [_]) (st := []) (M' := MX13_isSign) (ci := 13) (pc2 := 10) (dk D_X13_readE 4 rfl) ml_13_334 mv_X13_isSign rfl rfl (by decide) rfl (Nat.le_of_ble_eq_true rfl) rfl he6 L.2.1 hc k) hc7 (aRI.k fun y8 s9 h => ?_)
  refine A_if (pa := 13) (pb := 26) (fun T Q k1 k2 => V_ifne (tgt := 26) (pc2 := 13) (dk D_X13_readE 5 rfl) (by decide) rfl (fun q => k2 q) (fun q => k1 q)) (fun q10 => ?_) (fun q10 => ?_)
  · have h := h.1 q10
    refine A_p (fun T Q _ _ k => V_aload_n (pc2 := 14) (dk D_X13_readE 6 rfl) rfl (V_lg 0 rfl) rfl k) ?_
    refine A_ar (pc2 := 17) (a := 4) 5 (dk D_X13_readE 7 rfl) fl_13_23 (by decide) (by decide) rfl (fun _ => rfl) rfl ?_
    refine A_p (fun T Q _ _ k => V_aload_n (pc2 := 18) (dk D_X13_readE 8 rfl) rfl (V_lg 0 rfl) rfl k) ?_
    refine A_sc (pc2 := 21) 10 (dk D_X13_readE 9 rfl) fl_13_331 (by decide) rfl (fun _ => rfl) rfl ?_
    obtain ⟨h11, h⟩ := h
    refine A_ild (pc2 := 22) 5 (dk D_X13_readE 10 rfl) rfl (by decide) rfl (by decide) rfl rfl h11 ?_
    refine A_p (fun T Q _ _ k => V_iconst (x := 5) (pc2 := 23) (dk D_X13_readE 11 rfl) (by decide) rfl k) ?_
    refine A_if (pa := 26) (pb := 65) (fun T Q k1 k2 => V_cmpne (tgt := 65) (pc2 := 26) (dk D_X13_readE 12 rfl) (by decide) rfl (fun q => k2 q) (fun q => k1 q)) (fun q12 => ?_) (fun q12 => ?_)
    · have h := h.1 q12
      exact h
    · have h := h.2 q12
      exact h
  · have h := h.2 q10
    exact h
theorem a_readE_26 {X : Cx} {b d : Nat} {σ : Rm} {Q : Res → Rm → Prop}  (h : ∃ e1 : Nat, e1 + 1 ≤ d ∧ AC X b e1 MX13_isSign [vR b, vI 60] σ (aRI fun y4 s5 => ((y4 = 0 → A X b d MX13_readE 42 [(0, vR b)] [vI 10] s5 Q) ∧ (¬ y4 = 0 → A X b d MX13_readE 42 [(0, vR b)] [vI 9] s5 Q)))) : A X b d MX13_readE 26 [(0, vR b)] [] σ Q := by
  refine A_p (fun T Q _ _ k => V_aload_n (pc2 := 27) (dk D_X13_readE 13 rfl) rfl (V_lg 0 rfl) rfl k) ?_
  refine A_p (fun T Q _ _ k => V_bipush (x := 60) (pc2 := 29) (dk D_X13_readE 14 rfl) (by decide) rfl k) ?_
  obtain ⟨e1, he2, hc3⟩ := h
  refine A_call (st := []) (pc2 := 32) (fun T Q Qc L hc k => V_callV (as := [_]) (st := []) (M' := MX13_isSign) (ci := 13) (pc2 := 32) (dk D_X13_readE 15 rfl) ml_13_334 mv_X13_isSign rfl rfl (by decide) rfl (Nat.le_of_ble_eq_true rfl) rfl he2 L.2.1 hc k) hc3 (aRI.k fun y4 s5 h => ?_)
  refine A_if (pa := 40) (pb := 35) (fun T Q k1 k2 => V_ifeq (tgt := 40) (pc2 := 35) (dk D_X13_readE 16 rfl) (by decide) rfl (fun q => k1 q) (fun q => k2 q)) (fun q6 => ?_) (fun q6 => ?_)
  · have h := h.1 q6
    refine A_p (fun T Q _ _ k => V_bipush (x := 10) (pc2 := 42) (dk D_X13_readE 19 rfl) (by decide) rfl k) ?_
    exact h
  · have h := h.2 q6
    refine A_p (fun T Q _ _ k => V_bipush (x := 9) (pc2 := 37) (dk D_X13_readE 17 rfl) (by decide) rfl k) ?_
    refine A_p (fun T Q _ _ k => V_goto (tgt := 42) (dk D_X13_readE 18 rfl) (by decide) k) ?_
    exact h
theorem a_readE_42 {X : Cx} {b d : Nat} {σ : Rm} {Q : Res → Rm → Prop} (t0 : Int32) (h : ∀ s1 : Rm, s1 = wS σ 10 ((sI σ 10) + 1) → ∃ e2 : Nat, e2 + 1 ≤ d ∧ AC X b e2 MX13_readS [vR b] s1 (aTV Q fun  s5 => ∃ e6 : Nat, e6 + 1 ≤ d ∧ AC X b e6 MX13_emit [vR b, vI t0, vI 0, vI 0] s5 (aRI fun y9 s10 => A X b d MX13_readE 65 [(0, vR b)] [] s10 Q))) : A X b d MX13_readE 42 [(0, vR b)] [vI t0] σ Q := by
  refine A_p (fun T Q _ _ k => V_istore_n (pc2 := 43) (lv2 := [(0, _), (1, _)]) (dk D_X13_readE 20 rfl) rfl (by decide) rfl rfl k) ?_
  refine A_p (fun T Q _ _ k => V_aload_n (pc2 := 44) (dk D_X13_readE 21 rfl) rfl (V_lg 0 rfl) rfl k) ?_
  refine A_p (fun T Q _ _ k => V_dup (pc2 := 45) (dk D_X13_readE 22 rfl) rfl rfl k) ?_
  refine A_sc (pc2 := 48) 10 (dk D_X13_readE 23 rfl) fl_13_331 (by decide) rfl (fun _ => rfl) rfl ?_
  refine A_p (fun T Q _ _ k => V_iconst (x := 1) (pc2 := 49) (dk D_X13_readE 24 rfl) (by decide) rfl k) ?_
  refine A_p (fun T Q _ _ k => V_iadd (pc2 := 50) (dk D_X13_readE 25 rfl) rfl k) ?_
  refine A_put (pc2 := 53) 10 (dk D_X13_readE 26 rfl) fl_13_331 (by decide) rfl rfl rfl rfl ?_
  have h := h _ rfl
  refine A_p (fun T Q _ _ k => V_aload_n (pc2 := 54) (dk D_X13_readE 27 rfl) rfl (V_lg 0 rfl) rfl k) ?_
  obtain ⟨e2, he3, hc4⟩ := h
  refine A_callT (st := []) (pc2 := 57) (fun T Q Qc L hc k => V_callST (as := [_]) (st := []) (M' := MX13_readS) (pc2 := 57) (dk D_X13_readE 28 rfl) ml_13_419 mv_X13_readS rfl rfl (Nat.le_of_ble_eq_true rfl) rfl (by decide) he3 hc k) hc4 (aTV.k fun  s5 h => ?_)
  refine A_p (fun T Q _ _ k => V_aload_n (pc2 := 58) (dk D_X13_readE 29 rfl) rfl (V_lg 0 rfl) rfl k) ?_
  refine A_p (fun T Q _ _ k => V_iload_n (pc2 := 59) (dk D_X13_readE 30 rfl) rfl (V_lg 1 rfl) rfl k) ?_
  refine A_p (fun T Q _ _ k => V_iconst (x := 0) (pc2 := 60) (dk D_X13_readE 31 rfl) (by decide) rfl k) ?_
  refine A_p (fun T Q _ _ k => V_iconst (x := 0) (pc2 := 61) (dk D_X13_readE 32 rfl) (by decide) rfl k) ?_
  obtain ⟨e6, he7, hc8⟩ := h
  refine A_call (st := []) (pc2 := 64) (fun T Q Qc L hc k => V_callV (as := [_, _, _]) (st := []) (M' := MX13_emit) (ci := 13) (pc2 := 64) (dk D_X13_readE 33 rfl) ml_13_373 mv_X13_emit rfl rfl (by decide) rfl (Nat.le_of_ble_eq_true rfl) rfl he7 L.2.1 hc k) hc8 (aRI.k fun y9 s10 h => ?_)
  refine A_p (fun T Q _ _ k => V_istore_n (pc2 := 65) (lv2 := [(0, _), (1, _), (2, _)]) (dk D_X13_readE 34 rfl) rfl (by decide) rfl rfl k) ?_
  refine A_p (fun T Q _ _ k => V_pick [0] (lv2 := [(0, _)]) rfl k) ?_
  exact h
theorem a_readE_65 {X : Cx} {b d : Nat} {σ : Rm} {Q : Res → Rm → Prop}  (h : Q (.inl none) σ) : A X b d MX13_readE 65 [(0, vR b)] [] σ Q := by
  exact A_ret (fun T Q _ k => V_return (dk D_X13_readE 35 rfl) rfl k) h
theorem a_readS_0 {X : Cx} {b d : Nat} {σ : Rm} {Q : Res → Rm → Prop}  (h : ∃ e1 : Nat, e1 + 1 ≤ d ∧ AC X b e1 MX13_readT [vR b] σ (aTV Q fun  s4 => A X b d MX13_readS 4 [(0, vR b)] [] s4 Q)) : A X b d MX13_readS 0 [(0, vR b)] [] σ Q := by
  refine A_p (fun T Q _ _ k => V_aload_n (pc2 := 1) (dk D_X13_readS 0 rfl) rfl (V_lg 0 rfl) rfl k) ?_
  obtain ⟨e1, he2, hc3⟩ := h
  refine A_callT (st := []) (pc2 := 4) (fun T Q Qc L hc k => V_callST (as := [_]) (st := []) (M' := MX13_readT) (pc2 := 4) (dk D_X13_readS 1 rfl) ml_13_422 mv_X13_readT rfl rfl (Nat.le_of_ble_eq_true rfl) rfl (by decide) he2 hc k) hc3 (aTV.k fun  s4 h => ?_)
  exact h
theorem a_readS_4 {X : Cx} {b d : Nat} {σ : Rm} {Q : Res → Rm → Prop}  (h : ∃ e1 : Nat, e1 + 1 ≤ d ∧ AC X b e1 MX13_isSign [vR b, vI 43] σ (aRI fun y4 s5 => ((y4 = 0 → ∃ e7 : Nat, e7 + 1 ≤ d ∧ AC X b e7 MX13_isSign [vR b, vI 45] s5 (aRI fun y10 s11 => ((y10 = 0 → Q (.inl none) s11) ∧ (¬ y10 = 0 → A X b d MX13_readS 22 [(0, vR b)] [] s11 Q)))) ∧ (¬ y4 = 0 → A X b d MX13_readS 22 [(0, vR b)] [] s5 Q)))) : A X b d MX13_readS 4 [(0, vR b)] [] σ Q := by
  refine A_p (fun T Q _ _ k => V_aload_n (pc2 := 5) (dk D_X13_readS 2 rfl) rfl (V_lg 0 rfl) rfl k) ?_
  refine A_p (fun T Q _ _ k => V_bipush (x := 43) (pc2 := 7) (dk D_X13_readS 3 rfl) (by decide) rfl k) ?_
  obtain ⟨e1, he2, hc3⟩ := h
  refine A_call (st := []) (pc2 := 10) (fun T Q Qc L hc k => V_callV (as := [_]) (st := []) (M' := MX13_isSign) (ci := 13) (pc2 := 10) (dk D_X13_readS 4 rfl) ml_13_334 mv_X13_isSign rfl rfl (by decide) rfl (Nat.le_of_ble_eq_true rfl) rfl he2 L.2.1 hc k) hc3 (aRI.k fun y4 s5 h => ?_)
  refine A_if (pa := 13) (pb := 22) (fun T Q k1 k2 => V_ifne (tgt := 22) (pc2 := 13) (dk D_X13_readS 5 rfl) (by decide) rfl (fun q => k2 q) (fun q => k1 q)) (fun q6 => ?_) (fun q6 => ?_)
  · have h := h.1 q6
    refine A_p (fun T Q _ _ k => V_aload_n (pc2 := 14) (dk D_X13_readS 6 rfl) rfl (V_lg 0 rfl) rfl k) ?_
    refine A_p (fun T Q _ _ k => V_bipush (x := 45) (pc2 := 16) (dk D_X13_readS 7 rfl) (by decide) rfl k) ?_
    obtain ⟨e7, he8, hc9⟩ := h
    refine A_call (st := []) (pc2 := 19) (fun T Q Qc L hc k => V_callV (as := [_]) (st := []) (M' := MX13_isSign) (ci := 13) (pc2 := 19) (dk D_X13_readS 8 rfl) ml_13_334 mv_X13_isSign rfl rfl (by decide) rfl (Nat.le_of_ble_eq_true rfl) rfl he8 L.2.1 hc k) hc9 (aRI.k fun y10 s11 h => ?_)
    refine A_if (pa := 62) (pb := 22) (fun T Q k1 k2 => V_ifeq (tgt := 62) (pc2 := 22) (dk D_X13_readS 9 rfl) (by decide) rfl (fun q => k1 q) (fun q => k2 q)) (fun q12 => ?_) (fun q12 => ?_)
    · have h := h.1 q12
      exact A_ret (fun T Q _ k => V_return (dk D_X13_readS 33 rfl) rfl k) h
    · have h := h.2 q12
      exact h
  · have h := h.2 q6
    exact h
theorem a_readS_22 {X : Cx} {b d : Nat} {σ : Rm} {Q : Res → Rm → Prop}  (h : ∃ e1 : Nat, e1 + 1 ≤ d ∧ AC X b e1 MX13_isSign [vR b, vI 43] σ (aRI fun y4 s5 => ((y4 = 0 → A X b d MX13_readS 36 [(0, vR b)] [vI 5] s5 Q) ∧ (¬ y4 = 0 → A X b d MX13_readS 36 [(0, vR b)] [vI 4] s5 Q)))) : A X b d MX13_readS 22 [(0, vR b)] [] σ Q := by
  refine A_p (fun T Q _ _ k => V_aload_n (pc2 := 23) (dk D_X13_readS 10 rfl) rfl (V_lg 0 rfl) rfl k) ?_
  refine A_p (fun T Q _ _ k => V_bipush (x := 43) (pc2 := 25) (dk D_X13_readS 11 rfl) (by decide) rfl k) ?_
  obtain ⟨e1, he2, hc3⟩ := h
  refine A_call (st := []) (pc2 := 28) (fun T Q Qc L hc k => V_callV (as := [_]) (st := []) (M' := MX13_isSign) (ci := 13) (pc2 := 28) (dk D_X13_readS 12 rfl) ml_13_334 mv_X13_isSign rfl rfl (by decide) rfl (Nat.le_of_ble_eq_true rfl) rfl he2 L.2.1 hc k) hc3 (aRI.k fun y4 s5 h => ?_)
  refine A_if (pa := 35) (pb := 31) (fun T Q k1 k2 => V_ifeq (tgt := 35) (pc2 := 31) (dk D_X13_readS 13 rfl) (by decide) rfl (fun q => k1 q) (fun q => k2 q)) (fun q6 => ?_) (fun q6 => ?_)
  · have h := h.1 q6
    refine A_p (fun T Q _ _ k => V_iconst (x := 5) (pc2 := 36) (dk D_X13_readS 16 rfl) (by decide) rfl k) ?_
    exact h
  · have h := h.2 q6
    refine A_p (fun T Q _ _ k => V_iconst (x := 4) (pc2 := 32) (dk D_X13_readS 14 rfl) (by decide) rfl k) ?_
    refine A_p (fun T Q _ _ k => V_goto (tgt := 36) (dk D_X13_readS 15 rfl) (by decide) k) ?_
    exact h
theorem a_readS_36 {X : Cx} {b d : Nat} {σ : Rm} {Q : Res → Rm → Prop} (t0 : Int32) (h : ∀ s1 : Rm, s1 = wS σ 10 ((sI σ 10) + 1) → ∃ e2 : Nat, e2 + 1 ≤ d ∧ AC X b e2 MX13_readT [vR b] s1 (aTV Q fun  s5 => ∃ e6 : Nat, e6 + 1 ≤ d ∧ AC X b e6 MX13_emit [vR b, vI t0, vI 0, vI 0] s5 (aRI fun y9 s10 => A X b d MX13_readS 4 [(0, vR b)] [] s10 Q))) : A X b d MX13_readS 36 [(0, vR b)] [vI t0] σ Q := by
  refine A_p (fun T Q _ _ k => V_istore_n (pc2 := 37) (lv2 := [(0, _), (1, _)]) (dk D_X13_readS 17 rfl) rfl (by decide) rfl rfl k) ?_
  refine A_p (fun T Q _ _ k => V_aload_n (pc2 := 38) (dk D_X13_readS 18 rfl) rfl (V_lg 0 rfl) rfl k) ?_
  refine A_p (fun T Q _ _ k => V_dup (pc2 := 39) (dk D_X13_readS 19 rfl) rfl rfl k) ?_
  refine A_sc (pc2 := 42) 10 (dk D_X13_readS 20 rfl) fl_13_331 (by decide) rfl (fun _ => rfl) rfl ?_
  refine A_p (fun T Q _ _ k => V_iconst (x := 1) (pc2 := 43) (dk D_X13_readS 21 rfl) (by decide) rfl k) ?_
  refine A_p (fun T Q _ _ k => V_iadd (pc2 := 44) (dk D_X13_readS 22 rfl) rfl k) ?_
  refine A_put (pc2 := 47) 10 (dk D_X13_readS 23 rfl) fl_13_331 (by decide) rfl rfl rfl rfl ?_
  have h := h _ rfl
  refine A_p (fun T Q _ _ k => V_aload_n (pc2 := 48) (dk D_X13_readS 24 rfl) rfl (V_lg 0 rfl) rfl k) ?_
  obtain ⟨e2, he3, hc4⟩ := h
  refine A_callT (st := []) (pc2 := 51) (fun T Q Qc L hc k => V_callST (as := [_]) (st := []) (M' := MX13_readT) (pc2 := 51) (dk D_X13_readS 25 rfl) ml_13_422 mv_X13_readT rfl rfl (Nat.le_of_ble_eq_true rfl) rfl (by decide) he3 hc k) hc4 (aTV.k fun  s5 h => ?_)
  refine A_p (fun T Q _ _ k => V_aload_n (pc2 := 52) (dk D_X13_readS 26 rfl) rfl (V_lg 0 rfl) rfl k) ?_
  refine A_p (fun T Q _ _ k => V_iload_n (pc2 := 53) (dk D_X13_readS 27 rfl) rfl (V_lg 1 rfl) rfl k) ?_
  refine A_p (fun T Q _ _ k => V_iconst (x := 0) (pc2 := 54) (dk D_X13_readS 28 rfl) (by decide) rfl k) ?_
  refine A_p (fun T Q _ _ k => V_iconst (x := 0) (pc2 := 55) (dk D_X13_readS 29 rfl) (by decide) rfl k) ?_
  obtain ⟨e6, he7, hc8⟩ := h
  refine A_call (st := []) (pc2 := 58) (fun T Q Qc L hc k => V_callV (as := [_, _, _]) (st := []) (M' := MX13_emit) (ci := 13) (pc2 := 58) (dk D_X13_readS 30 rfl) ml_13_373 mv_X13_emit rfl rfl (by decide) rfl (Nat.le_of_ble_eq_true rfl) rfl he7 L.2.1 hc k) hc8 (aRI.k fun y9 s10 h => ?_)
  refine A_p (fun T Q _ _ k => V_istore_n (pc2 := 59) (lv2 := [(0, _), (1, _), (2, _)]) (dk D_X13_readS 31 rfl) rfl (by decide) rfl rfl k) ?_
  refine A_p (fun T Q _ _ k => V_goto (tgt := 4) (dk D_X13_readS 32 rfl) (by decide) k) ?_
  refine A_p (fun T Q _ _ k => V_pick [0] (lv2 := [(0, _)]) rfl k) ?_
  exact h
theorem a_readT_0 {X : Cx} {b d : Nat} {σ : Rm} {Q : Res → Rm → Prop}  (h : ∃ e1 : Nat, e1 + 1 ≤ d ∧ AC X b e1 MX13_readU [vR b] σ (aTV Q fun  s4 => A X b d MX13_readT 4 [(0, vR b)] [] s4 Q)) : A X b d MX13_readT 0 [(0, vR b)] [] σ Q := by
  refine A_p (fun T Q _ _ k => V_aload_n (pc2 := 1) (dk D_X13_readT 0 rfl) rfl (V_lg 0 rfl) rfl k) ?_
  obtain ⟨e1, he2, hc3⟩ := h
  refine A_callT (st := []) (pc2 := 4) (fun T Q Qc L hc k => V_callST (as := [_]) (st := []) (M' := MX13_readU) (pc2 := 4) (dk D_X13_readT 1 rfl) ml_13_425 mv_X13_readU rfl rfl (Nat.le_of_ble_eq_true rfl) rfl (by decide) he2 hc k) hc3 (aTV.k fun  s4 h => ?_)
  exact h
theorem a_readT_4 {X : Cx} {b d : Nat} {σ : Rm} {Q : Res → Rm → Prop}  (h : ∃ e1 : Nat, e1 + 1 ≤ d ∧ AC X b e1 MX13_isSign [vR b, vI 42] σ (aRI fun y4 s5 => ((y4 = 0 → ∃ e7 : Nat, e7 + 1 ≤ d ∧ AC X b e7 MX13_isSign [vR b, vI 47] s5 (aRI fun y10 s11 => ((y10 = 0 → ∃ e13 : Nat, e13 + 1 ≤ d ∧ AC X b e13 MX13_isSign [vR b, vI 37] s11 (aRI fun y16 s17 => ((y16 = 0 → Q (.inl none) s17) ∧ (¬ y16 = 0 → A X b d MX13_readT 31 [(0, vR b)] [] s17 Q)))) ∧ (¬ y10 = 0 → A X b d MX13_readT 31 [(0, vR b)] [] s11 Q)))) ∧ (¬ y4 = 0 → A X b d MX13_readT 31 [(0, vR b)] [] s5 Q)))) : A X b d MX13_readT 4 [(0, vR b)] [] σ Q := by
  refine A_p (fun T Q _ _ k => V_aload_n (pc2 := 5) (dk D_X13_readT 2 rfl) rfl (V_lg 0 rfl) rfl k) ?_
  refine A_p (fun T Q _ _ k => V_bipush (x := 42) (pc2 := 7) (dk D_X13_readT 3 rfl) (by decide) rfl k) ?_
  obtain ⟨e1, he2, hc3⟩ := h
  refine A_call (st := []) (pc2 := 10) (fun T Q Qc L hc k => V_callV (as := [_]) (st := []) (M' := MX13_isSign) (ci := 13) (pc2 := 10) (dk D_X13_readT 4 rfl) ml_13_334 mv_X13_isSign rfl rfl (by decide) rfl (Nat.le_of_ble_eq_true rfl) rfl he2 L.2.1 hc k) hc3 (aRI.k fun y4 s5 h => ?_)
  refine A_if (pa := 13) (pb := 31) (fun T Q k1 k2 => V_ifne (tgt := 31) (pc2 := 13) (dk D_X13_readT 5 rfl) (by decide) rfl (fun q => k2 q) (fun q => k1 q)) (fun q6 => ?_) (fun q6 => ?_)
  · have h := h.1 q6
    refine A_p (fun T Q _ _ k => V_aload_n (pc2 := 14) (dk D_X13_readT 6 rfl) rfl (V_lg 0 rfl) rfl k) ?_
    refine A_p (fun T Q _ _ k => V_bipush (x := 47) (pc2 := 16) (dk D_X13_readT 7 rfl) (by decide) rfl k) ?_
    obtain ⟨e7, he8, hc9⟩ := h
    refine A_call (st := []) (pc2 := 19) (fun T Q Qc L hc k => V_callV (as := [_]) (st := []) (M' := MX13_isSign) (ci := 13) (pc2 := 19) (dk D_X13_readT 8 rfl) ml_13_334 mv_X13_isSign rfl rfl (by decide) rfl (Nat.le_of_ble_eq_true rfl) rfl he8 L.2.1 hc k) hc9 (aRI.k fun y10 s11 h => ?_)
    refine A_if (pa := 22) (pb := 31) (fun T Q k1 k2 => V_ifne (tgt := 31) (pc2 := 22) (dk D_X13_readT 9 rfl) (by decide) rfl (fun q => k2 q) (fun q => k1 q)) (fun q12 => ?_) (fun q12 => ?_)
    · have h := h.1 q12
      refine A_p (fun T Q _ _ k => V_aload_n (pc2 := 23) (dk D_X13_readT 10 rfl) rfl (V_lg 0 rfl) rfl k) ?_
      refine A_p (fun T Q _ _ k => V_bipush (x := 37) (pc2 := 25) (dk D_X13_readT 11 rfl) (by decide) rfl k) ?_
      obtain ⟨e13, he14, hc15⟩ := h
      refine A_call (st := []) (pc2 := 28) (fun T Q Qc L hc k => V_callV (as := [_]) (st := []) (M' := MX13_isSign) (ci := 13) (pc2 := 28) (dk D_X13_readT 12 rfl) ml_13_334 mv_X13_isSign rfl rfl (by decide) rfl (Nat.le_of_ble_eq_true rfl) rfl he14 L.2.1 hc k) hc15 (aRI.k fun y16 s17 h => ?_)
      refine A_if (pa := 87) (pb := 31) (fun T Q k1 k2 => V_ifeq (tgt := 87) (pc2 := 31) (dk D_X13_readT 13 rfl) (by decide) rfl (fun q => k1 q) (fun q => k2 q)) (fun q18 => ?_) (fun q18 => ?_)
      · have h := h.1 q18
        exact A_ret (fun T Q _ k => V_return (dk D_X13_readT 43 rfl) rfl k) h
      · have h := h.2 q18
        exact h
    · have h := h.2 q12
      exact h
  · have h := h.2 q6
    exact h
theorem a_readT_31 {X : Cx} {b d : Nat} {σ : Rm} {Q : Res → Rm → Prop}  (h : ∃ e1 : Nat, e1 + 1 ≤ d ∧ AC X b e1 MX13_isSign [vR b, vI 42] σ (aRI fun y4 s5 => ((y4 = 0 → ∃ e7 : Nat, e7 + 1 ≤ d ∧ AC X b e7 MX13_isSign [vR b, vI 47] s5 (aRI fun y10 s11 => ((y10 = 0 → A X b d MX13_readT 61 [(0, vR b)] [vI 8] s11 Q) ∧ (¬ y10 = 0 → A X b d MX13_readT 61 [(0, vR b)] [vI 7] s11 Q)))) ∧ (¬ y4 = 0 → A X b d MX13_readT 61 [(0, vR b)] [vI 6] s5 Q)))) : A X b d MX13_readT 31 [(0, vR b)] [] σ Q := by
  refine A_p (fun T Q _ _ k => V_aload_n (pc2 := 32) (dk D_X13_readT 14 rfl) rfl (V_lg 0 rfl) rfl k) ?_
  refine A_p (fun T Q _ _ k => V_bipush (x := 42) (pc2 := 34) (dk D_X13_readT 15 rfl) (by decide) rfl k) ?_
  obtain ⟨e1, he2, hc3⟩ := h
  refine A_call (st := []) (pc2 := 37) (fun T Q Qc L hc k => V_callV (as := [_]) (st := []) (M' := MX13_isSign) (ci := 13) (pc2 := 37) (dk D_X13_readT 16 rfl) ml_13_334 mv_X13_isSign rfl rfl (by decide) rfl (Nat.le_of_ble_eq_true rfl) rfl he2 L.2.1 hc k) hc3 (aRI.k fun y4 s5 h => ?_)
  refine A_if (pa := 45) (pb := 40) (fun T Q k1 k2 => V_ifeq (tgt := 45) (pc2 := 40) (dk D_X13_readT 17 rfl) (by decide) rfl (fun q => k1 q) (fun q => k2 q)) (fun q6 => ?_) (fun q6 => ?_)
  · have h := h.1 q6
    refine A_p (fun T Q _ _ k => V_aload_n (pc2 := 46) (dk D_X13_readT 20 rfl) rfl (V_lg 0 rfl) rfl k) ?_
    refine A_p (fun T Q _ _ k => V_bipush (x := 47) (pc2 := 48) (dk D_X13_readT 21 rfl) (by decide) rfl k) ?_
    obtain ⟨e7, he8, hc9⟩ := h
    refine A_call (st := []) (pc2 := 51) (fun T Q Qc L hc k => V_callV (as := [_]) (st := []) (M' := MX13_isSign) (ci := 13) (pc2 := 51) (dk D_X13_readT 22 rfl) ml_13_334 mv_X13_isSign rfl rfl (by decide) rfl (Nat.le_of_ble_eq_true rfl) rfl he8 L.2.1 hc k) hc9 (aRI.k fun y10 s11 h => ?_)
    refine A_if (pa := 59) (pb := 54) (fun T Q k1 k2 => V_ifeq (tgt := 59) (pc2 := 54) (dk D_X13_readT 23 rfl) (by decide) rfl (fun q => k1 q) (fun q => k2 q)) (fun q12 => ?_) (fun q12 => ?_)
    · have h := h.1 q12
      refine A_p (fun T Q _ _ k => V_bipush (x := 8) (pc2 := 61) (dk D_X13_readT 26 rfl) (by decide) rfl k) ?_
      exact h
    · have h := h.2 q12
      refine A_p (fun T Q _ _ k => V_bipush (x := 7) (pc2 := 56) (dk D_X13_readT 24 rfl) (by decide) rfl k) ?_
      refine A_p (fun T Q _ _ k => V_goto (tgt := 61) (dk D_X13_readT 25 rfl) (by decide) k) ?_
      exact h
  · have h := h.2 q6
    refine A_p (fun T Q _ _ k => V_bipush (x := 6) (pc2 := 42) (dk D_X13_readT 18 rfl) (by decide) rfl k) ?_
    refine A_p (fun T Q _ _ k => V_goto (tgt := 61) (dk D_X13_readT 19 rfl) (by decide) k) ?_
    exact h
theorem a_readT_61 {X : Cx} {b d : Nat} {σ : Rm} {Q : Res → Rm → Prop} (t0 : Int32) (h : ∀ s1 : Rm, s1 = wS σ 10 ((sI σ 10) + 1) → ∃ e2 : Nat, e2 + 1 ≤ d ∧ AC X b e2 MX13_readU [vR b] s1 (aTV Q fun  s5 => ∃ e6 : Nat, e6 + 1 ≤ d ∧ AC X b e6 MX13_emit [vR b, vI t0, vI 0, vI 0] s5 (aRI fun y9 s10 => A X b d MX13_readT 4 [(0, vR b)] [] s10 Q))) : A X b d MX13_readT 61 [(0, vR b)] [vI t0] σ Q := by
  refine A_p (fun T Q _ _ k => V_istore_n (pc2 := 62) (lv2 := [(0, _), (1, _)]) (dk D_X13_readT 27 rfl) rfl (by decide) rfl rfl k) ?_
  refine A_p (fun T Q _ _ k => V_aload_n (pc2 := 63) (dk D_X13_readT 28 rfl) rfl (V_lg 0 rfl) rfl k) ?_
  refine A_p (fun T Q _ _ k => V_dup (pc2 := 64) (dk D_X13_readT 29 rfl) rfl rfl k) ?_
  refine A_sc (pc2 := 67) 10 (dk D_X13_readT 30 rfl) fl_13_331 (by decide) rfl (fun _ => rfl) rfl ?_
  refine A_p (fun T Q _ _ k => V_iconst (x := 1) (pc2 := 68) (dk D_X13_readT 31 rfl) (by decide) rfl k) ?_
  refine A_p (fun T Q _ _ k => V_iadd (pc2 := 69) (dk D_X13_readT 32 rfl) rfl k) ?_
  refine A_put (pc2 := 72) 10 (dk D_X13_readT 33 rfl) fl_13_331 (by decide) rfl rfl rfl rfl ?_
  have h := h _ rfl
  refine A_p (fun T Q _ _ k => V_aload_n (pc2 := 73) (dk D_X13_readT 34 rfl) rfl (V_lg 0 rfl) rfl k) ?_
  obtain ⟨e2, he3, hc4⟩ := h
  refine A_callT (st := []) (pc2 := 76) (fun T Q Qc L hc k => V_callST (as := [_]) (st := []) (M' := MX13_readU) (pc2 := 76) (dk D_X13_readT 35 rfl) ml_13_425 mv_X13_readU rfl rfl (Nat.le_of_ble_eq_true rfl) rfl (by decide) he3 hc k) hc4 (aTV.k fun  s5 h => ?_)
  refine A_p (fun T Q _ _ k => V_aload_n (pc2 := 77) (dk D_X13_readT 36 rfl) rfl (V_lg 0 rfl) rfl k) ?_
  refine A_p (fun T Q _ _ k => V_iload_n (pc2 := 78) (dk D_X13_readT 37 rfl) rfl (V_lg 1 rfl) rfl k) ?_
  refine A_p (fun T Q _ _ k => V_iconst (x := 0) (pc2 := 79) (dk D_X13_readT 38 rfl) (by decide) rfl k) ?_
  refine A_p (fun T Q _ _ k => V_iconst (x := 0) (pc2 := 80) (dk D_X13_readT 39 rfl) (by decide) rfl k) ?_
  obtain ⟨e6, he7, hc8⟩ := h
  refine A_call (st := []) (pc2 := 83) (fun T Q Qc L hc k => V_callV (as := [_, _, _]) (st := []) (M' := MX13_emit) (ci := 13) (pc2 := 83) (dk D_X13_readT 40 rfl) ml_13_373 mv_X13_emit rfl rfl (by decide) rfl (Nat.le_of_ble_eq_true rfl) rfl he7 L.2.1 hc k) hc8 (aRI.k fun y9 s10 h => ?_)
  refine A_p (fun T Q _ _ k => V_istore_n (pc2 := 84) (lv2 := [(0, _), (1, _), (2, _)]) (dk D_X13_readT 41 rfl) rfl (by decide) rfl rfl k) ?_
  refine A_p (fun T Q _ _ k => V_goto (tgt := 4) (dk D_X13_readT 42 rfl) (by decide) k) ?_
  refine A_p (fun T Q _ _ k => V_pick [0] (lv2 := [(0, _)]) rfl k) ?_
  exact h
theorem a_readU_0 {X : Cx} {b d : Nat} {σ : Rm} {Q : Res → Rm → Prop}  (h : ∃ e1 : Nat, e1 + 1 ≤ d ∧ AC X b e1 MX13_isSign [vR b, vI 45] σ (aRI fun y4 s5 => ((y4 = 0 → ∃ e7 : Nat, e7 + 1 ≤ d ∧ AC X b e7 MX13_isSign [vR b, vI 33] s5 (aRI fun y10 s11 => ((y10 = 0 → ∃ e13 : Nat, e13 + 1 ≤ d ∧ AC X b e13 MX13_readP [vR b] s11 (aTV Q fun  s16 => A X b d MX13_readU 68 [(0, vR b)] [] s16 Q)) ∧ (¬ y10 = 0 → A X b d MX13_readU 18 [(0, vR b)] [] s11 Q)))) ∧ (¬ y4 = 0 → A X b d MX13_readU 18 [(0, vR b)] [] s5 Q)))) : A X b d MX13_readU 0 [(0, vR b)] [] σ Q := by
  refine A_p (fun T Q _ _ k => V_aload_n (pc2 := 1) (dk D_X13_readU 0 rfl) rfl (V_lg 0 rfl) rfl k) ?_
  refine A_p (fun T Q _ _ k => V_bipush (x := 45) (pc2 := 3) (dk D_X13_readU 1 rfl) (by decide) rfl k) ?_
  obtain ⟨e1, he2, hc3⟩ := h
  refine A_call (st := []) (pc2 := 6) (fun T Q Qc L hc k => V_callV (as := [_]) (st := []) (M' := MX13_isSign) (ci := 13) (pc2 := 6) (dk D_X13_readU 2 rfl) ml_13_334 mv_X13_isSign rfl rfl (by decide) rfl (Nat.le_of_ble_eq_true rfl) rfl he2 L.2.1 hc k) hc3 (aRI.k fun y4 s5 h => ?_)
  refine A_if (pa := 9) (pb := 18) (fun T Q k1 k2 => V_ifne (tgt := 18) (pc2 := 9) (dk D_X13_readU 3 rfl) (by decide) rfl (fun q => k2 q) (fun q => k1 q)) (fun q6 => ?_) (fun q6 => ?_)
  · have h := h.1 q6
    refine A_p (fun T Q _ _ k => V_aload_n (pc2 := 10) (dk D_X13_readU 4 rfl) rfl (V_lg 0 rfl) rfl k) ?_
    refine A_p (fun T Q _ _ k => V_bipush (x := 33) (pc2 := 12) (dk D_X13_readU 5 rfl) (by decide) rfl k) ?_
    obtain ⟨e7, he8, hc9⟩ := h
    refine A_call (st := []) (pc2 := 15) (fun T Q Qc L hc k => V_callV (as := [_]) (st := []) (M' := MX13_isSign) (ci := 13) (pc2 := 15) (dk D_X13_readU 6 rfl) ml_13_334 mv_X13_isSign rfl rfl (by decide) rfl (Nat.le_of_ble_eq_true rfl) rfl he8 L.2.1 hc k) hc9 (aRI.k fun y10 s11 h => ?_)
    refine A_if (pa := 64) (pb := 18) (fun T Q k1 k2 => V_ifeq (tgt := 64) (pc2 := 18) (dk D_X13_readU 7 rfl) (by decide) rfl (fun q => k1 q) (fun q => k2 q)) (fun q12 => ?_) (fun q12 => ?_)
    · have h := h.1 q12
      refine A_p (fun T Q _ _ k => V_aload_n (pc2 := 65) (dk D_X13_readU 33 rfl) rfl (V_lg 0 rfl) rfl k) ?_
      obtain ⟨e13, he14, hc15⟩ := h
      refine A_callT (st := []) (pc2 := 68) (fun T Q Qc L hc k => V_callST (as := [_]) (st := []) (M' := MX13_readP) (pc2 := 68) (dk D_X13_readU 34 rfl) ml_13_428 mv_X13_readP rfl rfl (Nat.le_of_ble_eq_true rfl) rfl (by decide) he14 hc k) hc15 (aTV.k fun  s16 h => ?_)
      exact h
    · have h := h.2 q12
      exact h
  · have h := h.2 q6
    exact h
theorem a_readU_18 {X : Cx} {b d : Nat} {σ : Rm} {Q : Res → Rm → Prop}  (h : ∃ e1 : Nat, e1 + 1 ≤ d ∧ AC X b e1 MX13_isSign [vR b, vI 45] σ (aRI fun y4 s5 => ((y4 = 0 → A X b d MX13_readU 34 [(0, vR b)] [vI 12] s5 Q) ∧ (¬ y4 = 0 → A X b d MX13_readU 34 [(0, vR b)] [vI 11] s5 Q)))) : A X b d MX13_readU 18 [(0, vR b)] [] σ Q := by
  refine A_p (fun T Q _ _ k => V_aload_n (pc2 := 19) (dk D_X13_readU 8 rfl) rfl (V_lg 0 rfl) rfl k) ?_
  refine A_p (fun T Q _ _ k => V_bipush (x := 45) (pc2 := 21) (dk D_X13_readU 9 rfl) (by decide) rfl k) ?_
  obtain ⟨e1, he2, hc3⟩ := h
  refine A_call (st := []) (pc2 := 24) (fun T Q Qc L hc k => V_callV (as := [_]) (st := []) (M' := MX13_isSign) (ci := 13) (pc2 := 24) (dk D_X13_readU 10 rfl) ml_13_334 mv_X13_isSign rfl rfl (by decide) rfl (Nat.le_of_ble_eq_true rfl) rfl he2 L.2.1 hc k) hc3 (aRI.k fun y4 s5 h => ?_)
  refine A_if (pa := 32) (pb := 27) (fun T Q k1 k2 => V_ifeq (tgt := 32) (pc2 := 27) (dk D_X13_readU 11 rfl) (by decide) rfl (fun q => k1 q) (fun q => k2 q)) (fun q6 => ?_) (fun q6 => ?_)
  · have h := h.1 q6
    refine A_p (fun T Q _ _ k => V_bipush (x := 12) (pc2 := 34) (dk D_X13_readU 14 rfl) (by decide) rfl k) ?_
    exact h
  · have h := h.2 q6
    refine A_p (fun T Q _ _ k => V_bipush (x := 11) (pc2 := 29) (dk D_X13_readU 12 rfl) (by decide) rfl k) ?_
    refine A_p (fun T Q _ _ k => V_goto (tgt := 34) (dk D_X13_readU 13 rfl) (by decide) k) ?_
    exact h
theorem a_readU_34 {X : Cx} {b d : Nat} {σ : Rm} {Q : Res → Rm → Prop} (t0 : Int32) (h : ∃ e1 : Nat, e1 + 1 ≤ d ∧ AC X b e1 MX13_opens [vR b] σ (aTV Q fun  s4 => ∃ e5 : Nat, e5 + 1 ≤ d ∧ AC X b e5 MX13_readU [vR b] s4 (aTV Q fun  s8 => ∀ s9 : Rm, s9 = wS s8 12 ((sI s8 12) - 1) → ∃ e10 : Nat, e10 + 1 ≤ d ∧ AC X b e10 MX13_emit [vR b, vI t0, vI 0, vI 0] s9 (aRI fun y13 s14 => A X b d MX13_readU 68 [(0, vR b)] [] s14 Q)))) : A X b d MX13_readU 34 [(0, vR b)] [vI t0] σ Q := by
  refine A_p (fun T Q _ _ k => V_istore_n (pc2 := 35) (lv2 := [(0, _), (1, _)]) (dk D_X13_readU 15 rfl) rfl (by decide) rfl rfl k) ?_
  refine A_p (fun T Q _ _ k => V_aload_n (pc2 := 36) (dk D_X13_readU 16 rfl) rfl (V_lg 0 rfl) rfl k) ?_
  obtain ⟨e1, he2, hc3⟩ := h
  refine A_callT (st := []) (pc2 := 39) (fun T Q Qc L hc k => V_callVT (as := []) (st := []) (M' := MX13_opens) (ci := 13) (pc2 := 39) (dk D_X13_readU 17 rfl) ml_13_363 mv_X13_opens rfl rfl (by decide) rfl (Nat.le_of_ble_eq_true rfl) rfl (by decide) he2 L.2.1 hc k) hc3 (aTV.k fun  s4 h => ?_)
  refine A_p (fun T Q _ _ k => V_aload_n (pc2 := 40) (dk D_X13_readU 18 rfl) rfl (V_lg 0 rfl) rfl k) ?_
  obtain ⟨e5, he6, hc7⟩ := h
  refine A_callT (st := []) (pc2 := 43) (fun T Q Qc L hc k => V_callST (as := [_]) (st := []) (M' := MX13_readU) (pc2 := 43) (dk D_X13_readU 19 rfl) ml_13_425 mv_X13_readU rfl rfl (Nat.le_of_ble_eq_true rfl) rfl (by decide) he6 hc k) hc7 (aTV.k fun  s8 h => ?_)
  refine A_p (fun T Q _ _ k => V_aload_n (pc2 := 44) (dk D_X13_readU 20 rfl) rfl (V_lg 0 rfl) rfl k) ?_
  refine A_p (fun T Q _ _ k => V_dup (pc2 := 45) (dk D_X13_readU 21 rfl) rfl rfl k) ?_
  refine A_sc (pc2 := 48) 12 (dk D_X13_readU 22 rfl) fl_13_345 (by decide) rfl (fun _ => rfl) rfl ?_
  refine A_p (fun T Q _ _ k => V_iconst (x := 1) (pc2 := 49) (dk D_X13_readU 23 rfl) (by decide) rfl k) ?_
  refine A_p (fun T Q _ _ k => V_isub (pc2 := 50) (dk D_X13_readU 24 rfl) rfl k) ?_
  refine A_put (pc2 := 53) 12 (dk D_X13_readU 25 rfl) fl_13_345 (by decide) rfl rfl rfl rfl ?_
  have h := h _ rfl
  refine A_p (fun T Q _ _ k => V_aload_n (pc2 := 54) (dk D_X13_readU 26 rfl) rfl (V_lg 0 rfl) rfl k) ?_
  refine A_p (fun T Q _ _ k => V_iload_n (pc2 := 55) (dk D_X13_readU 27 rfl) rfl (V_lg 1 rfl) rfl k) ?_
  refine A_p (fun T Q _ _ k => V_iconst (x := 0) (pc2 := 56) (dk D_X13_readU 28 rfl) (by decide) rfl k) ?_
  refine A_p (fun T Q _ _ k => V_iconst (x := 0) (pc2 := 57) (dk D_X13_readU 29 rfl) (by decide) rfl k) ?_
  obtain ⟨e10, he11, hc12⟩ := h
  refine A_call (st := []) (pc2 := 60) (fun T Q Qc L hc k => V_callV (as := [_, _, _]) (st := []) (M' := MX13_emit) (ci := 13) (pc2 := 60) (dk D_X13_readU 30 rfl) ml_13_373 mv_X13_emit rfl rfl (by decide) rfl (Nat.le_of_ble_eq_true rfl) rfl he11 L.2.1 hc k) hc12 (aRI.k fun y13 s14 h => ?_)
  refine A_p (fun T Q _ _ k => V_istore_n (pc2 := 61) (lv2 := [(0, _), (1, _)]) (dk D_X13_readU 31 rfl) rfl (by decide) rfl rfl k) ?_
  refine A_p (fun T Q _ _ k => V_goto (tgt := 68) (dk D_X13_readU 32 rfl) (by decide) k) ?_
  refine A_p (fun T Q _ _ k => V_pick [0] (lv2 := [(0, _)]) rfl k) ?_
  exact h
theorem a_readU_68 {X : Cx} {b d : Nat} {σ : Rm} {Q : Res → Rm → Prop}  (h : Q (.inl none) σ) : A X b d MX13_readU 68 [(0, vR b)] [] σ Q := by
  exact A_ret (fun T Q _ k => V_return (dk D_X13_readU 35 rfl) rfl k) h
set_option maxRecDepth 100000 in
theorem a_readP_0 {X : Cx} {b d : Nat} {σ : Rm} {Q : Res → Rm → Prop}  (h : (vp_in (sI σ 10) 3002) ∧ (((aI σ 5 ((sI σ 10) : Int32).toNatClampNeg) = 2 → ∃ e3 : Nat, e3 + 1 ≤ d ∧ AC X b e3 MX13_mustNumber [vR b] σ (aTI Q fun y6 s7 => ∃ e8 : Nat, e8 + 1 ≤ d ∧ AC X b e8 MX13_emit [vR b, vI 1, vI y6, vI 0] s7 (aRI fun y11 s12 => A X b d MX13_readP 547 [(0, vR b)] [] s12 Q))) ∧ (¬ (aI σ 5 ((sI σ 10) : Int32).toNatClampNeg) = 2 → (vp_in (sI σ 10) 3002) ∧ (((aI σ 5 ((sI σ 10) : Int32).toNatClampNeg) = 1 → ∃ e15 : Nat, e15 + 1 ≤ d ∧ AC X b e15 MX13_mustName [vR b] σ (aTI Q fun y18 s19 => ∃ e20 : Nat, e20 + 1 ≤ d ∧ AC X b e20 MX13_isSign [vR b, vI 40] s19 (aRI fun y23 s24 => ((y23 = 0 → ∃ e26 : Nat, e26 + 1 ≤ d ∧ AC X b e26 MX13_emit [vR b, vI 2, vI 0, vI 0] s24 (aRI fun y29 s30 => (vp_in (sI s30 44) 1600) ∧ ∀ s32 : Rm, s32 = wI s30 42 (((sI s30 44) : Int32).toNatClampNeg) y29 → (vp_in (sI s32 44) 1600) ∧ ∀ s34 : Rm, s34 = wI s32 43 (((sI s32 44) : Int32).toNatClampNeg) y18 → ∀ s35 : Rm, s35 = wS s34 44 ((sI s34 44) + 1) → A X b d MX13_readP 181 [(0, vR b), (1, vI y29), (2, vI y18)] [] s35 Q)) ∧ (¬ y23 = 0 → ∃ e36 : Nat, e36 + 1 ≤ d ∧ AC X b e36 MX13_opens [vR b] s24 (aTV Q fun  s39 => A X b d MX13_readP 60 [(0, vR b), (2, vI y18), (3, vI 0)] [] s39 Q)))))) ∧ (¬ (aI σ 5 ((sI σ 10) : Int32).toNatClampNeg) = 1 → ∃ e40 : Nat, e40 + 1 ≤ d ∧ AC X b e40 MX13_isSign [vR b, vI 40] σ (aRI fun y43 s44 => ((y43 = 0 → ∃ e46 : Nat, e46 + 1 ≤ d ∧ AC X b e46 MX13_isWord [vR b, vR 23] s44 (aRI fun y49 s50 => ((y49 = 0 → ∃ e52 : Nat, e52 + 1 ≤ d ∧ AC X b e52 MX13_isWord [vR b, vR 24] s50 (aRI fun y55 s56 => ((y55 = 0 → ∃ e58 : Nat, e58 + 1 ≤ d ∧ AC X b e58 MX13_isWord [vR b, vR 15] s56 (aRI fun y61 s62 => ((y61 = 0 → ∃ e64 : Nat, e64 + 1 ≤ d ∧ AC X b e64 MX13_isWord [vR b, vR 16] s62 (aRI fun y67 s68 => ((y67 = 0 → ∃ e70 : Nat, e70 + 1 ≤ d ∧ AC X b e70 MX13_isWord [vR b, vR 17] s68 (aRI fun y73 s74 => ((y73 = 0 → ∃ e76 : Nat, e76 + 1 ≤ d ∧ AC X b e76 MX13_isWord [vR b, vR 20] s74 (aRI fun y79 s80 => ((y79 = 0 → ∃ e82 : Nat, e82 + 1 ≤ d ∧ AC X b e82 MX13_isWord [vR b, vR 18] s80 (aRI fun y85 s86 => ((y85 = 0 → (vp_in (sI s86 10) 3002) ∧ ∃ e89 : Nat, e89 + 1 ≤ d ∧ AC X b e89 MX13_fail [vR b, vI (aI s86 6 ((sI s86 10) : Int32).toNatClampNeg)] s86 (aTV Q fun  s92 => A X b d MX13_readP 547 [(0, vR b)] [] s92 Q)) ∧ (¬ y85 = 0 → ∃ e93 : Nat, e93 + 1 ≤ d ∧ AC X b e93 MX13_opens [vR b] s86 (aTV Q fun  s96 => ∃ e97 : Nat, e97 + 1 ≤ d ∧ AC X b e97 MX13_mustNumber [vR b] s96 (aTI Q fun y100 s101 => ∃ e102 : Nat, e102 + 1 ≤ d ∧ AC X b e102 MX13_mustWord [vR b, vR 22] s101 (aTV Q fun  s105 => ∃ e106 : Nat, e106 + 1 ≤ d ∧ AC X b e106 MX13_readU [vR b] s105 (aTV Q fun  s109 => ∃ e110 : Nat, e110 + 1 ≤ d ∧ AC X b e110 MX13_mustWord [vR b, vR 21] s109 (aTV Q fun  s113 => ∃ e114 : Nat, e114 + 1 ≤ d ∧ AC X b e114 MX13_readU [vR b] s113 (aTV Q fun  s117 => ∀ s118 : Rm, s118 = wS s117 12 ((sI s117 12) - 1) → ∃ e119 : Nat, e119 + 1 ≤ d ∧ AC X b e119 MX13_emit [vR b, vI 18, vI (y100 - y100 / 10 * 10), vI 0] s118 (aRI fun y122 s123 => A X b d MX13_readP 547 [(0, vR b)] [] s123 Q))))))))))) ∧ (¬ y79 = 0 → A X b d MX13_readP 415 [(0, vR b)] [] s80 Q)))) ∧ (¬ y73 = 0 → A X b d MX13_readP 415 [(0, vR b)] [] s74 Q)))) ∧ (¬ y67 = 0 → ∀ s124 : Rm, s124 = wS s68 10 ((sI s68 10) + 1) → ∃ e125 : Nat, e125 + 1 ≤ d ∧ AC X b e125 MX13_mustName [vR b] s124 (aTI Q fun y128 s129 => ∃ e130 : Nat, e130 + 1 ≤ d ∧ AC X b e130 MX13_isSign [vR b, vI 40] s129 (aRI fun y133 s134 => ((y133 = 0 → (vp_in (sI s134 10) 3002) ∧ ∃ e137 : Nat, e137 + 1 ≤ d ∧ AC X b e137 MX13_fail [vR b, vI (aI s134 6 ((sI s134 10) : Int32).toNatClampNeg)] s134 (aTV Q fun  s140 => A X b d MX13_readP 351 [(0, vR b), (2, vI y128)] [] s140 Q)) ∧ (¬ y133 = 0 → A X b d MX13_readP 351 [(0, vR b), (2, vI y128)] [] s134 Q)))))))) ∧ (¬ y61 = 0 → A X b d MX13_readP 259 [(0, vR b)] [] s62 Q)))) ∧ (¬ y55 = 0 → A X b d MX13_readP 259 [(0, vR b)] [] s56 Q)))) ∧ (¬ y49 = 0 → ∀ s141 : Rm, s141 = wS s50 10 ((sI s50 10) + 1) → ∃ e142 : Nat, e142 + 1 ≤ d ∧ AC X b e142 MX13_emit [vR b, vI 13, vI 0, vI 0] s141 (aRI fun y145 s146 => A X b d MX13_readP 547 [(0, vR b)] [] s146 Q))))) ∧ (¬ y43 = 0 → ∃ e147 : Nat, e147 + 1 ≤ d ∧ AC X b e147 MX13_opens [vR b] s44 (aTV Q fun  s150 => ∃ e151 : Nat, e151 + 1 ≤ d ∧ AC X b e151 MX13_readE [vR b] s150 (aTV Q fun  s154 => ∃ e155 : Nat, e155 + 1 ≤ d ∧ AC X b e155 MX13_closes [vR b, vI 41] s154 (aTV Q fun  s158 => A X b d MX13_readP 547 [(0, vR b)] [] s158 Q))))))))))) : A X b d MX13_readP 0 [(0, vR b)] [] σ Q := by
  refine A_p (fun T Q _ _ k => V_aload_n (pc2 := 1) (dk D_X13_readP 0 rfl) rfl (V_lg 0 rfl) rfl k) ?_
  refine A_ar (pc2 := 4) (a := 4) 5 (dk D_X13_readP 1 rfl) fl_13_23 (by decide) (by decide) rfl (fun _ => rfl) rfl ?_
  refine A_p (fun T Q _ _ k => V_aload_n (pc2 := 5) (dk D_X13_readP 2 rfl) rfl (V_lg 0 rfl) rfl k) ?_
  refine A_sc (pc2 := 8) 10 (dk D_X13_readP 3 rfl) fl_13_331 (by decide) rfl (fun _ => rfl) rfl ?_
  obtain ⟨h1, h⟩ := h
  refine A_ild (pc2 := 9) 5 (dk D_X13_readP 4 rfl) rfl (by decide) rfl (by decide) rfl rfl h1 ?_
  refine A_p (fun T Q _ _ k => V_iconst (x := 2) (pc2 := 10) (dk D_X13_readP 5 rfl) (by decide) rfl k) ?_
  refine A_if (pa := 13) (pb := 27) (fun T Q k1 k2 => V_cmpne (tgt := 27) (pc2 := 13) (dk D_X13_readP 6 rfl) (by decide) rfl (fun q => k2 q) (fun q => k1 q)) (fun q2 => ?_) (fun q2 => ?_)
  · have h := h.1 q2
    refine A_p (fun T Q _ _ k => V_aload_n (pc2 := 14) (dk D_X13_readP 7 rfl) rfl (V_lg 0 rfl) rfl k) ?_
    refine A_p (fun T Q _ _ k => V_iconst (x := 1) (pc2 := 15) (dk D_X13_readP 8 rfl) (by decide) rfl k) ?_
    refine A_p (fun T Q _ _ k => V_aload_n (pc2 := 16) (dk D_X13_readP 9 rfl) rfl (V_lg 0 rfl) rfl k) ?_
    obtain ⟨e3, he4, hc5⟩ := h
    refine A_callT (st := [_, _]) (pc2 := 19) (fun T Q Qc L hc k => V_callVT (as := []) (st := [_, _]) (M' := MX13_mustNumber) (ci := 13) (pc2 := 19) (dk D_X13_readP 10 rfl) ml_13_386 mv_X13_mustNumber rfl rfl (by decide) rfl (Nat.le_of_ble_eq_true rfl) rfl (by decide) he4 L.2.1 hc k) hc5 (aTI.k fun y6 s7 h => ?_)
    refine A_p (fun T Q _ _ k => V_iconst (x := 0) (pc2 := 20) (dk D_X13_readP 11 rfl) (by decide) rfl k) ?_
    obtain ⟨e8, he9, hc10⟩ := h
    refine A_call (st := []) (pc2 := 23) (fun T Q Qc L hc k => V_callV (as := [_, _, _]) (st := []) (M' := MX13_emit) (ci := 13) (pc2 := 23) (dk D_X13_readP 12 rfl) ml_13_373 mv_X13_emit rfl rfl (by decide) rfl (Nat.le_of_ble_eq_true rfl) rfl he9 L.2.1 hc k) hc10 (aRI.k fun y11 s12 h => ?_)
    refine A_p (fun T Q _ _ k => V_istore_n (pc2 := 24) (lv2 := [(0, _), (1, _)]) (dk D_X13_readP 13 rfl) rfl (by decide) rfl rfl k) ?_
    refine A_p (fun T Q _ _ k => V_goto (tgt := 547) (dk D_X13_readP 14 rfl) (by decide) k) ?_
    refine A_p (fun T Q _ _ k => V_pick [0] (lv2 := [(0, _)]) rfl k) ?_
    exact h
  · have h := h.2 q2
    refine A_p (fun T Q _ _ k => V_aload_n (pc2 := 28) (dk D_X13_readP 15 rfl) rfl (V_lg 0 rfl) rfl k) ?_
    refine A_ar (pc2 := 31) (a := 4) 5 (dk D_X13_readP 16 rfl) fl_13_23 (by decide) (by decide) rfl (fun _ => rfl) rfl ?_
    refine A_p (fun T Q _ _ k => V_aload_n (pc2 := 32) (dk D_X13_readP 17 rfl) rfl (V_lg 0 rfl) rfl k) ?_
    refine A_sc (pc2 := 35) 10 (dk D_X13_readP 18 rfl) fl_13_331 (by decide) rfl (fun _ => rfl) rfl ?_
    obtain ⟨h13, h⟩ := h
    refine A_ild (pc2 := 36) 5 (dk D_X13_readP 19 rfl) rfl (by decide) rfl (by decide) rfl rfl h13 ?_
    refine A_p (fun T Q _ _ k => V_iconst (x := 1) (pc2 := 37) (dk D_X13_readP 20 rfl) (by decide) rfl k) ?_
    refine A_if (pa := 40) (pb := 184) (fun T Q k1 k2 => V_cmpne (tgt := 184) (pc2 := 40) (dk D_X13_readP 21 rfl) (by decide) rfl (fun q => k2 q) (fun q => k1 q)) (fun q14 => ?_) (fun q14 => ?_)
    · have h := h.1 q14
      refine A_p (fun T Q _ _ k => V_aload_n (pc2 := 41) (dk D_X13_readP 22 rfl) rfl (V_lg 0 rfl) rfl k) ?_
      obtain ⟨e15, he16, hc17⟩ := h
      refine A_callT (st := []) (pc2 := 44) (fun T Q Qc L hc k => V_callVT (as := []) (st := []) (M' := MX13_mustName) (ci := 13) (pc2 := 44) (dk D_X13_readP 23 rfl) ml_13_399 mv_X13_mustName rfl rfl (by decide) rfl (Nat.le_of_ble_eq_true rfl) rfl (by decide) he16 L.2.1 hc k) hc17 (aTI.k fun y18 s19 h => ?_)
      refine A_p (fun T Q _ _ k => V_istore_n (pc2 := 45) (lv2 := [(0, _), (2, _)]) (dk D_X13_readP 24 rfl) rfl (by decide) rfl rfl k) ?_
      refine A_p (fun T Q _ _ k => V_aload_n (pc2 := 46) (dk D_X13_readP 25 rfl) rfl (V_lg 0 rfl) rfl k) ?_
      refine A_p (fun T Q _ _ k => V_bipush (x := 40) (pc2 := 48) (dk D_X13_readP 26 rfl) (by decide) rfl k) ?_
      obtain ⟨e20, he21, hc22⟩ := h
      refine A_call (st := []) (pc2 := 51) (fun T Q Qc L hc k => V_callV (as := [_]) (st := []) (M' := MX13_isSign) (ci := 13) (pc2 := 51) (dk D_X13_readP 27 rfl) ml_13_334 mv_X13_isSign rfl rfl (by decide) rfl (Nat.le_of_ble_eq_true rfl) rfl he21 L.2.1 hc k) hc22 (aRI.k fun y23 s24 h => ?_)
      refine A_if (pa := 143) (pb := 54) (fun T Q k1 k2 => V_ifeq (tgt := 143) (pc2 := 54) (dk D_X13_readP 28 rfl) (by decide) rfl (fun q => k1 q) (fun q => k2 q)) (fun q25 => ?_) (fun q25 => ?_)
      · have h := h.1 q25
        refine A_p (fun T Q _ _ k => V_aload_n (pc2 := 144) (dk D_X13_readP 76 rfl) rfl (V_lg 0 rfl) rfl k) ?_
        refine A_p (fun T Q _ _ k => V_iconst (x := 2) (pc2 := 145) (dk D_X13_readP 77 rfl) (by decide) rfl k) ?_
        refine A_p (fun T Q _ _ k => V_iconst (x := 0) (pc2 := 146) (dk D_X13_readP 78 rfl) (by decide) rfl k) ?_
        refine A_p (fun T Q _ _ k => V_iconst (x := 0) (pc2 := 147) (dk D_X13_readP 79 rfl) (by decide) rfl k) ?_
        obtain ⟨e26, he27, hc28⟩ := h
        refine A_call (st := []) (pc2 := 150) (fun T Q Qc L hc k => V_callV (as := [_, _, _]) (st := []) (M' := MX13_emit) (ci := 13) (pc2 := 150) (dk D_X13_readP 80 rfl) ml_13_373 mv_X13_emit rfl rfl (by decide) rfl (Nat.le_of_ble_eq_true rfl) rfl he27 L.2.1 hc k) hc28 (aRI.k fun y29 s30 h => ?_)
        refine A_p (fun T Q _ _ k => V_istore_n (pc2 := 151) (lv2 := [(0, _), (1, _), (2, _)]) (dk D_X13_readP 81 rfl) rfl (by decide) rfl rfl k) ?_
        refine A_p (fun T Q _ _ k => V_aload_n (pc2 := 152) (dk D_X13_readP 82 rfl) rfl (V_lg 0 rfl) rfl k) ?_
        refine A_ar (pc2 := 155) (a := 30) 42 (dk D_X13_readP 83 rfl) fl_13_152 (by decide) (by decide) rfl (fun _ => rfl) rfl ?_
        refine A_p (fun T Q _ _ k => V_aload_n (pc2 := 156) (dk D_X13_readP 84 rfl) rfl (V_lg 0 rfl) rfl k) ?_
        refine A_sc (pc2 := 159) 44 (dk D_X13_readP 85 rfl) fl_13_439 (by decide) rfl (fun _ => rfl) rfl ?_
        refine A_p (fun T Q _ _ k => V_iload_n (pc2 := 160) (dk D_X13_readP 86 rfl) rfl (V_lg 1 rfl) rfl k) ?_
        obtain ⟨h31, h⟩ := h
        refine A_ist (pc2 := 161) 42 (dk D_X13_readP 87 rfl) rfl (by decide) rfl (by decide) rfl rfl h31 ?_
        have h := h _ rfl
        refine A_p (fun T Q _ _ k => V_aload_n (pc2 := 162) (dk D_X13_readP 88 rfl) rfl (V_lg 0 rfl) rfl k) ?_
        refine A_ar (pc2 := 165) (a := 31) 43 (dk D_X13_readP 89 rfl) fl_13_155 (by decide) (by decide) rfl (fun _ => rfl) rfl ?_
        refine A_p (fun T Q _ _ k => V_aload_n (pc2 := 166) (dk D_X13_readP 90 rfl) rfl (V_lg 0 rfl) rfl k) ?_
        refine A_sc (pc2 := 169) 44 (dk D_X13_readP 91 rfl) fl_13_439 (by decide) rfl (fun _ => rfl) rfl ?_
        refine A_p (fun T Q _ _ k => V_iload_n (pc2 := 170) (dk D_X13_readP 92 rfl) rfl (V_lg 2 rfl) rfl k) ?_
        obtain ⟨h33, h⟩ := h
        refine A_ist (pc2 := 171) 43 (dk D_X13_readP 93 rfl) rfl (by decide) rfl (by decide) rfl rfl h33 ?_
        have h := h _ rfl
        refine A_p (fun T Q _ _ k => V_aload_n (pc2 := 172) (dk D_X13_readP 94 rfl) rfl (V_lg 0 rfl) rfl k) ?_
        refine A_p (fun T Q _ _ k => V_dup (pc2 := 173) (dk D_X13_readP 95 rfl) rfl rfl k) ?_
        refine A_sc (pc2 := 176) 44 (dk D_X13_readP 96 rfl) fl_13_439 (by decide) rfl (fun _ => rfl) rfl ?_
        refine A_p (fun T Q _ _ k => V_iconst (x := 1) (pc2 := 177) (dk D_X13_readP 97 rfl) (by decide) rfl k) ?_
        refine A_p (fun T Q _ _ k => V_iadd (pc2 := 178) (dk D_X13_readP 98 rfl) rfl k) ?_
        refine A_put (pc2 := 181) 44 (dk D_X13_readP 99 rfl) fl_13_439 (by decide) rfl rfl rfl rfl ?_
        have h := h _ rfl
        exact h
      · have h := h.2 q25
        refine A_p (fun T Q _ _ k => V_aload_n (pc2 := 55) (dk D_X13_readP 29 rfl) rfl (V_lg 0 rfl) rfl k) ?_
        obtain ⟨e36, he37, hc38⟩ := h
        refine A_callT (st := []) (pc2 := 58) (fun T Q Qc L hc k => V_callVT (as := []) (st := []) (M' := MX13_opens) (ci := 13) (pc2 := 58) (dk D_X13_readP 30 rfl) ml_13_363 mv_X13_opens rfl rfl (by decide) rfl (Nat.le_of_ble_eq_true rfl) rfl (by decide) he37 L.2.1 hc k) hc38 (aTV.k fun  s39 h => ?_)
        refine A_p (fun T Q _ _ k => V_iconst (x := 0) (pc2 := 59) (dk D_X13_readP 31 rfl) (by decide) rfl k) ?_
        refine A_p (fun T Q _ _ k => V_istore_n (pc2 := 60) (lv2 := [(0, _), (2, _), (3, _)]) (dk D_X13_readP 32 rfl) rfl (by decide) rfl rfl k) ?_
        exact h
    · have h := h.2 q14
      refine A_p (fun T Q _ _ k => V_aload_n (pc2 := 185) (dk D_X13_readP 101 rfl) rfl (V_lg 0 rfl) rfl k) ?_
      refine A_p (fun T Q _ _ k => V_bipush (x := 40) (pc2 := 187) (dk D_X13_readP 102 rfl) (by decide) rfl k) ?_
      obtain ⟨e40, he41, hc42⟩ := h
      refine A_call (st := []) (pc2 := 190) (fun T Q Qc L hc k => V_callV (as := [_]) (st := []) (M' := MX13_isSign) (ci := 13) (pc2 := 190) (dk D_X13_readP 103 rfl) ml_13_334 mv_X13_isSign rfl rfl (by decide) rfl (Nat.le_of_ble_eq_true rfl) rfl he41 L.2.1 hc k) hc42 (aRI.k fun y43 s44 h => ?_)
      refine A_if (pa := 210) (pb := 193) (fun T Q k1 k2 => V_ifeq (tgt := 210) (pc2 := 193) (dk D_X13_readP 104 rfl) (by decide) rfl (fun q => k1 q) (fun q => k2 q)) (fun q45 => ?_) (fun q45 => ?_)
      · have h := h.1 q45
        refine A_p (fun T Q _ _ k => V_aload_n (pc2 := 211) (dk D_X13_readP 113 rfl) rfl (V_lg 0 rfl) rfl k) ?_
        refine A_p (fun T Q _ _ k => V_ldcs 21 (pc2 := 213) (dk D_X13_readP 114 rfl) rfl rfl k) ?_
        obtain ⟨e46, he47, hc48⟩ := h
        refine A_call (st := []) (pc2 := 216) (fun T Q Qc L hc k => V_callV (as := [_]) (st := []) (M' := MX13_isWord) (ci := 13) (pc2 := 216) (dk D_X13_readP 115 rfl) ml_13_341 mv_X13_isWord rfl rfl (by decide) rfl (Nat.le_of_ble_eq_true rfl) rfl he47 L.2.1 hc k) hc48 (aRI.k fun y49 s50 h => ?_)
        refine A_if (pa := 241) (pb := 219) (fun T Q k1 k2 => V_ifeq (tgt := 241) (pc2 := 219) (dk D_X13_readP 116 rfl) (by decide) rfl (fun q => k1 q) (fun q => k2 q)) (fun q51 => ?_) (fun q51 => ?_)
        · have h := h.1 q51
          refine A_p (fun T Q _ _ k => V_aload_n (pc2 := 242) (dk D_X13_readP 130 rfl) rfl (V_lg 0 rfl) rfl k) ?_
          refine A_p (fun T Q _ _ k => V_ldcs 22 (pc2 := 244) (dk D_X13_readP 131 rfl) rfl rfl k) ?_
          obtain ⟨e52, he53, hc54⟩ := h
          refine A_call (st := []) (pc2 := 247) (fun T Q Qc L hc k => V_callV (as := [_]) (st := []) (M' := MX13_isWord) (ci := 13) (pc2 := 247) (dk D_X13_readP 132 rfl) ml_13_341 mv_X13_isWord rfl rfl (by decide) rfl (Nat.le_of_ble_eq_true rfl) rfl he53 L.2.1 hc k) hc54 (aRI.k fun y55 s56 h => ?_)
          refine A_if (pa := 250) (pb := 259) (fun T Q k1 k2 => V_ifne (tgt := 259) (pc2 := 250) (dk D_X13_readP 133 rfl) (by decide) rfl (fun q => k2 q) (fun q => k1 q)) (fun q57 => ?_) (fun q57 => ?_)
          · have h := h.1 q57
            refine A_p (fun T Q _ _ k => V_aload_n (pc2 := 251) (dk D_X13_readP 134 rfl) rfl (V_lg 0 rfl) rfl k) ?_
            refine A_p (fun T Q _ _ k => V_ldcs 13 (pc2 := 253) (dk D_X13_readP 135 rfl) rfl rfl k) ?_
            obtain ⟨e58, he59, hc60⟩ := h
            refine A_call (st := []) (pc2 := 256) (fun T Q Qc L hc k => V_callV (as := [_]) (st := []) (M' := MX13_isWord) (ci := 13) (pc2 := 256) (dk D_X13_readP 136 rfl) ml_13_341 mv_X13_isWord rfl rfl (by decide) rfl (Nat.le_of_ble_eq_true rfl) rfl he59 L.2.1 hc k) hc60 (aRI.k fun y61 s62 h => ?_)
            refine A_if (pa := 305) (pb := 259) (fun T Q k1 k2 => V_ifeq (tgt := 305) (pc2 := 259) (dk D_X13_readP 137 rfl) (by decide) rfl (fun q => k1 q) (fun q => k2 q)) (fun q63 => ?_) (fun q63 => ?_)
            · have h := h.1 q63
              refine A_p (fun T Q _ _ k => V_aload_n (pc2 := 306) (dk D_X13_readP 163 rfl) rfl (V_lg 0 rfl) rfl k) ?_
              refine A_p (fun T Q _ _ k => V_ldcs 14 (pc2 := 308) (dk D_X13_readP 164 rfl) rfl rfl k) ?_
              obtain ⟨e64, he65, hc66⟩ := h
              refine A_call (st := []) (pc2 := 311) (fun T Q Qc L hc k => V_callV (as := [_]) (st := []) (M' := MX13_isWord) (ci := 13) (pc2 := 311) (dk D_X13_readP 165 rfl) ml_13_341 mv_X13_isWord rfl rfl (by decide) rfl (Nat.le_of_ble_eq_true rfl) rfl he65 L.2.1 hc k) hc66 (aRI.k fun y67 s68 h => ?_)
              refine A_if (pa := 397) (pb := 314) (fun T Q k1 k2 => V_ifeq (tgt := 397) (pc2 := 314) (dk D_X13_readP 166 rfl) (by decide) rfl (fun q => k1 q) (fun q => k2 q)) (fun q69 => ?_) (fun q69 => ?_)
              · have h := h.1 q69
                refine A_p (fun T Q _ _ k => V_aload_n (pc2 := 398) (dk D_X13_readP 214 rfl) rfl (V_lg 0 rfl) rfl k) ?_
                refine A_p (fun T Q _ _ k => V_ldcs 15 (pc2 := 400) (dk D_X13_readP 215 rfl) rfl rfl k) ?_
                obtain ⟨e70, he71, hc72⟩ := h
                refine A_call (st := []) (pc2 := 403) (fun T Q Qc L hc k => V_callV (as := [_]) (st := []) (M' := MX13_isWord) (ci := 13) (pc2 := 403) (dk D_X13_readP 216 rfl) ml_13_341 mv_X13_isWord rfl rfl (by decide) rfl (Nat.le_of_ble_eq_true rfl) rfl he71 L.2.1 hc k) hc72 (aRI.k fun y73 s74 h => ?_)
                refine A_if (pa := 406) (pb := 415) (fun T Q k1 k2 => V_ifne (tgt := 415) (pc2 := 406) (dk D_X13_readP 217 rfl) (by decide) rfl (fun q => k2 q) (fun q => k1 q)) (fun q75 => ?_) (fun q75 => ?_)
                · have h := h.1 q75
                  refine A_p (fun T Q _ _ k => V_aload_n (pc2 := 407) (dk D_X13_readP 218 rfl) rfl (V_lg 0 rfl) rfl k) ?_
                  refine A_p (fun T Q _ _ k => V_ldcs 18 (pc2 := 409) (dk D_X13_readP 219 rfl) rfl rfl k) ?_
                  obtain ⟨e76, he77, hc78⟩ := h
                  refine A_call (st := []) (pc2 := 412) (fun T Q Qc L hc k => V_callV (as := [_]) (st := []) (M' := MX13_isWord) (ci := 13) (pc2 := 412) (dk D_X13_readP 220 rfl) ml_13_341 mv_X13_isWord rfl rfl (by decide) rfl (Nat.le_of_ble_eq_true rfl) rfl he77 L.2.1 hc k) hc78 (aRI.k fun y79 s80 h => ?_)
                  refine A_if (pa := 471) (pb := 415) (fun T Q k1 k2 => V_ifeq (tgt := 471) (pc2 := 415) (dk D_X13_readP 221 rfl) (by decide) rfl (fun q => k1 q) (fun q => k2 q)) (fun q81 => ?_) (fun q81 => ?_)
                  · have h := h.1 q81
                    refine A_p (fun T Q _ _ k => V_aload_n (pc2 := 472) (dk D_X13_readP 252 rfl) rfl (V_lg 0 rfl) rfl k) ?_
                    refine A_p (fun T Q _ _ k => V_ldcs 16 (pc2 := 474) (dk D_X13_readP 253 rfl) rfl rfl k) ?_
                    obtain ⟨e82, he83, hc84⟩ := h
                    refine A_call (st := []) (pc2 := 477) (fun T Q Qc L hc k => V_callV (as := [_]) (st := []) (M' := MX13_isWord) (ci := 13) (pc2 := 477) (dk D_X13_readP 254 rfl) ml_13_341 mv_X13_isWord rfl rfl (by decide) rfl (Nat.le_of_ble_eq_true rfl) rfl he83 L.2.1 hc k) hc84 (aRI.k fun y85 s86 h => ?_)
                    refine A_if (pa := 534) (pb := 480) (fun T Q k1 k2 => V_ifeq (tgt := 534) (pc2 := 480) (dk D_X13_readP 255 rfl) (by decide) rfl (fun q => k1 q) (fun q => k2 q)) (fun q87 => ?_) (fun q87 => ?_)
                    · have h := h.1 q87
                      refine A_p (fun T Q _ _ k => V_aload_n (pc2 := 535) (dk D_X13_readP 286 rfl) rfl (V_lg 0 rfl) rfl k) ?_
                      refine A_p (fun T Q _ _ k => V_aload_n (pc2 := 536) (dk D_X13_readP 287 rfl) rfl (V_lg 0 rfl) rfl k) ?_
                      refine A_ar (pc2 := 539) (a := 5) 6 (dk D_X13_readP 288 rfl) fl_13_27 (by decide) (by decide) rfl (fun _ => rfl) rfl ?_
                      refine A_p (fun T Q _ _ k => V_aload_n (pc2 := 540) (dk D_X13_readP 289 rfl) rfl (V_lg 0 rfl) rfl k) ?_
                      refine A_sc (pc2 := 543) 10 (dk D_X13_readP 290 rfl) fl_13_331 (by decide) rfl (fun _ => rfl) rfl ?_
                      obtain ⟨h88, h⟩ := h
                      refine A_ild (pc2 := 544) 6 (dk D_X13_readP 291 rfl) rfl (by decide) rfl (by decide) rfl rfl h88 ?_
                      obtain ⟨e89, he90, hc91⟩ := h
                      refine A_callT (st := []) (pc2 := 547) (fun T Q Qc L hc k => V_callVT (as := [_]) (st := []) (M' := MX13_fail) (ci := 13) (pc2 := 547) (dk D_X13_readP 292 rfl) ml_13_337 mv_X13_fail rfl rfl (by decide) rfl (Nat.le_of_ble_eq_true rfl) rfl (by decide) he90 L.2.1 hc k) hc91 (aTV.k fun  s92 h => ?_)
                      exact h
                    · have h := h.2 q87
                      refine A_p (fun T Q _ _ k => V_aload_n (pc2 := 481) (dk D_X13_readP 256 rfl) rfl (V_lg 0 rfl) rfl k) ?_
                      obtain ⟨e93, he94, hc95⟩ := h
                      refine A_callT (st := []) (pc2 := 484) (fun T Q Qc L hc k => V_callVT (as := []) (st := []) (M' := MX13_opens) (ci := 13) (pc2 := 484) (dk D_X13_readP 257 rfl) ml_13_363 mv_X13_opens rfl rfl (by decide) rfl (Nat.le_of_ble_eq_true rfl) rfl (by decide) he94 L.2.1 hc k) hc95 (aTV.k fun  s96 h => ?_)
                      refine A_p (fun T Q _ _ k => V_aload_n (pc2 := 485) (dk D_X13_readP 258 rfl) rfl (V_lg 0 rfl) rfl k) ?_
                      obtain ⟨e97, he98, hc99⟩ := h
                      refine A_callT (st := []) (pc2 := 488) (fun T Q Qc L hc k => V_callVT (as := []) (st := []) (M' := MX13_mustNumber) (ci := 13) (pc2 := 488) (dk D_X13_readP 259 rfl) ml_13_386 mv_X13_mustNumber rfl rfl (by decide) rfl (Nat.le_of_ble_eq_true rfl) rfl (by decide) he98 L.2.1 hc k) hc99 (aTI.k fun y100 s101 h => ?_)
                      refine A_p (fun T Q _ _ k => V_istore_n (pc2 := 489) (lv2 := [(0, _), (2, _)]) (dk D_X13_readP 260 rfl) rfl (by decide) rfl rfl k) ?_
                      refine A_p (fun T Q _ _ k => V_aload_n (pc2 := 490) (dk D_X13_readP 261 rfl) rfl (V_lg 0 rfl) rfl k) ?_
                      refine A_p (fun T Q _ _ k => V_ldcs 20 (pc2 := 492) (dk D_X13_readP 262 rfl) rfl rfl k) ?_
                      obtain ⟨e102, he103, hc104⟩ := h
                      refine A_callT (st := []) (pc2 := 495) (fun T Q Qc L hc k => V_callVT (as := [_]) (st := []) (M' := MX13_mustWord) (ci := 13) (pc2 := 495) (dk D_X13_readP 263 rfl) ml_13_406 mv_X13_mustWord rfl rfl (by decide) rfl (Nat.le_of_ble_eq_true rfl) rfl (by decide) he103 L.2.1 hc k) hc104 (aTV.k fun  s105 h => ?_)
                      refine A_p (fun T Q _ _ k => V_aload_n (pc2 := 496) (dk D_X13_readP 264 rfl) rfl (V_lg 0 rfl) rfl k) ?_
                      obtain ⟨e106, he107, hc108⟩ := h
                      refine A_callT (st := []) (pc2 := 499) (fun T Q Qc L hc k => V_callST (as := [_]) (st := []) (M' := MX13_readU) (pc2 := 499) (dk D_X13_readP 265 rfl) ml_13_425 mv_X13_readU rfl rfl (Nat.le_of_ble_eq_true rfl) rfl (by decide) he107 hc k) hc108 (aTV.k fun  s109 h => ?_)
                      refine A_p (fun T Q _ _ k => V_aload_n (pc2 := 500) (dk D_X13_readP 266 rfl) rfl (V_lg 0 rfl) rfl k) ?_
                      refine A_p (fun T Q _ _ k => V_ldcs 19 (pc2 := 502) (dk D_X13_readP 267 rfl) rfl rfl k) ?_
                      obtain ⟨e110, he111, hc112⟩ := h
                      refine A_callT (st := []) (pc2 := 505) (fun T Q Qc L hc k => V_callVT (as := [_]) (st := []) (M' := MX13_mustWord) (ci := 13) (pc2 := 505) (dk D_X13_readP 268 rfl) ml_13_406 mv_X13_mustWord rfl rfl (by decide) rfl (Nat.le_of_ble_eq_true rfl) rfl (by decide) he111 L.2.1 hc k) hc112 (aTV.k fun  s113 h => ?_)
                      refine A_p (fun T Q _ _ k => V_aload_n (pc2 := 506) (dk D_X13_readP 269 rfl) rfl (V_lg 0 rfl) rfl k) ?_
                      obtain ⟨e114, he115, hc116⟩ := h
                      refine A_callT (st := []) (pc2 := 509) (fun T Q Qc L hc k => V_callST (as := [_]) (st := []) (M' := MX13_readU) (pc2 := 509) (dk D_X13_readP 270 rfl) ml_13_425 mv_X13_readU rfl rfl (Nat.le_of_ble_eq_true rfl) rfl (by decide) he115 hc k) hc116 (aTV.k fun  s117 h => ?_)
                      refine A_p (fun T Q _ _ k => V_aload_n (pc2 := 510) (dk D_X13_readP 271 rfl) rfl (V_lg 0 rfl) rfl k) ?_
                      refine A_p (fun T Q _ _ k => V_dup (pc2 := 511) (dk D_X13_readP 272 rfl) rfl rfl k) ?_
                      refine A_sc (pc2 := 514) 12 (dk D_X13_readP 273 rfl) fl_13_345 (by decide) rfl (fun _ => rfl) rfl ?_
                      refine A_p (fun T Q _ _ k => V_iconst (x := 1) (pc2 := 515) (dk D_X13_readP 274 rfl) (by decide) rfl k) ?_
                      refine A_p (fun T Q _ _ k => V_isub (pc2 := 516) (dk D_X13_readP 275 rfl) rfl k) ?_
                      refine A_put (pc2 := 519) 12 (dk D_X13_readP 276 rfl) fl_13_345 (by decide) rfl rfl rfl rfl ?_
                      have h := h _ rfl
                      refine A_p (fun T Q _ _ k => V_aload_n (pc2 := 520) (dk D_X13_readP 277 rfl) rfl (V_lg 0 rfl) rfl k) ?_
                      refine A_p (fun T Q _ _ k => V_bipush (x := 18) (pc2 := 522) (dk D_X13_readP 278 rfl) (by decide) rfl k) ?_
                      refine A_p (fun T Q _ _ k => V_iload_n (pc2 := 523) (dk D_X13_readP 279 rfl) rfl (V_lg 1 rfl) rfl k) ?_
                      refine A_p (fun T Q _ _ k => V_bipush (x := 10) (pc2 := 525) (dk D_X13_readP 280 rfl) (by decide) rfl k) ?_
                      refine A_p (fun T Q _ _ k => V_irem (pc2 := 526) (dk D_X13_readP 281 rfl) rfl (by decide) k) ?_
                      refine A_p (fun T Q _ _ k => V_iconst (x := 0) (pc2 := 527) (dk D_X13_readP 282 rfl) (by decide) rfl k) ?_
                      obtain ⟨e119, he120, hc121⟩ := h
                      refine A_call (st := []) (pc2 := 530) (fun T Q Qc L hc k => V_callV (as := [_, _, _]) (st := []) (M' := MX13_emit) (ci := 13) (pc2 := 530) (dk D_X13_readP 283 rfl) ml_13_373 mv_X13_emit rfl rfl (by decide) rfl (Nat.le_of_ble_eq_true rfl) rfl he120 L.2.1 hc k) hc121 (aRI.k fun y122 s123 h => ?_)
                      refine A_p (fun T Q _ _ k => V_istore_n (pc2 := 531) (lv2 := [(0, _), (1, _), (2, _)]) (dk D_X13_readP 284 rfl) rfl (by decide) rfl rfl k) ?_
                      refine A_p (fun T Q _ _ k => V_goto (tgt := 547) (dk D_X13_readP 285 rfl) (by decide) k) ?_
                      refine A_p (fun T Q _ _ k => V_pick [0] (lv2 := [(0, _)]) rfl k) ?_
                      exact h
                  · have h := h.2 q81
                    exact h
                · have h := h.2 q75
                  exact h
              · have h := h.2 q69
                refine A_p (fun T Q _ _ k => V_aload_n (pc2 := 315) (dk D_X13_readP 167 rfl) rfl (V_lg 0 rfl) rfl k) ?_
                refine A_p (fun T Q _ _ k => V_dup (pc2 := 316) (dk D_X13_readP 168 rfl) rfl rfl k) ?_
                refine A_sc (pc2 := 319) 10 (dk D_X13_readP 169 rfl) fl_13_331 (by decide) rfl (fun _ => rfl) rfl ?_
                refine A_p (fun T Q _ _ k => V_iconst (x := 1) (pc2 := 320) (dk D_X13_readP 170 rfl) (by decide) rfl k) ?_
                refine A_p (fun T Q _ _ k => V_iadd (pc2 := 321) (dk D_X13_readP 171 rfl) rfl k) ?_
                refine A_put (pc2 := 324) 10 (dk D_X13_readP 172 rfl) fl_13_331 (by decide) rfl rfl rfl rfl ?_
                have h := h _ rfl
                refine A_p (fun T Q _ _ k => V_aload_n (pc2 := 325) (dk D_X13_readP 173 rfl) rfl (V_lg 0 rfl) rfl k) ?_
                obtain ⟨e125, he126, hc127⟩ := h
                refine A_callT (st := []) (pc2 := 328) (fun T Q Qc L hc k => V_callVT (as := []) (st := []) (M' := MX13_mustName) (ci := 13) (pc2 := 328) (dk D_X13_readP 174 rfl) ml_13_399 mv_X13_mustName rfl rfl (by decide) rfl (Nat.le_of_ble_eq_true rfl) rfl (by decide) he126 L.2.1 hc k) hc127 (aTI.k fun y128 s129 h => ?_)
                refine A_p (fun T Q _ _ k => V_istore_n (pc2 := 329) (lv2 := [(0, _), (2, _)]) (dk D_X13_readP 175 rfl) rfl (by decide) rfl rfl k) ?_
                refine A_p (fun T Q _ _ k => V_aload_n (pc2 := 330) (dk D_X13_readP 176 rfl) rfl (V_lg 0 rfl) rfl k) ?_
                refine A_p (fun T Q _ _ k => V_bipush (x := 40) (pc2 := 332) (dk D_X13_readP 177 rfl) (by decide) rfl k) ?_
                obtain ⟨e130, he131, hc132⟩ := h
                refine A_call (st := []) (pc2 := 335) (fun T Q Qc L hc k => V_callV (as := [_]) (st := []) (M' := MX13_isSign) (ci := 13) (pc2 := 335) (dk D_X13_readP 178 rfl) ml_13_334 mv_X13_isSign rfl rfl (by decide) rfl (Nat.le_of_ble_eq_true rfl) rfl he131 L.2.1 hc k) hc132 (aRI.k fun y133 s134 h => ?_)
                refine A_if (pa := 338) (pb := 351) (fun T Q k1 k2 => V_ifne (tgt := 351) (pc2 := 338) (dk D_X13_readP 179 rfl) (by decide) rfl (fun q => k2 q) (fun q => k1 q)) (fun q135 => ?_) (fun q135 => ?_)
                · have h := h.1 q135
                  refine A_p (fun T Q _ _ k => V_aload_n (pc2 := 339) (dk D_X13_readP 180 rfl) rfl (V_lg 0 rfl) rfl k) ?_
                  refine A_p (fun T Q _ _ k => V_aload_n (pc2 := 340) (dk D_X13_readP 181 rfl) rfl (V_lg 0 rfl) rfl k) ?_
                  refine A_ar (pc2 := 343) (a := 5) 6 (dk D_X13_readP 182 rfl) fl_13_27 (by decide) (by decide) rfl (fun _ => rfl) rfl ?_
                  refine A_p (fun T Q _ _ k => V_aload_n (pc2 := 344) (dk D_X13_readP 183 rfl) rfl (V_lg 0 rfl) rfl k) ?_
                  refine A_sc (pc2 := 347) 10 (dk D_X13_readP 184 rfl) fl_13_331 (by decide) rfl (fun _ => rfl) rfl ?_
                  obtain ⟨h136, h⟩ := h
                  refine A_ild (pc2 := 348) 6 (dk D_X13_readP 185 rfl) rfl (by decide) rfl (by decide) rfl rfl h136 ?_
                  obtain ⟨e137, he138, hc139⟩ := h
                  refine A_callT (st := []) (pc2 := 351) (fun T Q Qc L hc k => V_callVT (as := [_]) (st := []) (M' := MX13_fail) (ci := 13) (pc2 := 351) (dk D_X13_readP 186 rfl) ml_13_337 mv_X13_fail rfl rfl (by decide) rfl (Nat.le_of_ble_eq_true rfl) rfl (by decide) he138 L.2.1 hc k) hc139 (aTV.k fun  s140 h => ?_)
                  exact h
                · have h := h.2 q135
                  exact h
            · have h := h.2 q63
              exact h
          · have h := h.2 q57
            exact h
        · have h := h.2 q51
          refine A_p (fun T Q _ _ k => V_aload_n (pc2 := 220) (dk D_X13_readP 117 rfl) rfl (V_lg 0 rfl) rfl k) ?_
          refine A_p (fun T Q _ _ k => V_dup (pc2 := 221) (dk D_X13_readP 118 rfl) rfl rfl k) ?_
          refine A_sc (pc2 := 224) 10 (dk D_X13_readP 119 rfl) fl_13_331 (by decide) rfl (fun _ => rfl) rfl ?_
          refine A_p (fun T Q _ _ k => V_iconst (x := 1) (pc2 := 225) (dk D_X13_readP 120 rfl) (by decide) rfl k) ?_
          refine A_p (fun T Q _ _ k => V_iadd (pc2 := 226) (dk D_X13_readP 121 rfl) rfl k) ?_
          refine A_put (pc2 := 229) 10 (dk D_X13_readP 122 rfl) fl_13_331 (by decide) rfl rfl rfl rfl ?_
          have h := h _ rfl
          refine A_p (fun T Q _ _ k => V_aload_n (pc2 := 230) (dk D_X13_readP 123 rfl) rfl (V_lg 0 rfl) rfl k) ?_
          refine A_p (fun T Q _ _ k => V_bipush (x := 13) (pc2 := 232) (dk D_X13_readP 124 rfl) (by decide) rfl k) ?_
          refine A_p (fun T Q _ _ k => V_iconst (x := 0) (pc2 := 233) (dk D_X13_readP 125 rfl) (by decide) rfl k) ?_
          refine A_p (fun T Q _ _ k => V_iconst (x := 0) (pc2 := 234) (dk D_X13_readP 126 rfl) (by decide) rfl k) ?_
          obtain ⟨e142, he143, hc144⟩ := h
          refine A_call (st := []) (pc2 := 237) (fun T Q Qc L hc k => V_callV (as := [_, _, _]) (st := []) (M' := MX13_emit) (ci := 13) (pc2 := 237) (dk D_X13_readP 127 rfl) ml_13_373 mv_X13_emit rfl rfl (by decide) rfl (Nat.le_of_ble_eq_true rfl) rfl he143 L.2.1 hc k) hc144 (aRI.k fun y145 s146 h => ?_)
          refine A_p (fun T Q _ _ k => V_istore_n (pc2 := 238) (lv2 := [(0, _), (1, _)]) (dk D_X13_readP 128 rfl) rfl (by decide) rfl rfl k) ?_
          refine A_p (fun T Q _ _ k => V_goto (tgt := 547) (dk D_X13_readP 129 rfl) (by decide) k) ?_
          refine A_p (fun T Q _ _ k => V_pick [0] (lv2 := [(0, _)]) rfl k) ?_
          exact h
      · have h := h.2 q45
        refine A_p (fun T Q _ _ k => V_aload_n (pc2 := 194) (dk D_X13_readP 105 rfl) rfl (V_lg 0 rfl) rfl k) ?_
        obtain ⟨e147, he148, hc149⟩ := h
        refine A_callT (st := []) (pc2 := 197) (fun T Q Qc L hc k => V_callVT (as := []) (st := []) (M' := MX13_opens) (ci := 13) (pc2 := 197) (dk D_X13_readP 106 rfl) ml_13_363 mv_X13_opens rfl rfl (by decide) rfl (Nat.le_of_ble_eq_true rfl) rfl (by decide) he148 L.2.1 hc k) hc149 (aTV.k fun  s150 h => ?_)
        refine A_p (fun T Q _ _ k => V_aload_n (pc2 := 198) (dk D_X13_readP 107 rfl) rfl (V_lg 0 rfl) rfl k) ?_
        obtain ⟨e151, he152, hc153⟩ := h
        refine A_callT (st := []) (pc2 := 201) (fun T Q Qc L hc k => V_callST (as := [_]) (st := []) (M' := MX13_readE) (pc2 := 201) (dk D_X13_readP 108 rfl) ml_13_377 mv_X13_readE rfl rfl (Nat.le_of_ble_eq_true rfl) rfl (by decide) he152 hc k) hc153 (aTV.k fun  s154 h => ?_)
        refine A_p (fun T Q _ _ k => V_aload_n (pc2 := 202) (dk D_X13_readP 109 rfl) rfl (V_lg 0 rfl) rfl k) ?_
        refine A_p (fun T Q _ _ k => V_bipush (x := 41) (pc2 := 204) (dk D_X13_readP 110 rfl) (by decide) rfl k) ?_
        obtain ⟨e155, he156, hc157⟩ := h
        refine A_callT (st := []) (pc2 := 207) (fun T Q Qc L hc k => V_callVT (as := [_]) (st := []) (M' := MX13_closes) (ci := 13) (pc2 := 207) (dk D_X13_readP 111 rfl) ml_13_370 mv_X13_closes rfl rfl (by decide) rfl (Nat.le_of_ble_eq_true rfl) rfl (by decide) he156 L.2.1 hc k) hc157 (aTV.k fun  s158 h => ?_)
        refine A_p (fun T Q _ _ k => V_goto (tgt := 547) (dk D_X13_readP 112 rfl) (by decide) k) ?_
        exact h
theorem a_readP_60 {X : Cx} {b d : Nat} {σ : Rm} {Q : Res → Rm → Prop} (x2 : Int32) (x3 : Int32) (h : ∃ e1 : Nat, e1 + 1 ≤ d ∧ AC X b e1 MX13_isSign [vR b, vI 41] σ (aRI fun y4 s5 => ((y4 = 0 → A X b d MX13_readP 80 [(0, vR b), (2, vI x2), (3, vI x3)] [] s5 Q) ∧ (¬ y4 = 0 → ((x3 ≤ 0 → A X b d MX13_readP 118 [(0, vR b), (2, vI x2), (3, vI x3)] [] s5 Q) ∧ (¬ x3 ≤ 0 → ∃ e8 : Nat, e8 + 1 ≤ d ∧ AC X b e8 MX13_isComma [vR b] s5 (aRI fun y11 s12 => ((y11 = 0 → A X b d MX13_readP 118 [(0, vR b), (2, vI x2), (3, vI x3)] [] s12 Q) ∧ (¬ y11 = 0 → A X b d MX13_readP 80 [(0, vR b), (2, vI x2), (3, vI x3)] [] s12 Q))))))))) : A X b d MX13_readP 60 [(0, vR b), (2, vI x2), (3, vI x3)] [] σ Q := by
  refine A_p (fun T Q _ _ k => V_aload_n (pc2 := 61) (dk D_X13_readP 33 rfl) rfl (V_lg 0 rfl) rfl k) ?_
  refine A_p (fun T Q _ _ k => V_bipush (x := 41) (pc2 := 63) (dk D_X13_readP 34 rfl) (by decide) rfl k) ?_
  obtain ⟨e1, he2, hc3⟩ := h
  refine A_call (st := []) (pc2 := 66) (fun T Q Qc L hc k => V_callV (as := [_]) (st := []) (M' := MX13_isSign) (ci := 13) (pc2 := 66) (dk D_X13_readP 35 rfl) ml_13_334 mv_X13_isSign rfl rfl (by decide) rfl (Nat.le_of_ble_eq_true rfl) rfl he2 L.2.1 hc k) hc3 (aRI.k fun y4 s5 h => ?_)
  refine A_if (pa := 80) (pb := 69) (fun T Q k1 k2 => V_ifeq (tgt := 80) (pc2 := 69) (dk D_X13_readP 36 rfl) (by decide) rfl (fun q => k1 q) (fun q => k2 q)) (fun q6 => ?_) (fun q6 => ?_)
  · have h := h.1 q6
    exact h
  · have h := h.2 q6
    refine A_p (fun T Q _ _ k => V_iload_n (pc2 := 70) (dk D_X13_readP 37 rfl) rfl (V_lg 2 rfl) rfl k) ?_
    refine A_if (pa := 118) (pb := 73) (fun T Q k1 k2 => V_ifle (tgt := 118) (pc2 := 73) (dk D_X13_readP 38 rfl) (by decide) rfl (fun q => k1 q) (fun q => k2 q)) (fun q7 => ?_) (fun q7 => ?_)
    · have h := h.1 q7
      exact h
    · have h := h.2 q7
      refine A_p (fun T Q _ _ k => V_aload_n (pc2 := 74) (dk D_X13_readP 39 rfl) rfl (V_lg 0 rfl) rfl k) ?_
      obtain ⟨e8, he9, hc10⟩ := h
      refine A_call (st := []) (pc2 := 77) (fun T Q Qc L hc k => V_callS (as := [_]) (st := []) (M' := MX13_isComma) (pc2 := 77) (dk D_X13_readP 40 rfl) ml_13_431 mv_X13_isComma rfl rfl (Nat.le_of_ble_eq_true rfl) rfl he9 hc k) hc10 (aRI.k fun y11 s12 h => ?_)
      refine A_if (pa := 118) (pb := 80) (fun T Q k1 k2 => V_ifeq (tgt := 118) (pc2 := 80) (dk D_X13_readP 41 rfl) (by decide) rfl (fun q => k1 q) (fun q => k2 q)) (fun q13 => ?_) (fun q13 => ?_)
      · have h := h.1 q13
        exact h
      · have h := h.2 q13
        exact h
theorem a_readP_80 {X : Cx} {b d : Nat} {σ : Rm} {Q : Res → Rm → Prop} (x2 : Int32) (x3 : Int32) (h : ((x3 ≤ 0 → A X b d MX13_readP 90 [(0, vR b), (2, vI x2), (3, vI x3)] [] σ Q) ∧ (¬ x3 ≤ 0 → ∃ e2 : Nat, e2 + 1 ≤ d ∧ AC X b e2 MX13_mustSign [vR b, vI 44] σ (aTV Q fun  s5 => A X b d MX13_readP 90 [(0, vR b), (2, vI x2), (3, vI x3)] [] s5 Q)))) : A X b d MX13_readP 80 [(0, vR b), (2, vI x2), (3, vI x3)] [] σ Q := by
  refine A_p (fun T Q _ _ k => V_iload_n (pc2 := 81) (dk D_X13_readP 42 rfl) rfl (V_lg 2 rfl) rfl k) ?_
  refine A_if (pa := 90) (pb := 84) (fun T Q k1 k2 => V_ifle (tgt := 90) (pc2 := 84) (dk D_X13_readP 43 rfl) (by decide) rfl (fun q => k1 q) (fun q => k2 q)) (fun q1 => ?_) (fun q1 => ?_)
  · have h := h.1 q1
    exact h
  · have h := h.2 q1
    refine A_p (fun T Q _ _ k => V_aload_n (pc2 := 85) (dk D_X13_readP 44 rfl) rfl (V_lg 0 rfl) rfl k) ?_
    refine A_p (fun T Q _ _ k => V_bipush (x := 44) (pc2 := 87) (dk D_X13_readP 45 rfl) (by decide) rfl k) ?_
    obtain ⟨e2, he3, hc4⟩ := h
    refine A_callT (st := []) (pc2 := 90) (fun T Q Qc L hc k => V_callVT (as := [_]) (st := []) (M' := MX13_mustSign) (ci := 13) (pc2 := 90) (dk D_X13_readP 46 rfl) ml_13_348 mv_X13_mustSign rfl rfl (by decide) rfl (Nat.le_of_ble_eq_true rfl) rfl (by decide) he3 L.2.1 hc k) hc4 (aTV.k fun  s5 h => ?_)
    exact h
theorem a_readP_90 {X : Cx} {b d : Nat} {σ : Rm} {Q : Res → Rm → Prop} (x2 : Int32) (x3 : Int32) (h : ((x3 = 4 → (vp_in (sI σ 10) 3002) ∧ ∃ e3 : Nat, e3 + 1 ≤ d ∧ AC X b e3 MX13_fail [vR b, vI (aI σ 6 ((sI σ 10) : Int32).toNatClampNeg)] σ (aTV Q fun  s6 => A X b d MX13_readP 108 [(0, vR b), (2, vI x2), (3, vI x3)] [] s6 Q)) ∧ (¬ x3 = 4 → A X b d MX13_readP 108 [(0, vR b), (2, vI x2), (3, vI x3)] [] σ Q))) : A X b d MX13_readP 90 [(0, vR b), (2, vI x2), (3, vI x3)] [] σ Q := by
  refine A_p (fun T Q _ _ k => V_iload_n (pc2 := 91) (dk D_X13_readP 47 rfl) rfl (V_lg 2 rfl) rfl k) ?_
  refine A_p (fun T Q _ _ k => V_iconst (x := 4) (pc2 := 92) (dk D_X13_readP 48 rfl) (by decide) rfl k) ?_
  refine A_if (pa := 95) (pb := 108) (fun T Q k1 k2 => V_cmpne (tgt := 108) (pc2 := 95) (dk D_X13_readP 49 rfl) (by decide) rfl (fun q => k2 q) (fun q => k1 q)) (fun q1 => ?_) (fun q1 => ?_)
  · have h := h.1 q1
    refine A_p (fun T Q _ _ k => V_aload_n (pc2 := 96) (dk D_X13_readP 50 rfl) rfl (V_lg 0 rfl) rfl k) ?_
    refine A_p (fun T Q _ _ k => V_aload_n (pc2 := 97) (dk D_X13_readP 51 rfl) rfl (V_lg 0 rfl) rfl k) ?_
    refine A_ar (pc2 := 100) (a := 5) 6 (dk D_X13_readP 52 rfl) fl_13_27 (by decide) (by decide) rfl (fun _ => rfl) rfl ?_
    refine A_p (fun T Q _ _ k => V_aload_n (pc2 := 101) (dk D_X13_readP 53 rfl) rfl (V_lg 0 rfl) rfl k) ?_
    refine A_sc (pc2 := 104) 10 (dk D_X13_readP 54 rfl) fl_13_331 (by decide) rfl (fun _ => rfl) rfl ?_
    obtain ⟨h2, h⟩ := h
    refine A_ild (pc2 := 105) 6 (dk D_X13_readP 55 rfl) rfl (by decide) rfl (by decide) rfl rfl h2 ?_
    obtain ⟨e3, he4, hc5⟩ := h
    refine A_callT (st := []) (pc2 := 108) (fun T Q Qc L hc k => V_callVT (as := [_]) (st := []) (M' := MX13_fail) (ci := 13) (pc2 := 108) (dk D_X13_readP 56 rfl) ml_13_337 mv_X13_fail rfl rfl (by decide) rfl (Nat.le_of_ble_eq_true rfl) rfl (by decide) he4 L.2.1 hc k) hc5 (aTV.k fun  s6 h => ?_)
    exact h
  · have h := h.2 q1
    exact h
theorem a_readP_108 {X : Cx} {b d : Nat} {σ : Rm} {Q : Res → Rm → Prop} (x2 : Int32) (x3 : Int32) (h : ∃ e1 : Nat, e1 + 1 ≤ d ∧ AC X b e1 MX13_readE [vR b] σ (aTV Q fun  s4 => A X b d MX13_readP 60 [(0, vR b), (2, vI x2), (3, vI (x3 + 1))] [] s4 Q)) : A X b d MX13_readP 108 [(0, vR b), (2, vI x2), (3, vI x3)] [] σ Q := by
  refine A_p (fun T Q _ _ k => V_aload_n (pc2 := 109) (dk D_X13_readP 57 rfl) rfl (V_lg 0 rfl) rfl k) ?_
  obtain ⟨e1, he2, hc3⟩ := h
  refine A_callT (st := []) (pc2 := 112) (fun T Q Qc L hc k => V_callST (as := [_]) (st := []) (M' := MX13_readE) (pc2 := 112) (dk D_X13_readP 58 rfl) ml_13_377 mv_X13_readE rfl rfl (Nat.le_of_ble_eq_true rfl) rfl (by decide) he2 hc k) hc3 (aTV.k fun  s4 h => ?_)
  refine A_p (fun T Q _ _ k => V_iinc (y := _ + 1) (pc2 := 115) (lv2 := [(0, _), (2, _), (3, _)]) (dk D_X13_readP 59 rfl) (V_lg 2 rfl) rfl (by decide) rfl rfl k) ?_
  refine A_p (fun T Q _ _ k => V_goto (tgt := 60) (dk D_X13_readP 60 rfl) (by decide) k) ?_
  exact h
theorem a_readP_118 {X : Cx} {b d : Nat} {σ : Rm} {Q : Res → Rm → Prop} (x2 : Int32) (x3 : Int32) (h : ∃ e1 : Nat, e1 + 1 ≤ d ∧ AC X b e1 MX13_closes [vR b, vI 41] σ (aTV Q fun  s4 => ∃ e5 : Nat, e5 + 1 ≤ d ∧ AC X b e5 MX13_emit [vR b, vI 20, vI 0, vI x3] s4 (aRI fun y8 s9 => ∃ e10 : Nat, e10 + 1 ≤ d ∧ AC X b e10 MX13_asksFor [vR b, vI y8, vI x2, vI x3] s9 (aRV fun  s13 => A X b d MX13_readP 181 [(0, vR b), (1, vI y8), (2, vI x2)] [] s13 Q)))) : A X b d MX13_readP 118 [(0, vR b), (2, vI x2), (3, vI x3)] [] σ Q := by
  refine A_p (fun T Q _ _ k => V_aload_n (pc2 := 119) (dk D_X13_readP 61 rfl) rfl (V_lg 0 rfl) rfl k) ?_
  refine A_p (fun T Q _ _ k => V_bipush (x := 41) (pc2 := 121) (dk D_X13_readP 62 rfl) (by decide) rfl k) ?_
  obtain ⟨e1, he2, hc3⟩ := h
  refine A_callT (st := []) (pc2 := 124) (fun T Q Qc L hc k => V_callVT (as := [_]) (st := []) (M' := MX13_closes) (ci := 13) (pc2 := 124) (dk D_X13_readP 63 rfl) ml_13_370 mv_X13_closes rfl rfl (by decide) rfl (Nat.le_of_ble_eq_true rfl) rfl (by decide) he2 L.2.1 hc k) hc3 (aTV.k fun  s4 h => ?_)
  refine A_p (fun T Q _ _ k => V_aload_n (pc2 := 125) (dk D_X13_readP 64 rfl) rfl (V_lg 0 rfl) rfl k) ?_
  refine A_p (fun T Q _ _ k => V_bipush (x := 20) (pc2 := 127) (dk D_X13_readP 65 rfl) (by decide) rfl k) ?_
  refine A_p (fun T Q _ _ k => V_iconst (x := 0) (pc2 := 128) (dk D_X13_readP 66 rfl) (by decide) rfl k) ?_
  refine A_p (fun T Q _ _ k => V_iload_n (pc2 := 129) (dk D_X13_readP 67 rfl) rfl (V_lg 2 rfl) rfl k) ?_
  obtain ⟨e5, he6, hc7⟩ := h
  refine A_call (st := []) (pc2 := 132) (fun T Q Qc L hc k => V_callV (as := [_, _, _]) (st := []) (M' := MX13_emit) (ci := 13) (pc2 := 132) (dk D_X13_readP 68 rfl) ml_13_373 mv_X13_emit rfl rfl (by decide) rfl (Nat.le_of_ble_eq_true rfl) rfl he6 L.2.1 hc k) hc7 (aRI.k fun y8 s9 h => ?_)
  refine A_p (fun T Q _ _ k => V_istore_n (pc2 := 133) (lv2 := [(0, _), (1, _), (2, _), (3, _)]) (dk D_X13_readP 69 rfl) rfl (by decide) rfl rfl k) ?_
  refine A_p (fun T Q _ _ k => V_aload_n (pc2 := 134) (dk D_X13_readP 70 rfl) rfl (V_lg 0 rfl) rfl k) ?_
  refine A_p (fun T Q _ _ k => V_iload_n (pc2 := 135) (dk D_X13_readP 71 rfl) rfl (V_lg 1 rfl) rfl k) ?_
  refine A_p (fun T Q _ _ k => V_iload_n (pc2 := 136) (dk D_X13_readP 72 rfl) rfl (V_lg 2 rfl) rfl k) ?_
  refine A_p (fun T Q _ _ k => V_iload_n (pc2 := 137) (dk D_X13_readP 73 rfl) rfl (V_lg 3 rfl) rfl k) ?_
  obtain ⟨e10, he11, hc12⟩ := h
  refine A_call (st := []) (pc2 := 140) (fun T Q Qc L hc k => V_callV (as := [_, _, _]) (st := []) (M' := MX13_asksFor) (ci := 13) (pc2 := 140) (dk D_X13_readP 74 rfl) ml_13_435 mv_X13_asksFor rfl rfl (by decide) rfl (Nat.le_of_ble_eq_true rfl) rfl he11 L.2.1 hc k) hc12 (aRV.k fun  s13 h => ?_)
  refine A_p (fun T Q _ _ k => V_goto (tgt := 181) (dk D_X13_readP 75 rfl) (by decide) k) ?_
  refine A_p (fun T Q _ _ k => V_pick [0, 1, 2] (lv2 := [(0, _), (1, _), (2, _)]) rfl k) ?_
  exact h
theorem a_readP_181 {X : Cx} {b d : Nat} {σ : Rm} {Q : Res → Rm → Prop} (x1 : Int32) (x2 : Int32) (h : A X b d MX13_readP 547 [(0, vR b)] [] σ Q) : A X b d MX13_readP 181 [(0, vR b), (1, vI x1), (2, vI x2)] [] σ Q := by
  refine A_p (fun T Q _ _ k => V_goto (tgt := 547) (dk D_X13_readP 100 rfl) (by decide) k) ?_
  refine A_p (fun T Q _ _ k => V_pick [0] (lv2 := [(0, _)]) rfl k) ?_
  exact h
theorem a_readP_259 {X : Cx} {b d : Nat} {σ : Rm} {Q : Res → Rm → Prop}  (h : ∃ e1 : Nat, e1 + 1 ≤ d ∧ AC X b e1 MX13_isWord [vR b, vR 24] σ (aRI fun y4 s5 => ((y4 = 0 → A X b d MX13_readP 275 [(0, vR b)] [vI 15] s5 Q) ∧ (¬ y4 = 0 → A X b d MX13_readP 275 [(0, vR b)] [vI 14] s5 Q)))) : A X b d MX13_readP 259 [(0, vR b)] [] σ Q := by
  refine A_p (fun T Q _ _ k => V_aload_n (pc2 := 260) (dk D_X13_readP 138 rfl) rfl (V_lg 0 rfl) rfl k) ?_
  refine A_p (fun T Q _ _ k => V_ldcs 22 (pc2 := 262) (dk D_X13_readP 139 rfl) rfl rfl k) ?_
  obtain ⟨e1, he2, hc3⟩ := h
  refine A_call (st := []) (pc2 := 265) (fun T Q Qc L hc k => V_callV (as := [_]) (st := []) (M' := MX13_isWord) (ci := 13) (pc2 := 265) (dk D_X13_readP 140 rfl) ml_13_341 mv_X13_isWord rfl rfl (by decide) rfl (Nat.le_of_ble_eq_true rfl) rfl he2 L.2.1 hc k) hc3 (aRI.k fun y4 s5 h => ?_)
  refine A_if (pa := 273) (pb := 268) (fun T Q k1 k2 => V_ifeq (tgt := 273) (pc2 := 268) (dk D_X13_readP 141 rfl) (by decide) rfl (fun q => k1 q) (fun q => k2 q)) (fun q6 => ?_) (fun q6 => ?_)
  · have h := h.1 q6
    refine A_p (fun T Q _ _ k => V_bipush (x := 15) (pc2 := 275) (dk D_X13_readP 144 rfl) (by decide) rfl k) ?_
    exact h
  · have h := h.2 q6
    refine A_p (fun T Q _ _ k => V_bipush (x := 14) (pc2 := 270) (dk D_X13_readP 142 rfl) (by decide) rfl k) ?_
    refine A_p (fun T Q _ _ k => V_goto (tgt := 275) (dk D_X13_readP 143 rfl) (by decide) k) ?_
    exact h
theorem a_readP_275 {X : Cx} {b d : Nat} {σ : Rm} {Q : Res → Rm → Prop} (t0 : Int32) (h : ∃ e1 : Nat, e1 + 1 ≤ d ∧ AC X b e1 MX13_opens [vR b] σ (aTV Q fun  s4 => ∃ e5 : Nat, e5 + 1 ≤ d ∧ AC X b e5 MX13_readU [vR b] s4 (aTV Q fun  s8 => ∀ s9 : Rm, s9 = wS s8 12 ((sI s8 12) - 1) → ∃ e10 : Nat, e10 + 1 ≤ d ∧ AC X b e10 MX13_emit [vR b, vI t0, vI 0, vI 0] s9 (aRI fun y13 s14 => A X b d MX13_readP 547 [(0, vR b)] [] s14 Q)))) : A X b d MX13_readP 275 [(0, vR b)] [vI t0] σ Q := by
  refine A_p (fun T Q _ _ k => V_istore_n (pc2 := 276) (lv2 := [(0, _), (2, _)]) (dk D_X13_readP 145 rfl) rfl (by decide) rfl rfl k) ?_
  refine A_p (fun T Q _ _ k => V_aload_n (pc2 := 277) (dk D_X13_readP 146 rfl) rfl (V_lg 0 rfl) rfl k) ?_
  obtain ⟨e1, he2, hc3⟩ := h
  refine A_callT (st := []) (pc2 := 280) (fun T Q Qc L hc k => V_callVT (as := []) (st := []) (M' := MX13_opens) (ci := 13) (pc2 := 280) (dk D_X13_readP 147 rfl) ml_13_363 mv_X13_opens rfl rfl (by decide) rfl (Nat.le_of_ble_eq_true rfl) rfl (by decide) he2 L.2.1 hc k) hc3 (aTV.k fun  s4 h => ?_)
  refine A_p (fun T Q _ _ k => V_aload_n (pc2 := 281) (dk D_X13_readP 148 rfl) rfl (V_lg 0 rfl) rfl k) ?_
  obtain ⟨e5, he6, hc7⟩ := h
  refine A_callT (st := []) (pc2 := 284) (fun T Q Qc L hc k => V_callST (as := [_]) (st := []) (M' := MX13_readU) (pc2 := 284) (dk D_X13_readP 149 rfl) ml_13_425 mv_X13_readU rfl rfl (Nat.le_of_ble_eq_true rfl) rfl (by decide) he6 hc k) hc7 (aTV.k fun  s8 h => ?_)
  refine A_p (fun T Q _ _ k => V_aload_n (pc2 := 285) (dk D_X13_readP 150 rfl) rfl (V_lg 0 rfl) rfl k) ?_
  refine A_p (fun T Q _ _ k => V_dup (pc2 := 286) (dk D_X13_readP 151 rfl) rfl rfl k) ?_
  refine A_sc (pc2 := 289) 12 (dk D_X13_readP 152 rfl) fl_13_345 (by decide) rfl (fun _ => rfl) rfl ?_
  refine A_p (fun T Q _ _ k => V_iconst (x := 1) (pc2 := 290) (dk D_X13_readP 153 rfl) (by decide) rfl k) ?_
  refine A_p (fun T Q _ _ k => V_isub (pc2 := 291) (dk D_X13_readP 154 rfl) rfl k) ?_
  refine A_put (pc2 := 294) 12 (dk D_X13_readP 155 rfl) fl_13_345 (by decide) rfl rfl rfl rfl ?_
  have h := h _ rfl
  refine A_p (fun T Q _ _ k => V_aload_n (pc2 := 295) (dk D_X13_readP 156 rfl) rfl (V_lg 0 rfl) rfl k) ?_
  refine A_p (fun T Q _ _ k => V_iload_n (pc2 := 296) (dk D_X13_readP 157 rfl) rfl (V_lg 1 rfl) rfl k) ?_
  refine A_p (fun T Q _ _ k => V_iconst (x := 0) (pc2 := 297) (dk D_X13_readP 158 rfl) (by decide) rfl k) ?_
  refine A_p (fun T Q _ _ k => V_iconst (x := 0) (pc2 := 298) (dk D_X13_readP 159 rfl) (by decide) rfl k) ?_
  obtain ⟨e10, he11, hc12⟩ := h
  refine A_call (st := []) (pc2 := 301) (fun T Q Qc L hc k => V_callV (as := [_, _, _]) (st := []) (M' := MX13_emit) (ci := 13) (pc2 := 301) (dk D_X13_readP 160 rfl) ml_13_373 mv_X13_emit rfl rfl (by decide) rfl (Nat.le_of_ble_eq_true rfl) rfl he11 L.2.1 hc k) hc12 (aRI.k fun y13 s14 h => ?_)
  refine A_p (fun T Q _ _ k => V_istore_n (pc2 := 302) (lv2 := [(0, _), (1, _), (2, _)]) (dk D_X13_readP 161 rfl) rfl (by decide) rfl rfl k) ?_
  refine A_p (fun T Q _ _ k => V_goto (tgt := 547) (dk D_X13_readP 162 rfl) (by decide) k) ?_
  refine A_p (fun T Q _ _ k => V_pick [0] (lv2 := [(0, _)]) rfl k) ?_
  exact h
theorem a_readP_351 {X : Cx} {b d : Nat} {σ : Rm} {Q : Res → Rm → Prop} (x2 : Int32) (h : ∃ e1 : Nat, e1 + 1 ≤ d ∧ AC X b e1 MX13_opens [vR b] σ (aTV Q fun  s4 => ∃ e5 : Nat, e5 + 1 ≤ d ∧ AC X b e5 MX13_isSign [vR b, vI 41] s4 (aRI fun y8 s9 => ((y8 = 0 → ∃ e11 : Nat, e11 + 1 ≤ d ∧ AC X b e11 MX13_readE [vR b] s9 (aTV Q fun  s14 => A X b d MX13_readP 372 [(0, vR b), (2, vI x2), (3, vI 1)] [] s14 Q)) ∧ (¬ y8 = 0 → A X b d MX13_readP 372 [(0, vR b), (2, vI x2), (3, vI 0)] [] s9 Q))))) : A X b d MX13_readP 351 [(0, vR b), (2, vI x2)] [] σ Q := by
  refine A_p (fun T Q _ _ k => V_aload_n (pc2 := 352) (dk D_X13_readP 187 rfl) rfl (V_lg 0 rfl) rfl k) ?_
  obtain ⟨e1, he2, hc3⟩ := h
  refine A_callT (st := []) (pc2 := 355) (fun T Q Qc L hc k => V_callVT (as := []) (st := []) (M' := MX13_opens) (ci := 13) (pc2 := 355) (dk D_X13_readP 188 rfl) ml_13_363 mv_X13_opens rfl rfl (by decide) rfl (Nat.le_of_ble_eq_true rfl) rfl (by decide) he2 L.2.1 hc k) hc3 (aTV.k fun  s4 h => ?_)
  refine A_p (fun T Q _ _ k => V_iconst (x := 0) (pc2 := 356) (dk D_X13_readP 189 rfl) (by decide) rfl k) ?_
  refine A_p (fun T Q _ _ k => V_istore_n (pc2 := 357) (lv2 := [(0, _), (2, _), (3, _)]) (dk D_X13_readP 190 rfl) rfl (by decide) rfl rfl k) ?_
  refine A_p (fun T Q _ _ k => V_aload_n (pc2 := 358) (dk D_X13_readP 191 rfl) rfl (V_lg 0 rfl) rfl k) ?_
  refine A_p (fun T Q _ _ k => V_bipush (x := 41) (pc2 := 360) (dk D_X13_readP 192 rfl) (by decide) rfl k) ?_
  obtain ⟨e5, he6, hc7⟩ := h
  refine A_call (st := []) (pc2 := 363) (fun T Q Qc L hc k => V_callV (as := [_]) (st := []) (M' := MX13_isSign) (ci := 13) (pc2 := 363) (dk D_X13_readP 193 rfl) ml_13_334 mv_X13_isSign rfl rfl (by decide) rfl (Nat.le_of_ble_eq_true rfl) rfl he6 L.2.1 hc k) hc7 (aRI.k fun y8 s9 h => ?_)
  refine A_if (pa := 366) (pb := 372) (fun T Q k1 k2 => V_ifne (tgt := 372) (pc2 := 366) (dk D_X13_readP 194 rfl) (by decide) rfl (fun q => k2 q) (fun q => k1 q)) (fun q10 => ?_) (fun q10 => ?_)
  · have h := h.1 q10
    refine A_p (fun T Q _ _ k => V_aload_n (pc2 := 367) (dk D_X13_readP 195 rfl) rfl (V_lg 0 rfl) rfl k) ?_
    obtain ⟨e11, he12, hc13⟩ := h
    refine A_callT (st := []) (pc2 := 370) (fun T Q Qc L hc k => V_callST (as := [_]) (st := []) (M' := MX13_readE) (pc2 := 370) (dk D_X13_readP 196 rfl) ml_13_377 mv_X13_readE rfl rfl (Nat.le_of_ble_eq_true rfl) rfl (by decide) he12 hc k) hc13 (aTV.k fun  s14 h => ?_)
    refine A_p (fun T Q _ _ k => V_iconst (x := 1) (pc2 := 371) (dk D_X13_readP 197 rfl) (by decide) rfl k) ?_
    refine A_p (fun T Q _ _ k => V_istore_n (pc2 := 372) (lv2 := [(0, _), (2, _), (3, _)]) (dk D_X13_readP 198 rfl) rfl (by decide) rfl rfl k) ?_
    exact h
  · have h := h.2 q10
    exact h
theorem a_readP_372 {X : Cx} {b d : Nat} {σ : Rm} {Q : Res → Rm → Prop} (x2 : Int32) (x3 : Int32) (h : ∃ e1 : Nat, e1 + 1 ≤ d ∧ AC X b e1 MX13_closes [vR b, vI 41] σ (aTV Q fun  s4 => ∃ e5 : Nat, e5 + 1 ≤ d ∧ AC X b e5 MX13_emit [vR b, vI 16, vI 0, vI x3] s4 (aRI fun y8 s9 => ∃ e10 : Nat, e10 + 1 ≤ d ∧ AC X b e10 MX13_asksFor [vR b, vI y8, vI x2, vI x3] s9 (aRV fun  s13 => A X b d MX13_readP 547 [(0, vR b)] [] s13 Q)))) : A X b d MX13_readP 372 [(0, vR b), (2, vI x2), (3, vI x3)] [] σ Q := by
  refine A_p (fun T Q _ _ k => V_aload_n (pc2 := 373) (dk D_X13_readP 199 rfl) rfl (V_lg 0 rfl) rfl k) ?_
  refine A_p (fun T Q _ _ k => V_bipush (x := 41) (pc2 := 375) (dk D_X13_readP 200 rfl) (by decide) rfl k) ?_
  obtain ⟨e1, he2, hc3⟩ := h
  refine A_callT (st := []) (pc2 := 378) (fun T Q Qc L hc k => V_callVT (as := [_]) (st := []) (M' := MX13_closes) (ci := 13) (pc2 := 378) (dk D_X13_readP 201 rfl) ml_13_370 mv_X13_closes rfl rfl (by decide) rfl (Nat.le_of_ble_eq_true rfl) rfl (by decide) he2 L.2.1 hc k) hc3 (aTV.k fun  s4 h => ?_)
  refine A_p (fun T Q _ _ k => V_aload_n (pc2 := 379) (dk D_X13_readP 202 rfl) rfl (V_lg 0 rfl) rfl k) ?_
  refine A_p (fun T Q _ _ k => V_bipush (x := 16) (pc2 := 381) (dk D_X13_readP 203 rfl) (by decide) rfl k) ?_
  refine A_p (fun T Q _ _ k => V_iconst (x := 0) (pc2 := 382) (dk D_X13_readP 204 rfl) (by decide) rfl k) ?_
  refine A_p (fun T Q _ _ k => V_iload_n (pc2 := 383) (dk D_X13_readP 205 rfl) rfl (V_lg 2 rfl) rfl k) ?_
  obtain ⟨e5, he6, hc7⟩ := h
  refine A_call (st := []) (pc2 := 386) (fun T Q Qc L hc k => V_callV (as := [_, _, _]) (st := []) (M' := MX13_emit) (ci := 13) (pc2 := 386) (dk D_X13_readP 206 rfl) ml_13_373 mv_X13_emit rfl rfl (by decide) rfl (Nat.le_of_ble_eq_true rfl) rfl he6 L.2.1 hc k) hc7 (aRI.k fun y8 s9 h => ?_)
  refine A_p (fun T Q _ _ k => V_istore_n (pc2 := 387) (lv2 := [(0, _), (1, _), (2, _), (3, _)]) (dk D_X13_readP 207 rfl) rfl (by decide) rfl rfl k) ?_
  refine A_p (fun T Q _ _ k => V_aload_n (pc2 := 388) (dk D_X13_readP 208 rfl) rfl (V_lg 0 rfl) rfl k) ?_
  refine A_p (fun T Q _ _ k => V_iload_n (pc2 := 389) (dk D_X13_readP 209 rfl) rfl (V_lg 1 rfl) rfl k) ?_
  refine A_p (fun T Q _ _ k => V_iload_n (pc2 := 390) (dk D_X13_readP 210 rfl) rfl (V_lg 2 rfl) rfl k) ?_
  refine A_p (fun T Q _ _ k => V_iload_n (pc2 := 391) (dk D_X13_readP 211 rfl) rfl (V_lg 3 rfl) rfl k) ?_
  obtain ⟨e10, he11, hc12⟩ := h
  refine A_call (st := []) (pc2 := 394) (fun T Q Qc L hc k => V_callV (as := [_, _, _]) (st := []) (M' := MX13_asksFor) (ci := 13) (pc2 := 394) (dk D_X13_readP 212 rfl) ml_13_435 mv_X13_asksFor rfl rfl (by decide) rfl (Nat.le_of_ble_eq_true rfl) rfl he11 L.2.1 hc k) hc12 (aRV.k fun  s13 h => ?_)
  refine A_p (fun T Q _ _ k => V_goto (tgt := 547) (dk D_X13_readP 213 rfl) (by decide) k) ?_
  refine A_p (fun T Q _ _ k => V_pick [0] (lv2 := [(0, _)]) rfl k) ?_
  exact h
theorem a_readP_415 {X : Cx} {b d : Nat} {σ : Rm} {Q : Res → Rm → Prop}  (h : ∃ e1 : Nat, e1 + 1 ≤ d ∧ AC X b e1 MX13_isWord [vR b, vR 17] σ (aRI fun y4 s5 => ((y4 = 0 → A X b d MX13_readP 431 [(0, vR b)] [vI 19] s5 Q) ∧ (¬ y4 = 0 → A X b d MX13_readP 431 [(0, vR b)] [vI 17] s5 Q)))) : A X b d MX13_readP 415 [(0, vR b)] [] σ Q := by
  refine A_p (fun T Q _ _ k => V_aload_n (pc2 := 416) (dk D_X13_readP 222 rfl) rfl (V_lg 0 rfl) rfl k) ?_
  refine A_p (fun T Q _ _ k => V_ldcs 15 (pc2 := 418) (dk D_X13_readP 223 rfl) rfl rfl k) ?_
  obtain ⟨e1, he2, hc3⟩ := h
  refine A_call (st := []) (pc2 := 421) (fun T Q Qc L hc k => V_callV (as := [_]) (st := []) (M' := MX13_isWord) (ci := 13) (pc2 := 421) (dk D_X13_readP 224 rfl) ml_13_341 mv_X13_isWord rfl rfl (by decide) rfl (Nat.le_of_ble_eq_true rfl) rfl he2 L.2.1 hc k) hc3 (aRI.k fun y4 s5 h => ?_)
  refine A_if (pa := 429) (pb := 424) (fun T Q k1 k2 => V_ifeq (tgt := 429) (pc2 := 424) (dk D_X13_readP 225 rfl) (by decide) rfl (fun q => k1 q) (fun q => k2 q)) (fun q6 => ?_) (fun q6 => ?_)
  · have h := h.1 q6
    refine A_p (fun T Q _ _ k => V_bipush (x := 19) (pc2 := 431) (dk D_X13_readP 228 rfl) (by decide) rfl k) ?_
    exact h
  · have h := h.2 q6
    refine A_p (fun T Q _ _ k => V_bipush (x := 17) (pc2 := 426) (dk D_X13_readP 226 rfl) (by decide) rfl k) ?_
    refine A_p (fun T Q _ _ k => V_goto (tgt := 431) (dk D_X13_readP 227 rfl) (by decide) k) ?_
    exact h
theorem a_readP_431 {X : Cx} {b d : Nat} {σ : Rm} {Q : Res → Rm → Prop} (t0 : Int32) (h : ∃ e1 : Nat, e1 + 1 ≤ d ∧ AC X b e1 MX13_opens [vR b] σ (aTV Q fun  s4 => ∃ e5 : Nat, e5 + 1 ≤ d ∧ AC X b e5 MX13_readU [vR b] s4 (aTV Q fun  s8 => ∃ e9 : Nat, e9 + 1 ≤ d ∧ AC X b e9 MX13_mustWord [vR b, vR 21] s8 (aTV Q fun  s12 => ∃ e13 : Nat, e13 + 1 ≤ d ∧ AC X b e13 MX13_readU [vR b] s12 (aTV Q fun  s16 => ∀ s17 : Rm, s17 = wS s16 12 ((sI s16 12) - 1) → ∃ e18 : Nat, e18 + 1 ≤ d ∧ AC X b e18 MX13_emit [vR b, vI t0, vI 0, vI 0] s17 (aRI fun y21 s22 => A X b d MX13_readP 547 [(0, vR b)] [] s22 Q)))))) : A X b d MX13_readP 431 [(0, vR b)] [vI t0] σ Q := by
  refine A_p (fun T Q _ _ k => V_istore_n (pc2 := 432) (lv2 := [(0, _), (2, _)]) (dk D_X13_readP 229 rfl) rfl (by decide) rfl rfl k) ?_
  refine A_p (fun T Q _ _ k => V_aload_n (pc2 := 433) (dk D_X13_readP 230 rfl) rfl (V_lg 0 rfl) rfl k) ?_
  obtain ⟨e1, he2, hc3⟩ := h
  refine A_callT (st := []) (pc2 := 436) (fun T Q Qc L hc k => V_callVT (as := []) (st := []) (M' := MX13_opens) (ci := 13) (pc2 := 436) (dk D_X13_readP 231 rfl) ml_13_363 mv_X13_opens rfl rfl (by decide) rfl (Nat.le_of_ble_eq_true rfl) rfl (by decide) he2 L.2.1 hc k) hc3 (aTV.k fun  s4 h => ?_)
  refine A_p (fun T Q _ _ k => V_aload_n (pc2 := 437) (dk D_X13_readP 232 rfl) rfl (V_lg 0 rfl) rfl k) ?_
  obtain ⟨e5, he6, hc7⟩ := h
  refine A_callT (st := []) (pc2 := 440) (fun T Q Qc L hc k => V_callST (as := [_]) (st := []) (M' := MX13_readU) (pc2 := 440) (dk D_X13_readP 233 rfl) ml_13_425 mv_X13_readU rfl rfl (Nat.le_of_ble_eq_true rfl) rfl (by decide) he6 hc k) hc7 (aTV.k fun  s8 h => ?_)
  refine A_p (fun T Q _ _ k => V_aload_n (pc2 := 441) (dk D_X13_readP 234 rfl) rfl (V_lg 0 rfl) rfl k) ?_
  refine A_p (fun T Q _ _ k => V_ldcs 19 (pc2 := 443) (dk D_X13_readP 235 rfl) rfl rfl k) ?_
  obtain ⟨e9, he10, hc11⟩ := h
  refine A_callT (st := []) (pc2 := 446) (fun T Q Qc L hc k => V_callVT (as := [_]) (st := []) (M' := MX13_mustWord) (ci := 13) (pc2 := 446) (dk D_X13_readP 236 rfl) ml_13_406 mv_X13_mustWord rfl rfl (by decide) rfl (Nat.le_of_ble_eq_true rfl) rfl (by decide) he10 L.2.1 hc k) hc11 (aTV.k fun  s12 h => ?_)
  refine A_p (fun T Q _ _ k => V_aload_n (pc2 := 447) (dk D_X13_readP 237 rfl) rfl (V_lg 0 rfl) rfl k) ?_
  obtain ⟨e13, he14, hc15⟩ := h
  refine A_callT (st := []) (pc2 := 450) (fun T Q Qc L hc k => V_callST (as := [_]) (st := []) (M' := MX13_readU) (pc2 := 450) (dk D_X13_readP 238 rfl) ml_13_425 mv_X13_readU rfl rfl (Nat.le_of_ble_eq_true rfl) rfl (by decide) he14 hc k) hc15 (aTV.k fun  s16 h => ?_)
  refine A_p (fun T Q _ _ k => V_aload_n (pc2 := 451) (dk D_X13_readP 239 rfl) rfl (V_lg 0 rfl) rfl k) ?_
  refine A_p (fun T Q _ _ k => V_dup (pc2 := 452) (dk D_X13_readP 240 rfl) rfl rfl k) ?_
  refine A_sc (pc2 := 455) 12 (dk D_X13_readP 241 rfl) fl_13_345 (by decide) rfl (fun _ => rfl) rfl ?_
  refine A_p (fun T Q _ _ k => V_iconst (x := 1) (pc2 := 456) (dk D_X13_readP 242 rfl) (by decide) rfl k) ?_
  refine A_p (fun T Q _ _ k => V_isub (pc2 := 457) (dk D_X13_readP 243 rfl) rfl k) ?_
  refine A_put (pc2 := 460) 12 (dk D_X13_readP 244 rfl) fl_13_345 (by decide) rfl rfl rfl rfl ?_
  have h := h _ rfl
  refine A_p (fun T Q _ _ k => V_aload_n (pc2 := 461) (dk D_X13_readP 245 rfl) rfl (V_lg 0 rfl) rfl k) ?_
  refine A_p (fun T Q _ _ k => V_iload_n (pc2 := 462) (dk D_X13_readP 246 rfl) rfl (V_lg 1 rfl) rfl k) ?_
  refine A_p (fun T Q _ _ k => V_iconst (x := 0) (pc2 := 463) (dk D_X13_readP 247 rfl) (by decide) rfl k) ?_
  refine A_p (fun T Q _ _ k => V_iconst (x := 0) (pc2 := 464) (dk D_X13_readP 248 rfl) (by decide) rfl k) ?_
  obtain ⟨e18, he19, hc20⟩ := h
  refine A_call (st := []) (pc2 := 467) (fun T Q Qc L hc k => V_callV (as := [_, _, _]) (st := []) (M' := MX13_emit) (ci := 13) (pc2 := 467) (dk D_X13_readP 249 rfl) ml_13_373 mv_X13_emit rfl rfl (by decide) rfl (Nat.le_of_ble_eq_true rfl) rfl he19 L.2.1 hc k) hc20 (aRI.k fun y21 s22 h => ?_)
  refine A_p (fun T Q _ _ k => V_istore_n (pc2 := 468) (lv2 := [(0, _), (1, _), (2, _)]) (dk D_X13_readP 250 rfl) rfl (by decide) rfl rfl k) ?_
  refine A_p (fun T Q _ _ k => V_goto (tgt := 547) (dk D_X13_readP 251 rfl) (by decide) k) ?_
  refine A_p (fun T Q _ _ k => V_pick [0] (lv2 := [(0, _)]) rfl k) ?_
  exact h
theorem a_readP_547 {X : Cx} {b d : Nat} {σ : Rm} {Q : Res → Rm → Prop}  (h : Q (.inl none) σ) : A X b d MX13_readP 547 [(0, vR b)] [] σ Q := by
  exact A_ret (fun T Q _ k => V_return (dk D_X13_readP 293 rfl) rfl k) h
theorem a_isComma_0 {X : Cx} {b d : Nat} {σ : Rm} {Q : Res → Rm → Prop}  (h : ∃ e1 : Nat, e1 + 1 ≤ d ∧ AC X b e1 MX13_isSign [vR b, vI 44] σ (aRI fun y4 s5 => (y4 = 0 ∨ y4 = 1) ∧ Q (.inl (some (vI y4))) s5)) : A X b d MX13_isComma 0 [(0, vR b)] [] σ Q := by
  refine A_p (fun T Q _ _ k => V_aload_n (pc2 := 1) (dk D_X13_isComma 0 rfl) rfl (V_lg 0 rfl) rfl k) ?_
  refine A_p (fun T Q _ _ k => V_bipush (x := 44) (pc2 := 3) (dk D_X13_isComma 1 rfl) (by decide) rfl k) ?_
  obtain ⟨e1, he2, hc3⟩ := h
  refine A_call (st := []) (pc2 := 6) (fun T Q Qc L hc k => V_callV (as := [_]) (st := []) (M' := MX13_isSign) (ci := 13) (pc2 := 6) (dk D_X13_isComma 2 rfl) ml_13_334 mv_X13_isSign rfl rfl (by decide) rfl (Nat.le_of_ble_eq_true rfl) rfl he2 L.2.1 hc k) hc3 (aRI.k fun y4 s5 h => ?_)
  obtain ⟨h6, h⟩ := h
  exact A_ret (fun T Q _ k => V_zreturn (dk D_X13_isComma 3 rfl) rfl h6 k) h
theorem a_asksFor_0 {X : Cx} {b d : Nat} {σ : Rm} {Q : Res → Rm → Prop} (x1 : Int32) (x2 : Int32) (x3 : Int32) (h : (vp_in (sI σ 41) 1600) ∧ ∀ s2 : Rm, s2 = wI σ 38 (((sI σ 41) : Int32).toNatClampNeg) x1 → (vp_in (sI s2 41) 1600) ∧ ∀ s4 : Rm, s4 = wI s2 39 (((sI s2 41) : Int32).toNatClampNeg) x2 → (vp_in (sI s4 41) 1600) ∧ ∀ s6 : Rm, s6 = wI s4 40 (((sI s4 41) : Int32).toNatClampNeg) x3 → ∀ s7 : Rm, s7 = wS s6 41 ((sI s6 41) + 1) → Q (.inl none) s7) : A X b d MX13_asksFor 0 [(0, vR b), (1, vI x1), (2, vI x2), (3, vI x3)] [] σ Q := by
  refine A_p (fun T Q _ _ k => V_aload_n (pc2 := 1) (dk D_X13_asksFor 0 rfl) rfl (V_lg 0 rfl) rfl k) ?_
  refine A_ar (pc2 := 4) (a := 27) 38 (dk D_X13_asksFor 1 rfl) fl_13_143 (by decide) (by decide) rfl (fun _ => rfl) rfl ?_
  refine A_p (fun T Q _ _ k => V_aload_n (pc2 := 5) (dk D_X13_asksFor 2 rfl) rfl (V_lg 0 rfl) rfl k) ?_
  refine A_sc (pc2 := 8) 41 (dk D_X13_asksFor 3 rfl) fl_13_442 (by decide) rfl (fun _ => rfl) rfl ?_
  refine A_p (fun T Q _ _ k => V_iload_n (pc2 := 9) (dk D_X13_asksFor 4 rfl) rfl (V_lg 1 rfl) rfl k) ?_
  obtain ⟨h1, h⟩ := h
  refine A_ist (pc2 := 10) 38 (dk D_X13_asksFor 5 rfl) rfl (by decide) rfl (by decide) rfl rfl h1 ?_
  have h := h _ rfl
  refine A_p (fun T Q _ _ k => V_aload_n (pc2 := 11) (dk D_X13_asksFor 6 rfl) rfl (V_lg 0 rfl) rfl k) ?_
  refine A_ar (pc2 := 14) (a := 28) 39 (dk D_X13_asksFor 7 rfl) fl_13_146 (by decide) (by decide) rfl (fun _ => rfl) rfl ?_
  refine A_p (fun T Q _ _ k => V_aload_n (pc2 := 15) (dk D_X13_asksFor 8 rfl) rfl (V_lg 0 rfl) rfl k) ?_
  refine A_sc (pc2 := 18) 41 (dk D_X13_asksFor 9 rfl) fl_13_442 (by decide) rfl (fun _ => rfl) rfl ?_
  refine A_p (fun T Q _ _ k => V_iload_n (pc2 := 19) (dk D_X13_asksFor 10 rfl) rfl (V_lg 2 rfl) rfl k) ?_
  obtain ⟨h3, h⟩ := h
  refine A_ist (pc2 := 20) 39 (dk D_X13_asksFor 11 rfl) rfl (by decide) rfl (by decide) rfl rfl h3 ?_
  have h := h _ rfl
  refine A_p (fun T Q _ _ k => V_aload_n (pc2 := 21) (dk D_X13_asksFor 12 rfl) rfl (V_lg 0 rfl) rfl k) ?_
  refine A_ar (pc2 := 24) (a := 29) 40 (dk D_X13_asksFor 13 rfl) fl_13_149 (by decide) (by decide) rfl (fun _ => rfl) rfl ?_
  refine A_p (fun T Q _ _ k => V_aload_n (pc2 := 25) (dk D_X13_asksFor 14 rfl) rfl (V_lg 0 rfl) rfl k) ?_
  refine A_sc (pc2 := 28) 41 (dk D_X13_asksFor 15 rfl) fl_13_442 (by decide) rfl (fun _ => rfl) rfl ?_
  refine A_p (fun T Q _ _ k => V_iload_n (pc2 := 29) (dk D_X13_asksFor 16 rfl) rfl (V_lg 3 rfl) rfl k) ?_
  obtain ⟨h5, h⟩ := h
  refine A_ist (pc2 := 30) 40 (dk D_X13_asksFor 17 rfl) rfl (by decide) rfl (by decide) rfl rfl h5 ?_
  have h := h _ rfl
  refine A_p (fun T Q _ _ k => V_aload_n (pc2 := 31) (dk D_X13_asksFor 18 rfl) rfl (V_lg 0 rfl) rfl k) ?_
  refine A_p (fun T Q _ _ k => V_dup (pc2 := 32) (dk D_X13_asksFor 19 rfl) rfl rfl k) ?_
  refine A_sc (pc2 := 35) 41 (dk D_X13_asksFor 20 rfl) fl_13_442 (by decide) rfl (fun _ => rfl) rfl ?_
  refine A_p (fun T Q _ _ k => V_iconst (x := 1) (pc2 := 36) (dk D_X13_asksFor 21 rfl) (by decide) rfl k) ?_
  refine A_p (fun T Q _ _ k => V_iadd (pc2 := 37) (dk D_X13_asksFor 22 rfl) rfl k) ?_
  refine A_put (pc2 := 40) 41 (dk D_X13_asksFor 23 rfl) fl_13_442 (by decide) rfl rfl rfl rfl ?_
  have h := h _ rfl
  exact A_ret (fun T Q _ k => V_return (dk D_X13_asksFor 24 rfl) rfl k) h
theorem a_readBody_0 {X : Cx} {b d : Nat} {σ : Rm} {Q : Res → Rm → Prop}  (h : (((sI σ 18) = 12 → A X b d MX13_readBody 27 [(0, vR b)] [] σ Q) ∧ (¬ (sI σ 18) = 12 → ∃ e2 : Nat, e2 + 1 ≤ d ∧ AC X b e2 MX13_isWord [vR b, vR 4] σ (aRI fun y5 s6 => ((y5 = 0 → ∃ e8 : Nat, e8 + 1 ≤ d ∧ AC X b e8 MX13_isWord [vR b, vR 5] s6 (aRI fun y11 s12 => ((y11 = 0 → A X b d MX13_readBody 27 [(0, vR b)] [] s12 Q) ∧ (¬ y11 = 0 → A X b d MX13_readBody 40 [(0, vR b)] [] s12 Q)))) ∧ (¬ y5 = 0 → A X b d MX13_readBody 40 [(0, vR b)] [] s6 Q)))))) : A X b d MX13_readBody 0 [(0, vR b)] [] σ Q := by
  refine A_p (fun T Q _ _ k => V_aload_n (pc2 := 1) (dk D_X13_readBody 0 rfl) rfl (V_lg 0 rfl) rfl k) ?_
  refine A_sc (pc2 := 4) 18 (dk D_X13_readBody 1 rfl) fl_13_445 (by decide) rfl (fun _ => rfl) rfl ?_
  refine A_p (fun T Q _ _ k => V_bipush (x := 12) (pc2 := 6) (dk D_X13_readBody 2 rfl) (by decide) rfl k) ?_
  refine A_if (pa := 27) (pb := 9) (fun T Q k1 k2 => V_cmpeq (tgt := 27) (pc2 := 9) (dk D_X13_readBody 3 rfl) (by decide) rfl (fun q => k1 q) (fun q => k2 q)) (fun q1 => ?_) (fun q1 => ?_)
  · have h := h.1 q1
    exact h
  · have h := h.2 q1
    refine A_p (fun T Q _ _ k => V_aload_n (pc2 := 10) (dk D_X13_readBody 4 rfl) rfl (V_lg 0 rfl) rfl k) ?_
    refine A_p (fun T Q _ _ k => V_ldcs 2 (pc2 := 12) (dk D_X13_readBody 5 rfl) rfl rfl k) ?_
    obtain ⟨e2, he3, hc4⟩ := h
    refine A_call (st := []) (pc2 := 15) (fun T Q Qc L hc k => V_callV (as := [_]) (st := []) (M' := MX13_isWord) (ci := 13) (pc2 := 15) (dk D_X13_readBody 6 rfl) ml_13_341 mv_X13_isWord rfl rfl (by decide) rfl (Nat.le_of_ble_eq_true rfl) rfl he3 L.2.1 hc k) hc4 (aRI.k fun y5 s6 h => ?_)
    refine A_if (pa := 18) (pb := 40) (fun T Q k1 k2 => V_ifne (tgt := 40) (pc2 := 18) (dk D_X13_readBody 7 rfl) (by decide) rfl (fun q => k2 q) (fun q => k1 q)) (fun q7 => ?_) (fun q7 => ?_)
    · have h := h.1 q7
      refine A_p (fun T Q _ _ k => V_aload_n (pc2 := 19) (dk D_X13_readBody 8 rfl) rfl (V_lg 0 rfl) rfl k) ?_
      refine A_p (fun T Q _ _ k => V_ldcs 3 (pc2 := 21) (dk D_X13_readBody 9 rfl) rfl rfl k) ?_
      obtain ⟨e8, he9, hc10⟩ := h
      refine A_call (st := []) (pc2 := 24) (fun T Q Qc L hc k => V_callV (as := [_]) (st := []) (M' := MX13_isWord) (ci := 13) (pc2 := 24) (dk D_X13_readBody 10 rfl) ml_13_341 mv_X13_isWord rfl rfl (by decide) rfl (Nat.le_of_ble_eq_true rfl) rfl he9 L.2.1 hc k) hc10 (aRI.k fun y11 s12 h => ?_)
      refine A_if (pa := 27) (pb := 40) (fun T Q k1 k2 => V_ifne (tgt := 40) (pc2 := 27) (dk D_X13_readBody 11 rfl) (by decide) rfl (fun q => k2 q) (fun q => k1 q)) (fun q13 => ?_) (fun q13 => ?_)
      · have h := h.1 q13
        exact h
      · have h := h.2 q13
        exact h
    · have h := h.2 q7
      exact h
theorem a_readBody_27 {X : Cx} {b d : Nat} {σ : Rm} {Q : Res → Rm → Prop}  (h : (vp_in (sI σ 10) 3002) ∧ ∃ e2 : Nat, e2 + 1 ≤ d ∧ AC X b e2 MX13_fail [vR b, vI (aI σ 6 ((sI σ 10) : Int32).toNatClampNeg)] σ (aTV Q fun  s5 => A X b d MX13_readBody 40 [(0, vR b)] [] s5 Q)) : A X b d MX13_readBody 27 [(0, vR b)] [] σ Q := by
  refine A_p (fun T Q _ _ k => V_aload_n (pc2 := 28) (dk D_X13_readBody 12 rfl) rfl (V_lg 0 rfl) rfl k) ?_
  refine A_p (fun T Q _ _ k => V_aload_n (pc2 := 29) (dk D_X13_readBody 13 rfl) rfl (V_lg 0 rfl) rfl k) ?_
  refine A_ar (pc2 := 32) (a := 5) 6 (dk D_X13_readBody 14 rfl) fl_13_27 (by decide) (by decide) rfl (fun _ => rfl) rfl ?_
  refine A_p (fun T Q _ _ k => V_aload_n (pc2 := 33) (dk D_X13_readBody 15 rfl) rfl (V_lg 0 rfl) rfl k) ?_
  refine A_sc (pc2 := 36) 10 (dk D_X13_readBody 16 rfl) fl_13_331 (by decide) rfl (fun _ => rfl) rfl ?_
  obtain ⟨h1, h⟩ := h
  refine A_ild (pc2 := 37) 6 (dk D_X13_readBody 17 rfl) rfl (by decide) rfl (by decide) rfl rfl h1 ?_
  obtain ⟨e2, he3, hc4⟩ := h
  refine A_callT (st := []) (pc2 := 40) (fun T Q Qc L hc k => V_callVT (as := [_]) (st := []) (M' := MX13_fail) (ci := 13) (pc2 := 40) (dk D_X13_readBody 18 rfl) ml_13_337 mv_X13_fail rfl rfl (by decide) rfl (Nat.le_of_ble_eq_true rfl) rfl (by decide) he3 L.2.1 hc k) hc4 (aTV.k fun  s5 h => ?_)
  exact h
theorem a_readBody_40 {X : Cx} {b d : Nat} {σ : Rm} {Q : Res → Rm → Prop}  (h : ∃ e1 : Nat, e1 + 1 ≤ d ∧ AC X b e1 MX13_isWord [vR b, vR 4] σ (aRI fun y4 s5 => ∀ s6 : Rm, s6 = wS s5 10 ((sI s5 10) + 1) → ∃ e7 : Nat, e7 + 1 ≤ d ∧ AC X b e7 MX13_mustName [vR b] s6 (aTI Q fun y10 s11 => ((y4 = 0 → A X b d MX13_readBody 81 [(0, vR b), (1, vI y4), (2, vI y10), (3, vI (sI s11 18))] [vI 0, vI (sI s11 18), vR (b + 14)] s11 Q) ∧ (¬ y4 = 0 → A X b d MX13_readBody 81 [(0, vR b), (1, vI y4), (2, vI y10), (3, vI (sI s11 18))] [vI 1, vI (sI s11 18), vR (b + 14)] s11 Q))))) : A X b d MX13_readBody 40 [(0, vR b)] [] σ Q := by
  refine A_p (fun T Q _ _ k => V_aload_n (pc2 := 41) (dk D_X13_readBody 19 rfl) rfl (V_lg 0 rfl) rfl k) ?_
  refine A_p (fun T Q _ _ k => V_ldcs 2 (pc2 := 43) (dk D_X13_readBody 20 rfl) rfl rfl k) ?_
  obtain ⟨e1, he2, hc3⟩ := h
  refine A_call (st := []) (pc2 := 46) (fun T Q Qc L hc k => V_callV (as := [_]) (st := []) (M' := MX13_isWord) (ci := 13) (pc2 := 46) (dk D_X13_readBody 21 rfl) ml_13_341 mv_X13_isWord rfl rfl (by decide) rfl (Nat.le_of_ble_eq_true rfl) rfl he2 L.2.1 hc k) hc3 (aRI.k fun y4 s5 h => ?_)
  refine A_p (fun T Q _ _ k => V_istore_n (pc2 := 47) (lv2 := [(0, _), (1, _)]) (dk D_X13_readBody 22 rfl) rfl (by decide) rfl rfl k) ?_
  refine A_p (fun T Q _ _ k => V_aload_n (pc2 := 48) (dk D_X13_readBody 23 rfl) rfl (V_lg 0 rfl) rfl k) ?_
  refine A_p (fun T Q _ _ k => V_dup (pc2 := 49) (dk D_X13_readBody 24 rfl) rfl rfl k) ?_
  refine A_sc (pc2 := 52) 10 (dk D_X13_readBody 25 rfl) fl_13_331 (by decide) rfl (fun _ => rfl) rfl ?_
  refine A_p (fun T Q _ _ k => V_iconst (x := 1) (pc2 := 53) (dk D_X13_readBody 26 rfl) (by decide) rfl k) ?_
  refine A_p (fun T Q _ _ k => V_iadd (pc2 := 54) (dk D_X13_readBody 27 rfl) rfl k) ?_
  refine A_put (pc2 := 57) 10 (dk D_X13_readBody 28 rfl) fl_13_331 (by decide) rfl rfl rfl rfl ?_
  have h := h _ rfl
  refine A_p (fun T Q _ _ k => V_aload_n (pc2 := 58) (dk D_X13_readBody 29 rfl) rfl (V_lg 0 rfl) rfl k) ?_
  obtain ⟨e7, he8, hc9⟩ := h
  refine A_callT (st := []) (pc2 := 61) (fun T Q Qc L hc k => V_callVT (as := []) (st := []) (M' := MX13_mustName) (ci := 13) (pc2 := 61) (dk D_X13_readBody 30 rfl) ml_13_399 mv_X13_mustName rfl rfl (by decide) rfl (Nat.le_of_ble_eq_true rfl) rfl (by decide) he8 L.2.1 hc k) hc9 (aTI.k fun y10 s11 h => ?_)
  refine A_p (fun T Q _ _ k => V_istore_n (pc2 := 62) (lv2 := [(0, _), (1, _), (2, _)]) (dk D_X13_readBody 31 rfl) rfl (by decide) rfl rfl k) ?_
  refine A_p (fun T Q _ _ k => V_aload_n (pc2 := 63) (dk D_X13_readBody 32 rfl) rfl (V_lg 0 rfl) rfl k) ?_
  refine A_sc (pc2 := 66) 18 (dk D_X13_readBody 33 rfl) fl_13_445 (by decide) rfl (fun _ => rfl) rfl ?_
  refine A_p (fun T Q _ _ k => V_istore_n (pc2 := 67) (lv2 := [(0, _), (1, _), (2, _), (3, _)]) (dk D_X13_readBody 34 rfl) rfl (by decide) rfl rfl k) ?_
  refine A_p (fun T Q _ _ k => V_aload_n (pc2 := 68) (dk D_X13_readBody 35 rfl) rfl (V_lg 0 rfl) rfl k) ?_
  refine A_ar (pc2 := 71) (a := 14) 19 (dk D_X13_readBody 36 rfl) fl_13_104 (by decide) (by decide) rfl (fun _ => rfl) rfl ?_
  refine A_p (fun T Q _ _ k => V_iload_n (pc2 := 72) (dk D_X13_readBody 37 rfl) rfl (V_lg 3 rfl) rfl k) ?_
  refine A_p (fun T Q _ _ k => V_iload_n (pc2 := 73) (dk D_X13_readBody 38 rfl) rfl (V_lg 1 rfl) rfl k) ?_
  refine A_if (pa := 80) (pb := 76) (fun T Q k1 k2 => V_ifeq (tgt := 80) (pc2 := 76) (dk D_X13_readBody 39 rfl) (by decide) rfl (fun q => k1 q) (fun q => k2 q)) (fun q12 => ?_) (fun q12 => ?_)
  · have h := h.1 q12
    refine A_p (fun T Q _ _ k => V_iconst (x := 0) (pc2 := 81) (dk D_X13_readBody 42 rfl) (by decide) rfl k) ?_
    exact h
  · have h := h.2 q12
    refine A_p (fun T Q _ _ k => V_iconst (x := 1) (pc2 := 77) (dk D_X13_readBody 40 rfl) (by decide) rfl k) ?_
    refine A_p (fun T Q _ _ k => V_goto (tgt := 81) (dk D_X13_readBody 41 rfl) (by decide) k) ?_
    exact h
theorem a_readBody_81 {X : Cx} {b d : Nat} {σ : Rm} {Q : Res → Rm → Prop} (x1 : Int32) (x2 : Int32) (x3 : Int32) (t1 : Int32) (t2 : Int32) (h : (vp_in t1 12) ∧ ∀ s2 : Rm, s2 = wI σ 19 ((t1 : Int32).toNatClampNeg) t2 → (vp_in x2 3002) ∧ (vp_in x3 12) ∧ ∀ s5 : Rm, s5 = wI s2 22 ((x3 : Int32).toNatClampNeg) (aI s2 6 (x2 : Int32).toNatClampNeg) → A X b d MX13_readBody 97 [(0, vR b), (1, vI x1), (2, vI x2), (3, vI x3), (4, vI 0)] [] s5 Q) : A X b d MX13_readBody 81 [(0, vR b), (1, vI x1), (2, vI x2), (3, vI x3)] [vI t2, vI t1, vR (b + 14)] σ Q := by
  obtain ⟨h1, h⟩ := h
  refine A_ist (pc2 := 82) 19 (dk D_X13_readBody 43 rfl) rfl (by decide) rfl (by decide) rfl rfl h1 ?_
  have h := h _ rfl
  refine A_p (fun T Q _ _ k => V_aload_n (pc2 := 83) (dk D_X13_readBody 44 rfl) rfl (V_lg 0 rfl) rfl k) ?_
  refine A_ar (pc2 := 86) (a := 17) 22 (dk D_X13_readBody 45 rfl) fl_13_113 (by decide) (by decide) rfl (fun _ => rfl) rfl ?_
  refine A_p (fun T Q _ _ k => V_iload_n (pc2 := 87) (dk D_X13_readBody 46 rfl) rfl (V_lg 3 rfl) rfl k) ?_
  refine A_p (fun T Q _ _ k => V_aload_n (pc2 := 88) (dk D_X13_readBody 47 rfl) rfl (V_lg 0 rfl) rfl k) ?_
  refine A_ar (pc2 := 91) (a := 5) 6 (dk D_X13_readBody 48 rfl) fl_13_27 (by decide) (by decide) rfl (fun _ => rfl) rfl ?_
  refine A_p (fun T Q _ _ k => V_iload_n (pc2 := 92) (dk D_X13_readBody 49 rfl) rfl (V_lg 2 rfl) rfl k) ?_
  obtain ⟨h3, h⟩ := h
  refine A_ild (pc2 := 93) 6 (dk D_X13_readBody 50 rfl) rfl (by decide) rfl (by decide) rfl rfl h3 ?_
  obtain ⟨h4, h⟩ := h
  refine A_ist (pc2 := 94) 22 (dk D_X13_readBody 51 rfl) rfl (by decide) rfl (by decide) rfl rfl h4 ?_
  have h := h _ rfl
  refine A_p (fun T Q _ _ k => V_iconst (x := 0) (pc2 := 95) (dk D_X13_readBody 52 rfl) (by decide) rfl k) ?_
  refine A_p (fun T Q _ _ k => V_istore (pc2 := 97) (lv2 := [(0, _), (1, _), (2, _), (3, _), (4, _)]) (dk D_X13_readBody 53 rfl) (by decide) rfl rfl k) ?_
  exact h
theorem a_readBody_97 {X : Cx} {b d : Nat} {σ : Rm} {Q : Res → Rm → Prop} (x1 : Int32) (x2 : Int32) (x3 : Int32) (x4 : Int32) (h : ((x3 ≤ x4 → (vp_in x2 3002) ∧ (vp_in x3 12) ∧ ∀ s4 : Rm, s4 = wL σ 26 ((x3 : Int32).toNatClampNeg) (aL σ 9 (x2 : Int32).toNatClampNeg) → ∀ s5 : Rm, s5 = wS s4 18 ((sI s4 18) + 1) → ∀ s6 : Rm, s6 = wS s5 25 0 → ∀ s7 : Rm, s7 = wS s6 44 0 → ∃ e8 : Nat, e8 + 1 ≤ d ∧ AC X b e8 MX13_isSign [vR b, vI 40] s7 (aRI fun y11 s12 => ((y11 = 0 → (vp_in (sI s12 10) 3002) ∧ ∃ e15 : Nat, e15 + 1 ≤ d ∧ AC X b e15 MX13_fail [vR b, vI (aI s12 6 ((sI s12 10) : Int32).toNatClampNeg)] s12 (aTV Q fun  s18 => A X b d MX13_readBody 185 [(0, vR b), (1, vI x1), (2, vI x2), (3, vI x3), (4, vI x4)] [] s18 Q)) ∧ (¬ y11 = 0 → A X b d MX13_readBody 185 [(0, vR b), (1, vI x1), (2, vI x2), (3, vI x3), (4, vI x4)] [] s12 Q)))) ∧ (¬ x3 ≤ x4 → (vp_in x4 12) ∧ (vp_in x2 3002) ∧ (((lg_cmp (aL σ 26 (x4 : Int32).toNatClampNeg) (aL σ 9 (x2 : Int32).toNatClampNeg)) = 0 → ∃ e22 : Nat, e22 + 1 ≤ d ∧ AC X b e22 MX13_blame [vR b, vI x2] σ (aRV fun  s25 => A X b d MX13_readBody 125 [(0, vR b), (1, vI x1), (2, vI x2), (3, vI x3), (4, vI x4)] [] s25 Q)) ∧ (¬ (lg_cmp (aL σ 26 (x4 : Int32).toNatClampNeg) (aL σ 9 (x2 : Int32).toNatClampNeg)) = 0 → A X b d MX13_readBody 125 [(0, vR b), (1, vI x1), (2, vI x2), (3, vI x3), (4, vI x4)] [] σ Q))))) : A X b d MX13_readBody 97 [(0, vR b), (1, vI x1), (2, vI x2), (3, vI x3), (4, vI x4)] [] σ Q := by
  refine A_p (fun T Q _ _ k => V_iload (pc2 := 99) (dk D_X13_readBody 54 rfl) (V_lg 4 rfl) rfl k) ?_
  refine A_p (fun T Q _ _ k => V_iload_n (pc2 := 100) (dk D_X13_readBody 55 rfl) rfl (V_lg 3 rfl) rfl k) ?_
  refine A_if (pa := 131) (pb := 103) (fun T Q k1 k2 => V_cmpge (tgt := 131) (pc2 := 103) (dk D_X13_readBody 56 rfl) (by decide) rfl (fun q => k1 q) (fun q => k2 q)) (fun q1 => ?_) (fun q1 => ?_)
  · have h := h.1 q1
    refine A_p (fun T Q _ _ k => V_aload_n (pc2 := 132) (dk D_X13_readBody 72 rfl) rfl (V_lg 0 rfl) rfl k) ?_
    refine A_ar (pc2 := 135) (a := 20) 26 (dk D_X13_readBody 73 rfl) fl_13_122 (by decide) (by decide) rfl (fun _ => rfl) rfl ?_
    refine A_p (fun T Q _ _ k => V_iload_n (pc2 := 136) (dk D_X13_readBody 74 rfl) rfl (V_lg 3 rfl) rfl k) ?_
    refine A_p (fun T Q _ _ k => V_aload_n (pc2 := 137) (dk D_X13_readBody 75 rfl) rfl (V_lg 0 rfl) rfl k) ?_
    refine A_ar (pc2 := 140) (a := 8) 9 (dk D_X13_readBody 76 rfl) fl_13_36 (by decide) (by decide) rfl (fun _ => rfl) rfl ?_
    refine A_p (fun T Q _ _ k => V_iload_n (pc2 := 141) (dk D_X13_readBody 77 rfl) rfl (V_lg 2 rfl) rfl k) ?_
    obtain ⟨h2, h⟩ := h
    refine A_lld (pc2 := 142) 9 (dk D_X13_readBody 78 rfl) rfl (by decide) rfl (by decide) rfl rfl h2 ?_
    obtain ⟨h3, h⟩ := h
    refine A_lst (pc2 := 143) 26 (dk D_X13_readBody 79 rfl) rfl (by decide) rfl (by decide) rfl rfl h3 ?_
    have h := h _ rfl
    refine A_p (fun T Q _ _ k => V_aload_n (pc2 := 144) (dk D_X13_readBody 80 rfl) rfl (V_lg 0 rfl) rfl k) ?_
    refine A_p (fun T Q _ _ k => V_dup (pc2 := 145) (dk D_X13_readBody 81 rfl) rfl rfl k) ?_
    refine A_sc (pc2 := 148) 18 (dk D_X13_readBody 82 rfl) fl_13_445 (by decide) rfl (fun _ => rfl) rfl ?_
    refine A_p (fun T Q _ _ k => V_iconst (x := 1) (pc2 := 149) (dk D_X13_readBody 83 rfl) (by decide) rfl k) ?_
    refine A_p (fun T Q _ _ k => V_iadd (pc2 := 150) (dk D_X13_readBody 84 rfl) rfl k) ?_
    refine A_put (pc2 := 153) 18 (dk D_X13_readBody 85 rfl) fl_13_445 (by decide) rfl rfl rfl rfl ?_
    have h := h _ rfl
    refine A_p (fun T Q _ _ k => V_aload_n (pc2 := 154) (dk D_X13_readBody 86 rfl) rfl (V_lg 0 rfl) rfl k) ?_
    refine A_p (fun T Q _ _ k => V_iconst (x := 0) (pc2 := 155) (dk D_X13_readBody 87 rfl) (by decide) rfl k) ?_
    refine A_put (pc2 := 158) 25 (dk D_X13_readBody 88 rfl) fl_13_357 (by decide) rfl rfl rfl rfl ?_
    have h := h _ rfl
    refine A_p (fun T Q _ _ k => V_aload_n (pc2 := 159) (dk D_X13_readBody 89 rfl) rfl (V_lg 0 rfl) rfl k) ?_
    refine A_p (fun T Q _ _ k => V_iconst (x := 0) (pc2 := 160) (dk D_X13_readBody 90 rfl) (by decide) rfl k) ?_
    refine A_put (pc2 := 163) 44 (dk D_X13_readBody 91 rfl) fl_13_439 (by decide) rfl rfl rfl rfl ?_
    have h := h _ rfl
    refine A_p (fun T Q _ _ k => V_aload_n (pc2 := 164) (dk D_X13_readBody 92 rfl) rfl (V_lg 0 rfl) rfl k) ?_
    refine A_p (fun T Q _ _ k => V_bipush (x := 40) (pc2 := 166) (dk D_X13_readBody 93 rfl) (by decide) rfl k) ?_
    obtain ⟨e8, he9, hc10⟩ := h
    refine A_call (st := []) (pc2 := 169) (fun T Q Qc L hc k => V_callV (as := [_]) (st := []) (M' := MX13_isSign) (ci := 13) (pc2 := 169) (dk D_X13_readBody 94 rfl) ml_13_334 mv_X13_isSign rfl rfl (by decide) rfl (Nat.le_of_ble_eq_true rfl) rfl he9 L.2.1 hc k) hc10 (aRI.k fun y11 s12 h => ?_)
    refine A_if (pa := 172) (pb := 185) (fun T Q k1 k2 => V_ifne (tgt := 185) (pc2 := 172) (dk D_X13_readBody 95 rfl) (by decide) rfl (fun q => k2 q) (fun q => k1 q)) (fun q13 => ?_) (fun q13 => ?_)
    · have h := h.1 q13
      refine A_p (fun T Q _ _ k => V_aload_n (pc2 := 173) (dk D_X13_readBody 96 rfl) rfl (V_lg 0 rfl) rfl k) ?_
      refine A_p (fun T Q _ _ k => V_aload_n (pc2 := 174) (dk D_X13_readBody 97 rfl) rfl (V_lg 0 rfl) rfl k) ?_
      refine A_ar (pc2 := 177) (a := 5) 6 (dk D_X13_readBody 98 rfl) fl_13_27 (by decide) (by decide) rfl (fun _ => rfl) rfl ?_
      refine A_p (fun T Q _ _ k => V_aload_n (pc2 := 178) (dk D_X13_readBody 99 rfl) rfl (V_lg 0 rfl) rfl k) ?_
      refine A_sc (pc2 := 181) 10 (dk D_X13_readBody 100 rfl) fl_13_331 (by decide) rfl (fun _ => rfl) rfl ?_
      obtain ⟨h14, h⟩ := h
      refine A_ild (pc2 := 182) 6 (dk D_X13_readBody 101 rfl) rfl (by decide) rfl (by decide) rfl rfl h14 ?_
      obtain ⟨e15, he16, hc17⟩ := h
      refine A_callT (st := []) (pc2 := 185) (fun T Q Qc L hc k => V_callVT (as := [_]) (st := []) (M' := MX13_fail) (ci := 13) (pc2 := 185) (dk D_X13_readBody 102 rfl) ml_13_337 mv_X13_fail rfl rfl (by decide) rfl (Nat.le_of_ble_eq_true rfl) rfl (by decide) he16 L.2.1 hc k) hc17 (aTV.k fun  s18 h => ?_)
      exact h
    · have h := h.2 q13
      exact h
  · have h := h.2 q1
    refine A_p (fun T Q _ _ k => V_aload_n (pc2 := 104) (dk D_X13_readBody 57 rfl) rfl (V_lg 0 rfl) rfl k) ?_
    refine A_ar (pc2 := 107) (a := 20) 26 (dk D_X13_readBody 58 rfl) fl_13_122 (by decide) (by decide) rfl (fun _ => rfl) rfl ?_
    refine A_p (fun T Q _ _ k => V_iload (pc2 := 109) (dk D_X13_readBody 59 rfl) (V_lg 4 rfl) rfl k) ?_
    obtain ⟨h19, h⟩ := h
    refine A_lld (pc2 := 110) 26 (dk D_X13_readBody 60 rfl) rfl (by decide) rfl (by decide) rfl rfl h19 ?_
    refine A_p (fun T Q _ _ k => V_aload_n (pc2 := 111) (dk D_X13_readBody 61 rfl) rfl (V_lg 0 rfl) rfl k) ?_
    refine A_ar (pc2 := 114) (a := 8) 9 (dk D_X13_readBody 62 rfl) fl_13_36 (by decide) (by decide) rfl (fun _ => rfl) rfl ?_
    refine A_p (fun T Q _ _ k => V_iload_n (pc2 := 115) (dk D_X13_readBody 63 rfl) rfl (V_lg 2 rfl) rfl k) ?_
    obtain ⟨h20, h⟩ := h
    refine A_lld (pc2 := 116) 9 (dk D_X13_readBody 64 rfl) rfl (by decide) rfl (by decide) rfl rfl h20 ?_
    refine A_p (fun T Q _ _ k => V_lcmp (pc2 := 117) (dk D_X13_readBody 65 rfl) rfl k) ?_
    refine A_if (pa := 120) (pb := 125) (fun T Q k1 k2 => V_ifne (tgt := 125) (pc2 := 120) (dk D_X13_readBody 66 rfl) (by decide) rfl (fun q => k2 q) (fun q => k1 q)) (fun q21 => ?_) (fun q21 => ?_)
    · have h := h.1 q21
      refine A_p (fun T Q _ _ k => V_aload_n (pc2 := 121) (dk D_X13_readBody 67 rfl) rfl (V_lg 0 rfl) rfl k) ?_
      refine A_p (fun T Q _ _ k => V_iload_n (pc2 := 122) (dk D_X13_readBody 68 rfl) rfl (V_lg 2 rfl) rfl k) ?_
      obtain ⟨e22, he23, hc24⟩ := h
      refine A_call (st := []) (pc2 := 125) (fun T Q Qc L hc k => V_callV (as := [_]) (st := []) (M' := MX13_blame) (ci := 13) (pc2 := 125) (dk D_X13_readBody 69 rfl) ml_13_360 mv_X13_blame rfl rfl (by decide) rfl (Nat.le_of_ble_eq_true rfl) rfl he23 L.2.1 hc k) hc24 (aRV.k fun  s25 h => ?_)
      exact h
    · have h := h.2 q21
      exact h
theorem a_readBody_125 {X : Cx} {b d : Nat} {σ : Rm} {Q : Res → Rm → Prop} (x1 : Int32) (x2 : Int32) (x3 : Int32) (x4 : Int32) (h : A X b d MX13_readBody 97 [(0, vR b), (1, vI x1), (2, vI x2), (3, vI x3), (4, vI (x4 + 1))] [] σ Q) : A X b d MX13_readBody 125 [(0, vR b), (1, vI x1), (2, vI x2), (3, vI x3), (4, vI x4)] [] σ Q := by
  refine A_p (fun T Q _ _ k => V_iinc (y := _ + 1) (pc2 := 128) (lv2 := [(0, _), (1, _), (2, _), (3, _), (4, _)]) (dk D_X13_readBody 70 rfl) (V_lg 4 rfl) rfl (by decide) rfl rfl k) ?_
  refine A_p (fun T Q _ _ k => V_goto (tgt := 97) (dk D_X13_readBody 71 rfl) (by decide) k) ?_
  exact h
theorem a_readBody_185 {X : Cx} {b d : Nat} {σ : Rm} {Q : Res → Rm → Prop} (x1 : Int32) (x2 : Int32) (x3 : Int32) (x4 : Int32) (h : ∃ e1 : Nat, e1 + 1 ≤ d ∧ AC X b e1 MX13_opens [vR b] σ (aTV Q fun  s4 => A X b d MX13_readBody 192 [(0, vR b), (1, vI x1), (2, vI x2), (3, vI x3), (4, vI 0)] [] s4 Q)) : A X b d MX13_readBody 185 [(0, vR b), (1, vI x1), (2, vI x2), (3, vI x3), (4, vI x4)] [] σ Q := by
  refine A_p (fun T Q _ _ k => V_aload_n (pc2 := 186) (dk D_X13_readBody 103 rfl) rfl (V_lg 0 rfl) rfl k) ?_
  obtain ⟨e1, he2, hc3⟩ := h
  refine A_callT (st := []) (pc2 := 189) (fun T Q Qc L hc k => V_callVT (as := []) (st := []) (M' := MX13_opens) (ci := 13) (pc2 := 189) (dk D_X13_readBody 104 rfl) ml_13_363 mv_X13_opens rfl rfl (by decide) rfl (Nat.le_of_ble_eq_true rfl) rfl (by decide) he2 L.2.1 hc k) hc3 (aTV.k fun  s4 h => ?_)
  refine A_p (fun T Q _ _ k => V_iconst (x := 0) (pc2 := 190) (dk D_X13_readBody 105 rfl) (by decide) rfl k) ?_
  refine A_p (fun T Q _ _ k => V_istore (pc2 := 192) (lv2 := [(0, _), (1, _), (2, _), (3, _), (4, _)]) (dk D_X13_readBody 106 rfl) (by decide) rfl rfl k) ?_
  exact h
theorem a_readBody_192 {X : Cx} {b d : Nat} {σ : Rm} {Q : Res → Rm → Prop} (x1 : Int32) (x2 : Int32) (x3 : Int32) (x4 : Int32) (h : (vp_in (sI σ 10) 3002) ∧ (((aI σ 5 ((sI σ 10) : Int32).toNatClampNeg) = 1 → A X b d MX13_readBody 219 [(0, vR b), (1, vI x1), (2, vI x2), (3, vI x3), (4, vI x4)] [] σ Q) ∧ (¬ (aI σ 5 ((sI σ 10) : Int32).toNatClampNeg) = 1 → ((x4 ≤ 0 → A X b d MX13_readBody 327 [(0, vR b), (1, vI x1), (2, vI x2), (3, vI x3), (4, vI x4)] [] σ Q) ∧ (¬ x4 ≤ 0 → ∃ e4 : Nat, e4 + 1 ≤ d ∧ AC X b e4 MX13_isSign [vR b, vI 41] σ (aRI fun y7 s8 => ((y7 = 0 → A X b d MX13_readBody 219 [(0, vR b), (1, vI x1), (2, vI x2), (3, vI x3), (4, vI x4)] [] s8 Q) ∧ (¬ y7 = 0 → A X b d MX13_readBody 327 [(0, vR b), (1, vI x1), (2, vI x2), (3, vI x3), (4, vI x4)] [] s8 Q)))))))) : A X b d MX13_readBody 192 [(0, vR b), (1, vI x1), (2, vI x2), (3, vI x3), (4, vI x4)] [] σ Q := by
  refine A_p (fun T Q _ _ k => V_aload_n (pc2 := 193) (dk D_X13_readBody 107 rfl) rfl (V_lg 0 rfl) rfl k) ?_
  refine A_ar (pc2 := 196) (a := 4) 5 (dk D_X13_readBody 108 rfl) fl_13_23 (by decide) (by decide) rfl (fun _ => rfl) rfl ?_
  refine A_p (fun T Q _ _ k => V_aload_n (pc2 := 197) (dk D_X13_readBody 109 rfl) rfl (V_lg 0 rfl) rfl k) ?_
  refine A_sc (pc2 := 200) 10 (dk D_X13_readBody 110 rfl) fl_13_331 (by decide) rfl (fun _ => rfl) rfl ?_
  obtain ⟨h1, h⟩ := h
  refine A_ild (pc2 := 201) 5 (dk D_X13_readBody 111 rfl) rfl (by decide) rfl (by decide) rfl rfl h1 ?_
  refine A_p (fun T Q _ _ k => V_iconst (x := 1) (pc2 := 202) (dk D_X13_readBody 112 rfl) (by decide) rfl k) ?_
  refine A_if (pa := 219) (pb := 205) (fun T Q k1 k2 => V_cmpeq (tgt := 219) (pc2 := 205) (dk D_X13_readBody 113 rfl) (by decide) rfl (fun q => k1 q) (fun q => k2 q)) (fun q2 => ?_) (fun q2 => ?_)
  · have h := h.1 q2
    exact h
  · have h := h.2 q2
    refine A_p (fun T Q _ _ k => V_iload (pc2 := 207) (dk D_X13_readBody 114 rfl) (V_lg 4 rfl) rfl k) ?_
    refine A_if (pa := 327) (pb := 210) (fun T Q k1 k2 => V_ifle (tgt := 327) (pc2 := 210) (dk D_X13_readBody 115 rfl) (by decide) rfl (fun q => k1 q) (fun q => k2 q)) (fun q3 => ?_) (fun q3 => ?_)
    · have h := h.1 q3
      exact h
    · have h := h.2 q3
      refine A_p (fun T Q _ _ k => V_aload_n (pc2 := 211) (dk D_X13_readBody 116 rfl) rfl (V_lg 0 rfl) rfl k) ?_
      refine A_p (fun T Q _ _ k => V_bipush (x := 41) (pc2 := 213) (dk D_X13_readBody 117 rfl) (by decide) rfl k) ?_
      obtain ⟨e4, he5, hc6⟩ := h
      refine A_call (st := []) (pc2 := 216) (fun T Q Qc L hc k => V_callV (as := [_]) (st := []) (M' := MX13_isSign) (ci := 13) (pc2 := 216) (dk D_X13_readBody 118 rfl) ml_13_334 mv_X13_isSign rfl rfl (by decide) rfl (Nat.le_of_ble_eq_true rfl) rfl he5 L.2.1 hc k) hc6 (aRI.k fun y7 s8 h => ?_)
      refine A_if (pa := 219) (pb := 327) (fun T Q k1 k2 => V_ifne (tgt := 327) (pc2 := 219) (dk D_X13_readBody 119 rfl) (by decide) rfl (fun q => k2 q) (fun q => k1 q)) (fun q9 => ?_) (fun q9 => ?_)
      · have h := h.1 q9
        exact h
      · have h := h.2 q9
        exact h
theorem a_readBody_219 {X : Cx} {b d : Nat} {σ : Rm} {Q : Res → Rm → Prop} (x1 : Int32) (x2 : Int32) (x3 : Int32) (x4 : Int32) (h : ((x4 ≤ 0 → A X b d MX13_readBody 247 [(0, vR b), (1, vI x1), (2, vI x2), (3, vI x3), (4, vI x4)] [] σ Q) ∧ (¬ x4 ≤ 0 → ((x1 = 0 → A X b d MX13_readBody 241 [(0, vR b), (1, vI x1), (2, vI x2), (3, vI x3), (4, vI x4)] [] σ Q) ∧ (¬ x1 = 0 → (vp_in (sI σ 10) 3002) ∧ ∃ e4 : Nat, e4 + 1 ≤ d ∧ AC X b e4 MX13_fail [vR b, vI (aI σ 6 ((sI σ 10) : Int32).toNatClampNeg)] σ (aTV Q fun  s7 => A X b d MX13_readBody 241 [(0, vR b), (1, vI x1), (2, vI x2), (3, vI x3), (4, vI x4)] [] s7 Q)))))) : A X b d MX13_readBody 219 [(0, vR b), (1, vI x1), (2, vI x2), (3, vI x3), (4, vI x4)] [] σ Q := by
  refine A_p (fun T Q _ _ k => V_iload (pc2 := 221) (dk D_X13_readBody 120 rfl) (V_lg 4 rfl) rfl k) ?_
  refine A_if (pa := 247) (pb := 224) (fun T Q k1 k2 => V_ifle (tgt := 247) (pc2 := 224) (dk D_X13_readBody 121 rfl) (by decide) rfl (fun q => k1 q) (fun q => k2 q)) (fun q1 => ?_) (fun q1 => ?_)
  · have h := h.1 q1
    exact h
  · have h := h.2 q1
    refine A_p (fun T Q _ _ k => V_iload_n (pc2 := 225) (dk D_X13_readBody 122 rfl) rfl (V_lg 1 rfl) rfl k) ?_
    refine A_if (pa := 241) (pb := 228) (fun T Q k1 k2 => V_ifeq (tgt := 241) (pc2 := 228) (dk D_X13_readBody 123 rfl) (by decide) rfl (fun q => k1 q) (fun q => k2 q)) (fun q2 => ?_) (fun q2 => ?_)
    · have h := h.1 q2
      exact h
    · have h := h.2 q2
      refine A_p (fun T Q _ _ k => V_aload_n (pc2 := 229) (dk D_X13_readBody 124 rfl) rfl (V_lg 0 rfl) rfl k) ?_
      refine A_p (fun T Q _ _ k => V_aload_n (pc2 := 230) (dk D_X13_readBody 125 rfl) rfl (V_lg 0 rfl) rfl k) ?_
      refine A_ar (pc2 := 233) (a := 5) 6 (dk D_X13_readBody 126 rfl) fl_13_27 (by decide) (by decide) rfl (fun _ => rfl) rfl ?_
      refine A_p (fun T Q _ _ k => V_aload_n (pc2 := 234) (dk D_X13_readBody 127 rfl) rfl (V_lg 0 rfl) rfl k) ?_
      refine A_sc (pc2 := 237) 10 (dk D_X13_readBody 128 rfl) fl_13_331 (by decide) rfl (fun _ => rfl) rfl ?_
      obtain ⟨h3, h⟩ := h
      refine A_ild (pc2 := 238) 6 (dk D_X13_readBody 129 rfl) rfl (by decide) rfl (by decide) rfl rfl h3 ?_
      obtain ⟨e4, he5, hc6⟩ := h
      refine A_callT (st := []) (pc2 := 241) (fun T Q Qc L hc k => V_callVT (as := [_]) (st := []) (M' := MX13_fail) (ci := 13) (pc2 := 241) (dk D_X13_readBody 130 rfl) ml_13_337 mv_X13_fail rfl rfl (by decide) rfl (Nat.le_of_ble_eq_true rfl) rfl (by decide) he5 L.2.1 hc k) hc6 (aTV.k fun  s7 h => ?_)
      exact h
theorem a_readBody_241 {X : Cx} {b d : Nat} {σ : Rm} {Q : Res → Rm → Prop} (x1 : Int32) (x2 : Int32) (x3 : Int32) (x4 : Int32) (h : ∃ e1 : Nat, e1 + 1 ≤ d ∧ AC X b e1 MX13_mustSign [vR b, vI 44] σ (aTV Q fun  s4 => A X b d MX13_readBody 247 [(0, vR b), (1, vI x1), (2, vI x2), (3, vI x3), (4, vI x4)] [] s4 Q)) : A X b d MX13_readBody 241 [(0, vR b), (1, vI x1), (2, vI x2), (3, vI x3), (4, vI x4)] [] σ Q := by
  refine A_p (fun T Q _ _ k => V_aload_n (pc2 := 242) (dk D_X13_readBody 131 rfl) rfl (V_lg 0 rfl) rfl k) ?_
  refine A_p (fun T Q _ _ k => V_bipush (x := 44) (pc2 := 244) (dk D_X13_readBody 132 rfl) (by decide) rfl k) ?_
  obtain ⟨e1, he2, hc3⟩ := h
  refine A_callT (st := []) (pc2 := 247) (fun T Q Qc L hc k => V_callVT (as := [_]) (st := []) (M' := MX13_mustSign) (ci := 13) (pc2 := 247) (dk D_X13_readBody 133 rfl) ml_13_348 mv_X13_mustSign rfl rfl (by decide) rfl (Nat.le_of_ble_eq_true rfl) rfl (by decide) he2 L.2.1 hc k) hc3 (aTV.k fun  s4 h => ?_)
  exact h
theorem a_readBody_247 {X : Cx} {b d : Nat} {σ : Rm} {Q : Res → Rm → Prop} (x1 : Int32) (x2 : Int32) (x3 : Int32) (x4 : Int32) (h : ((x4 = 4 → (vp_in (sI σ 10) 3002) ∧ ∃ e3 : Nat, e3 + 1 ≤ d ∧ AC X b e3 MX13_fail [vR b, vI (aI σ 6 ((sI σ 10) : Int32).toNatClampNeg)] σ (aTV Q fun  s6 => A X b d MX13_readBody 266 [(0, vR b), (1, vI x1), (2, vI x2), (3, vI x3), (4, vI x4)] [] s6 Q)) ∧ (¬ x4 = 4 → A X b d MX13_readBody 266 [(0, vR b), (1, vI x1), (2, vI x2), (3, vI x3), (4, vI x4)] [] σ Q))) : A X b d MX13_readBody 247 [(0, vR b), (1, vI x1), (2, vI x2), (3, vI x3), (4, vI x4)] [] σ Q := by
  refine A_p (fun T Q _ _ k => V_iload (pc2 := 249) (dk D_X13_readBody 134 rfl) (V_lg 4 rfl) rfl k) ?_
  refine A_p (fun T Q _ _ k => V_iconst (x := 4) (pc2 := 250) (dk D_X13_readBody 135 rfl) (by decide) rfl k) ?_
  refine A_if (pa := 253) (pb := 266) (fun T Q k1 k2 => V_cmpne (tgt := 266) (pc2 := 253) (dk D_X13_readBody 136 rfl) (by decide) rfl (fun q => k2 q) (fun q => k1 q)) (fun q1 => ?_) (fun q1 => ?_)
  · have h := h.1 q1
    refine A_p (fun T Q _ _ k => V_aload_n (pc2 := 254) (dk D_X13_readBody 137 rfl) rfl (V_lg 0 rfl) rfl k) ?_
    refine A_p (fun T Q _ _ k => V_aload_n (pc2 := 255) (dk D_X13_readBody 138 rfl) rfl (V_lg 0 rfl) rfl k) ?_
    refine A_ar (pc2 := 258) (a := 5) 6 (dk D_X13_readBody 139 rfl) fl_13_27 (by decide) (by decide) rfl (fun _ => rfl) rfl ?_
    refine A_p (fun T Q _ _ k => V_aload_n (pc2 := 259) (dk D_X13_readBody 140 rfl) rfl (V_lg 0 rfl) rfl k) ?_
    refine A_sc (pc2 := 262) 10 (dk D_X13_readBody 141 rfl) fl_13_331 (by decide) rfl (fun _ => rfl) rfl ?_
    obtain ⟨h2, h⟩ := h
    refine A_ild (pc2 := 263) 6 (dk D_X13_readBody 142 rfl) rfl (by decide) rfl (by decide) rfl rfl h2 ?_
    obtain ⟨e3, he4, hc5⟩ := h
    refine A_callT (st := []) (pc2 := 266) (fun T Q Qc L hc k => V_callVT (as := [_]) (st := []) (M' := MX13_fail) (ci := 13) (pc2 := 266) (dk D_X13_readBody 143 rfl) ml_13_337 mv_X13_fail rfl rfl (by decide) rfl (Nat.le_of_ble_eq_true rfl) rfl (by decide) he4 L.2.1 hc k) hc5 (aTV.k fun  s6 h => ?_)
    exact h
  · have h := h.2 q1
    exact h
theorem a_readBody_266 {X : Cx} {b d : Nat} {σ : Rm} {Q : Res → Rm → Prop} (x1 : Int32) (x2 : Int32) (x3 : Int32) (x4 : Int32) (h : ∃ e1 : Nat, e1 + 1 ≤ d ∧ AC X b e1 MX13_mustName [vR b] σ (aTI Q fun y4 s5 => ∃ e6 : Nat, e6 + 1 ≤ d ∧ AC X b e6 MX13_variable [vR b, vI y4] s5 (aRI fun y9 s10 => (((sI s10 25) = (sI s5 25) → ∃ e12 : Nat, e12 + 1 ≤ d ∧ AC X b e12 MX13_blame [vR b, vI y4] s10 (aRV fun  s15 => (vp_in (sI s15 25) 1600) ∧ ∀ s17 : Rm, s17 = wL s15 24 (((sI s15 25) : Int32).toNatClampNeg) 0 → ∀ s18 : Rm, s18 = wS s17 25 ((sI s17 25) + 1) → A X b d MX13_readBody 321 [(0, vR b), (1, vI x1), (2, vI x2), (3, vI x3), (4, vI x4), (5, vI y4), (6, vI (sI s5 25)), (7, vI y9)] [] s18 Q)) ∧ (¬ (sI s10 25) = (sI s5 25) → A X b d MX13_readBody 321 [(0, vR b), (1, vI x1), (2, vI x2), (3, vI x3), (4, vI x4), (5, vI y4), (6, vI (sI s5 25)), (7, vI y9)] [] s10 Q))))) : A X b d MX13_readBody 266 [(0, vR b), (1, vI x1), (2, vI x2), (3, vI x3), (4, vI x4)] [] σ Q := by
  refine A_p (fun T Q _ _ k => V_aload_n (pc2 := 267) (dk D_X13_readBody 144 rfl) rfl (V_lg 0 rfl) rfl k) ?_
  obtain ⟨e1, he2, hc3⟩ := h
  refine A_callT (st := []) (pc2 := 270) (fun T Q Qc L hc k => V_callVT (as := []) (st := []) (M' := MX13_mustName) (ci := 13) (pc2 := 270) (dk D_X13_readBody 145 rfl) ml_13_399 mv_X13_mustName rfl rfl (by decide) rfl (Nat.le_of_ble_eq_true rfl) rfl (by decide) he2 L.2.1 hc k) hc3 (aTI.k fun y4 s5 h => ?_)
  refine A_p (fun T Q _ _ k => V_istore (pc2 := 272) (lv2 := [(0, _), (1, _), (2, _), (3, _), (4, _), (5, _)]) (dk D_X13_readBody 146 rfl) (by decide) rfl rfl k) ?_
  refine A_p (fun T Q _ _ k => V_aload_n (pc2 := 273) (dk D_X13_readBody 147 rfl) rfl (V_lg 0 rfl) rfl k) ?_
  refine A_sc (pc2 := 276) 25 (dk D_X13_readBody 148 rfl) fl_13_357 (by decide) rfl (fun _ => rfl) rfl ?_
  refine A_p (fun T Q _ _ k => V_istore (pc2 := 278) (lv2 := [(0, _), (1, _), (2, _), (3, _), (4, _), (5, _), (6, _)]) (dk D_X13_readBody 149 rfl) (by decide) rfl rfl k) ?_
  refine A_p (fun T Q _ _ k => V_aload_n (pc2 := 279) (dk D_X13_readBody 150 rfl) rfl (V_lg 0 rfl) rfl k) ?_
  refine A_p (fun T Q _ _ k => V_iload (pc2 := 281) (dk D_X13_readBody 151 rfl) (V_lg 5 rfl) rfl k) ?_
  obtain ⟨e6, he7, hc8⟩ := h
  refine A_call (st := []) (pc2 := 284) (fun T Q Qc L hc k => V_callV (as := [_]) (st := []) (M' := MX13_variable) (ci := 13) (pc2 := 284) (dk D_X13_readBody 152 rfl) ml_13_402 mv_X13_variable rfl rfl (by decide) rfl (Nat.le_of_ble_eq_true rfl) rfl he7 L.2.1 hc k) hc8 (aRI.k fun y9 s10 h => ?_)
  refine A_p (fun T Q _ _ k => V_istore (pc2 := 286) (lv2 := [(0, _), (1, _), (2, _), (3, _), (4, _), (5, _), (6, _), (7, _)]) (dk D_X13_readBody 153 rfl) (by decide) rfl rfl k) ?_
  refine A_p (fun T Q _ _ k => V_aload_n (pc2 := 287) (dk D_X13_readBody 154 rfl) rfl (V_lg 0 rfl) rfl k) ?_
  refine A_sc (pc2 := 290) 25 (dk D_X13_readBody 155 rfl) fl_13_357 (by decide) rfl (fun _ => rfl) rfl ?_
  refine A_p (fun T Q _ _ k => V_iload (pc2 := 292) (dk D_X13_readBody 156 rfl) (V_lg 6 rfl) rfl k) ?_
  refine A_if (pa := 295) (pb := 321) (fun T Q k1 k2 => V_cmpne (tgt := 321) (pc2 := 295) (dk D_X13_readBody 157 rfl) (by decide) rfl (fun q => k2 q) (fun q => k1 q)) (fun q11 => ?_) (fun q11 => ?_)
  · have h := h.1 q11
    refine A_p (fun T Q _ _ k => V_aload_n (pc2 := 296) (dk D_X13_readBody 158 rfl) rfl (V_lg 0 rfl) rfl k) ?_
    refine A_p (fun T Q _ _ k => V_iload (pc2 := 298) (dk D_X13_readBody 159 rfl) (V_lg 5 rfl) rfl k) ?_
    obtain ⟨e12, he13, hc14⟩ := h
    refine A_call (st := []) (pc2 := 301) (fun T Q Qc L hc k => V_callV (as := [_]) (st := []) (M' := MX13_blame) (ci := 13) (pc2 := 301) (dk D_X13_readBody 160 rfl) ml_13_360 mv_X13_blame rfl rfl (by decide) rfl (Nat.le_of_ble_eq_true rfl) rfl he13 L.2.1 hc k) hc14 (aRV.k fun  s15 h => ?_)
    refine A_p (fun T Q _ _ k => V_aload_n (pc2 := 302) (dk D_X13_readBody 161 rfl) rfl (V_lg 0 rfl) rfl k) ?_
    refine A_ar (pc2 := 305) (a := 19) 24 (dk D_X13_readBody 162 rfl) fl_13_119 (by decide) (by decide) rfl (fun _ => rfl) rfl ?_
    refine A_p (fun T Q _ _ k => V_aload_n (pc2 := 306) (dk D_X13_readBody 163 rfl) rfl (V_lg 0 rfl) rfl k) ?_
    refine A_sc (pc2 := 309) 25 (dk D_X13_readBody 164 rfl) fl_13_357 (by decide) rfl (fun _ => rfl) rfl ?_
    refine A_p (fun T Q _ _ k => V_lconst (x := 0) (pc2 := 310) (dk D_X13_readBody 165 rfl) (by decide) rfl k) ?_
    obtain ⟨h16, h⟩ := h
    refine A_lst (pc2 := 311) 24 (dk D_X13_readBody 166 rfl) rfl (by decide) rfl (by decide) rfl rfl h16 ?_
    have h := h _ rfl
    refine A_p (fun T Q _ _ k => V_aload_n (pc2 := 312) (dk D_X13_readBody 167 rfl) rfl (V_lg 0 rfl) rfl k) ?_
    refine A_p (fun T Q _ _ k => V_dup (pc2 := 313) (dk D_X13_readBody 168 rfl) rfl rfl k) ?_
    refine A_sc (pc2 := 316) 25 (dk D_X13_readBody 169 rfl) fl_13_357 (by decide) rfl (fun _ => rfl) rfl ?_
    refine A_p (fun T Q _ _ k => V_iconst (x := 1) (pc2 := 317) (dk D_X13_readBody 170 rfl) (by decide) rfl k) ?_
    refine A_p (fun T Q _ _ k => V_iadd (pc2 := 318) (dk D_X13_readBody 171 rfl) rfl k) ?_
    refine A_put (pc2 := 321) 25 (dk D_X13_readBody 172 rfl) fl_13_357 (by decide) rfl rfl rfl rfl ?_
    have h := h _ rfl
    exact h
  · have h := h.2 q11
    exact h
theorem a_readBody_321 {X : Cx} {b d : Nat} {σ : Rm} {Q : Res → Rm → Prop} (x1 : Int32) (x2 : Int32) (x3 : Int32) (x4 : Int32) (x5 : Int32) (x6 : Int32) (x7 : Int32) (h : A X b d MX13_readBody 192 [(0, vR b), (1, vI x1), (2, vI x2), (3, vI x3), (4, vI (x4 + 1))] [] σ Q) : A X b d MX13_readBody 321 [(0, vR b), (1, vI x1), (2, vI x2), (3, vI x3), (4, vI x4), (5, vI x5), (6, vI x6), (7, vI x7)] [] σ Q := by
  refine A_p (fun T Q _ _ k => V_iinc (y := _ + 1) (pc2 := 324) (lv2 := [(0, _), (1, _), (2, _), (3, _), (4, _), (5, _), (6, _), (7, _)]) (dk D_X13_readBody 173 rfl) (V_lg 4 rfl) rfl (by decide) rfl rfl k) ?_
  refine A_p (fun T Q _ _ k => V_goto (tgt := 192) (dk D_X13_readBody 174 rfl) (by decide) k) ?_
  refine A_p (fun T Q _ _ k => V_pick [0, 1, 2, 3, 4] (lv2 := [(0, _), (1, _), (2, _), (3, _), (4, _)]) rfl k) ?_
  exact h
theorem a_readBody_327 {X : Cx} {b d : Nat} {σ : Rm} {Q : Res → Rm → Prop} (x1 : Int32) (x2 : Int32) (x3 : Int32) (x4 : Int32) (h : ∃ e1 : Nat, e1 + 1 ≤ d ∧ AC X b e1 MX13_closes [vR b, vI 41] σ (aTV Q fun  s4 => (vp_in x3 12) ∧ ∀ s6 : Rm, s6 = wI s4 20 ((x3 : Int32).toNatClampNeg) x4 → (vp_in x3 12) ∧ ∀ s8 : Rm, s8 = wI s6 23 ((x3 : Int32).toNatClampNeg) (sI s6 17) → ∀ s9 : Rm, s9 = wS s8 35 0 → ∀ s10 : Rm, s10 = wS s9 36 0 → ∃ e11 : Nat, e11 + 1 ≤ d ∧ AC X b e11 MX13_readBlock [vR b] s10 (aTV Q fun  s14 => ∃ e15 : Nat, e15 + 1 ≤ d ∧ AC X b e15 MX13_emit [vR b, vI 1, vI 0, vI 0] s14 (aRI fun y18 s19 => ∃ e20 : Nat, e20 + 1 ≤ d ∧ AC X b e20 MX13_emit [vR b, vI 26, vI 0, vI 0] s19 (aRI fun y23 s24 => (vp_in x3 12) ∧ ∀ s26 : Rm, s26 = wI s24 21 ((x3 : Int32).toNatClampNeg) (sI s24 25) → A X b d MX13_readBody 397 [(0, vR b), (1, vI x1), (2, vI x2), (3, vI x3), (4, vI x4), (5, vI y23), (6, vI 0)] [] s26 Q))))) : A X b d MX13_readBody 327 [(0, vR b), (1, vI x1), (2, vI x2), (3, vI x3), (4, vI x4)] [] σ Q := by
  refine A_p (fun T Q _ _ k => V_aload_n (pc2 := 328) (dk D_X13_readBody 175 rfl) rfl (V_lg 0 rfl) rfl k) ?_
  refine A_p (fun T Q _ _ k => V_bipush (x := 41) (pc2 := 330) (dk D_X13_readBody 176 rfl) (by decide) rfl k) ?_
  obtain ⟨e1, he2, hc3⟩ := h
  refine A_callT (st := []) (pc2 := 333) (fun T Q Qc L hc k => V_callVT (as := [_]) (st := []) (M' := MX13_closes) (ci := 13) (pc2 := 333) (dk D_X13_readBody 177 rfl) ml_13_370 mv_X13_closes rfl rfl (by decide) rfl (Nat.le_of_ble_eq_true rfl) rfl (by decide) he2 L.2.1 hc k) hc3 (aTV.k fun  s4 h => ?_)
  refine A_p (fun T Q _ _ k => V_aload_n (pc2 := 334) (dk D_X13_readBody 178 rfl) rfl (V_lg 0 rfl) rfl k) ?_
  refine A_ar (pc2 := 337) (a := 15) 20 (dk D_X13_readBody 179 rfl) fl_13_107 (by decide) (by decide) rfl (fun _ => rfl) rfl ?_
  refine A_p (fun T Q _ _ k => V_iload_n (pc2 := 338) (dk D_X13_readBody 180 rfl) rfl (V_lg 3 rfl) rfl k) ?_
  refine A_p (fun T Q _ _ k => V_iload (pc2 := 340) (dk D_X13_readBody 181 rfl) (V_lg 4 rfl) rfl k) ?_
  obtain ⟨h5, h⟩ := h
  refine A_ist (pc2 := 341) 20 (dk D_X13_readBody 182 rfl) rfl (by decide) rfl (by decide) rfl rfl h5 ?_
  have h := h _ rfl
  refine A_p (fun T Q _ _ k => V_aload_n (pc2 := 342) (dk D_X13_readBody 183 rfl) rfl (V_lg 0 rfl) rfl k) ?_
  refine A_ar (pc2 := 345) (a := 18) 23 (dk D_X13_readBody 184 rfl) fl_13_116 (by decide) (by decide) rfl (fun _ => rfl) rfl ?_
  refine A_p (fun T Q _ _ k => V_iload_n (pc2 := 346) (dk D_X13_readBody 185 rfl) rfl (V_lg 3 rfl) rfl k) ?_
  refine A_p (fun T Q _ _ k => V_aload_n (pc2 := 347) (dk D_X13_readBody 186 rfl) rfl (V_lg 0 rfl) rfl k) ?_
  refine A_sc (pc2 := 350) 17 (dk D_X13_readBody 187 rfl) fl_13_351 (by decide) rfl (fun _ => rfl) rfl ?_
  obtain ⟨h7, h⟩ := h
  refine A_ist (pc2 := 351) 23 (dk D_X13_readBody 188 rfl) rfl (by decide) rfl (by decide) rfl rfl h7 ?_
  have h := h _ rfl
  refine A_p (fun T Q _ _ k => V_aload_n (pc2 := 352) (dk D_X13_readBody 189 rfl) rfl (V_lg 0 rfl) rfl k) ?_
  refine A_p (fun T Q _ _ k => V_iconst (x := 0) (pc2 := 353) (dk D_X13_readBody 190 rfl) (by decide) rfl k) ?_
  refine A_put (pc2 := 356) 35 (dk D_X13_readBody 191 rfl) fl_13_389 (by decide) rfl rfl rfl rfl ?_
  have h := h _ rfl
  refine A_p (fun T Q _ _ k => V_aload_n (pc2 := 357) (dk D_X13_readBody 192 rfl) rfl (V_lg 0 rfl) rfl k) ?_
  refine A_p (fun T Q _ _ k => V_iconst (x := 0) (pc2 := 358) (dk D_X13_readBody 193 rfl) (by decide) rfl k) ?_
  refine A_put (pc2 := 361) 36 (dk D_X13_readBody 194 rfl) fl_13_410 (by decide) rfl rfl rfl rfl ?_
  have h := h _ rfl
  refine A_p (fun T Q _ _ k => V_aload_n (pc2 := 362) (dk D_X13_readBody 195 rfl) rfl (V_lg 0 rfl) rfl k) ?_
  obtain ⟨e11, he12, hc13⟩ := h
  refine A_callT (st := []) (pc2 := 365) (fun T Q Qc L hc k => V_callST (as := [_]) (st := []) (M' := MX13_readBlock) (pc2 := 365) (dk D_X13_readBody 196 rfl) ml_13_383 mv_X13_readBlock rfl rfl (Nat.le_of_ble_eq_true rfl) rfl (by decide) he12 hc k) hc13 (aTV.k fun  s14 h => ?_)
  refine A_p (fun T Q _ _ k => V_aload_n (pc2 := 366) (dk D_X13_readBody 197 rfl) rfl (V_lg 0 rfl) rfl k) ?_
  refine A_p (fun T Q _ _ k => V_iconst (x := 1) (pc2 := 367) (dk D_X13_readBody 198 rfl) (by decide) rfl k) ?_
  refine A_p (fun T Q _ _ k => V_iconst (x := 0) (pc2 := 368) (dk D_X13_readBody 199 rfl) (by decide) rfl k) ?_
  refine A_p (fun T Q _ _ k => V_iconst (x := 0) (pc2 := 369) (dk D_X13_readBody 200 rfl) (by decide) rfl k) ?_
  obtain ⟨e15, he16, hc17⟩ := h
  refine A_call (st := []) (pc2 := 372) (fun T Q Qc L hc k => V_callV (as := [_, _, _]) (st := []) (M' := MX13_emit) (ci := 13) (pc2 := 372) (dk D_X13_readBody 201 rfl) ml_13_373 mv_X13_emit rfl rfl (by decide) rfl (Nat.le_of_ble_eq_true rfl) rfl he16 L.2.1 hc k) hc17 (aRI.k fun y18 s19 h => ?_)
  refine A_p (fun T Q _ _ k => V_istore (pc2 := 374) (lv2 := [(0, _), (1, _), (2, _), (3, _), (4, _), (5, _)]) (dk D_X13_readBody 202 rfl) (by decide) rfl rfl k) ?_
  refine A_p (fun T Q _ _ k => V_aload_n (pc2 := 375) (dk D_X13_readBody 203 rfl) rfl (V_lg 0 rfl) rfl k) ?_
  refine A_p (fun T Q _ _ k => V_bipush (x := 26) (pc2 := 377) (dk D_X13_readBody 204 rfl) (by decide) rfl k) ?_
  refine A_p (fun T Q _ _ k => V_iconst (x := 0) (pc2 := 378) (dk D_X13_readBody 205 rfl) (by decide) rfl k) ?_
  refine A_p (fun T Q _ _ k => V_iconst (x := 0) (pc2 := 379) (dk D_X13_readBody 206 rfl) (by decide) rfl k) ?_
  obtain ⟨e20, he21, hc22⟩ := h
  refine A_call (st := []) (pc2 := 382) (fun T Q Qc L hc k => V_callV (as := [_, _, _]) (st := []) (M' := MX13_emit) (ci := 13) (pc2 := 382) (dk D_X13_readBody 207 rfl) ml_13_373 mv_X13_emit rfl rfl (by decide) rfl (Nat.le_of_ble_eq_true rfl) rfl he21 L.2.1 hc k) hc22 (aRI.k fun y23 s24 h => ?_)
  refine A_p (fun T Q _ _ k => V_istore (pc2 := 384) (lv2 := [(0, _), (1, _), (2, _), (3, _), (4, _), (5, _)]) (dk D_X13_readBody 208 rfl) (by decide) rfl rfl k) ?_
  refine A_p (fun T Q _ _ k => V_aload_n (pc2 := 385) (dk D_X13_readBody 209 rfl) rfl (V_lg 0 rfl) rfl k) ?_
  refine A_ar (pc2 := 388) (a := 16) 21 (dk D_X13_readBody 210 rfl) fl_13_110 (by decide) (by decide) rfl (fun _ => rfl) rfl ?_
  refine A_p (fun T Q _ _ k => V_iload_n (pc2 := 389) (dk D_X13_readBody 211 rfl) rfl (V_lg 3 rfl) rfl k) ?_
  refine A_p (fun T Q _ _ k => V_aload_n (pc2 := 390) (dk D_X13_readBody 212 rfl) rfl (V_lg 0 rfl) rfl k) ?_
  refine A_sc (pc2 := 393) 25 (dk D_X13_readBody 213 rfl) fl_13_357 (by decide) rfl (fun _ => rfl) rfl ?_
  obtain ⟨h25, h⟩ := h
  refine A_ist (pc2 := 394) 21 (dk D_X13_readBody 214 rfl) rfl (by decide) rfl (by decide) rfl rfl h25 ?_
  have h := h _ rfl
  refine A_p (fun T Q _ _ k => V_iconst (x := 0) (pc2 := 395) (dk D_X13_readBody 215 rfl) (by decide) rfl k) ?_
  refine A_p (fun T Q _ _ k => V_istore (pc2 := 397) (lv2 := [(0, _), (1, _), (2, _), (3, _), (4, _), (5, _), (6, _)]) (dk D_X13_readBody 216 rfl) (by decide) rfl rfl k) ?_
  exact h
theorem a_readBody_397 {X : Cx} {b d : Nat} {σ : Rm} {Q : Res → Rm → Prop} (x1 : Int32) (x2 : Int32) (x3 : Int32) (x4 : Int32) (x5 : Int32) (x6 : Int32) (h : (((sI σ 44) ≤ x6 → Q (.inl none) σ) ∧ (¬ (sI σ 44) ≤ x6 → A X b d MX13_readBody 413 [(0, vR b), (1, vI x1), (2, vI x2), (3, vI x3), (4, vI x4), (5, vI x5), (6, vI x6), (7, vI (-9)), (8, vI 0)] [] σ Q))) : A X b d MX13_readBody 397 [(0, vR b), (1, vI x1), (2, vI x2), (3, vI x3), (4, vI x4), (5, vI x5), (6, vI x6)] [] σ Q := by
  refine A_p (fun T Q _ _ k => V_iload (pc2 := 399) (dk D_X13_readBody 217 rfl) (V_lg 6 rfl) rfl k) ?_
  refine A_p (fun T Q _ _ k => V_aload_n (pc2 := 400) (dk D_X13_readBody 218 rfl) rfl (V_lg 0 rfl) rfl k) ?_
  refine A_sc (pc2 := 403) 44 (dk D_X13_readBody 219 rfl) fl_13_439 (by decide) rfl (fun _ => rfl) rfl ?_
  refine A_if (pa := 505) (pb := 406) (fun T Q k1 k2 => V_cmpge (tgt := 505) (pc2 := 406) (dk D_X13_readBody 220 rfl) (by decide) rfl (fun q => k1 q) (fun q => k2 q)) (fun q1 => ?_) (fun q1 => ?_)
  · have h := h.1 q1
    exact A_ret (fun T Q _ k => V_return (dk D_X13_readBody 270 rfl) rfl k) h
  · have h := h.2 q1
    refine A_p (fun T Q _ _ k => V_bipush (x := (-9)) (pc2 := 408) (dk D_X13_readBody 221 rfl) (by decide) rfl k) ?_
    refine A_p (fun T Q _ _ k => V_istore (pc2 := 410) (lv2 := [(0, _), (1, _), (2, _), (3, _), (4, _), (5, _), (6, _), (7, _)]) (dk D_X13_readBody 222 rfl) (by decide) rfl rfl k) ?_
    refine A_p (fun T Q _ _ k => V_iconst (x := 0) (pc2 := 411) (dk D_X13_readBody 223 rfl) (by decide) rfl k) ?_
    refine A_p (fun T Q _ _ k => V_istore (pc2 := 413) (lv2 := [(0, _), (1, _), (2, _), (3, _), (4, _), (5, _), (6, _), (7, _), (8, _)]) (dk D_X13_readBody 224 rfl) (by decide) rfl rfl k) ?_
    exact h
theorem a_readBody_413 {X : Cx} {b d : Nat} {σ : Rm} {Q : Res → Rm → Prop} (x1 : Int32) (x2 : Int32) (x3 : Int32) (x4 : Int32) (x5 : Int32) (x6 : Int32) (x7 : Int32) (x8 : Int32) (h : (((sI σ 25) ≤ x8 → ((x7 = (-9) → (vp_in x6 1600) ∧ ∃ e4 : Nat, e4 + 1 ≤ d ∧ AC X b e4 MX13_blame [vR b, vI (aI σ 43 (x6 : Int32).toNatClampNeg)] σ (aRV fun  s7 => A X b d MX13_readBody 485 [(0, vR b), (1, vI x1), (2, vI x2), (3, vI x3), (4, vI x4), (5, vI x5), (6, vI x6), (7, vI x7), (8, vI x8)] [] s7 Q)) ∧ (¬ x7 = (-9) → A X b d MX13_readBody 485 [(0, vR b), (1, vI x1), (2, vI x2), (3, vI x3), (4, vI x4), (5, vI x5), (6, vI x6), (7, vI x7), (8, vI x8)] [] σ Q))) ∧ (¬ (sI σ 25) ≤ x8 → ((x7 = (-9) → (vp_in x8 1600) ∧ (vp_in x6 1600) ∧ (vp_in (aI σ 43 (x6 : Int32).toNatClampNeg) 3002) ∧ (((lg_cmp (aL σ 24 (x8 : Int32).toNatClampNeg) (aL σ 9 ((aI σ 43 (x6 : Int32).toNatClampNeg) : Int32).toNatClampNeg)) = 0 → A X b d MX13_readBody 459 [(0, vR b), (1, vI x1), (2, vI x2), (3, vI x3), (4, vI x4), (5, vI x5), (6, vI x6), (7, vI x7), (8, vI x8)] [vI x8] σ Q) ∧ (¬ (lg_cmp (aL σ 24 (x8 : Int32).toNatClampNeg) (aL σ 9 ((aI σ 43 (x6 : Int32).toNatClampNeg) : Int32).toNatClampNeg)) = 0 → A X b d MX13_readBody 457 [(0, vR b), (1, vI x1), (2, vI x2), (3, vI x3), (4, vI x4), (5, vI x5), (6, vI x6), (7, vI x7), (8, vI x8)] [] σ Q))) ∧ (¬ x7 = (-9) → A X b d MX13_readBody 457 [(0, vR b), (1, vI x1), (2, vI x2), (3, vI x3), (4, vI x4), (5, vI x5), (6, vI x6), (7, vI x7), (8, vI x8)] [] σ Q))))) : A X b d MX13_readBody 413 [(0, vR b), (1, vI x1), (2, vI x2), (3, vI x3), (4, vI x4), (5, vI x5), (6, vI x6), (7, vI x7), (8, vI x8)] [] σ Q := by
  refine A_p (fun T Q _ _ k => V_iload (pc2 := 415) (dk D_X13_readBody 225 rfl) (V_lg 8 rfl) rfl k) ?_
  refine A_p (fun T Q _ _ k => V_aload_n (pc2 := 416) (dk D_X13_readBody 226 rfl) rfl (V_lg 0 rfl) rfl k) ?_
  refine A_sc (pc2 := 419) 25 (dk D_X13_readBody 227 rfl) fl_13_357 (by decide) rfl (fun _ => rfl) rfl ?_
  refine A_if (pa := 467) (pb := 422) (fun T Q k1 k2 => V_cmpge (tgt := 467) (pc2 := 422) (dk D_X13_readBody 228 rfl) (by decide) rfl (fun q => k1 q) (fun q => k2 q)) (fun q1 => ?_) (fun q1 => ?_)
  · have h := h.1 q1
    refine A_p (fun T Q _ _ k => V_iload (pc2 := 469) (dk D_X13_readBody 251 rfl) (V_lg 7 rfl) rfl k) ?_
    refine A_p (fun T Q _ _ k => V_bipush (x := (-9)) (pc2 := 471) (dk D_X13_readBody 252 rfl) (by decide) rfl k) ?_
    refine A_if (pa := 474) (pb := 485) (fun T Q k1 k2 => V_cmpne (tgt := 485) (pc2 := 474) (dk D_X13_readBody 253 rfl) (by decide) rfl (fun q => k2 q) (fun q => k1 q)) (fun q2 => ?_) (fun q2 => ?_)
    · have h := h.1 q2
      refine A_p (fun T Q _ _ k => V_aload_n (pc2 := 475) (dk D_X13_readBody 254 rfl) rfl (V_lg 0 rfl) rfl k) ?_
      refine A_p (fun T Q _ _ k => V_aload_n (pc2 := 476) (dk D_X13_readBody 255 rfl) rfl (V_lg 0 rfl) rfl k) ?_
      refine A_ar (pc2 := 479) (a := 31) 43 (dk D_X13_readBody 256 rfl) fl_13_155 (by decide) (by decide) rfl (fun _ => rfl) rfl ?_
      refine A_p (fun T Q _ _ k => V_iload (pc2 := 481) (dk D_X13_readBody 257 rfl) (V_lg 6 rfl) rfl k) ?_
      obtain ⟨h3, h⟩ := h
      refine A_ild (pc2 := 482) 43 (dk D_X13_readBody 258 rfl) rfl (by decide) rfl (by decide) rfl rfl h3 ?_
      obtain ⟨e4, he5, hc6⟩ := h
      refine A_call (st := []) (pc2 := 485) (fun T Q Qc L hc k => V_callV (as := [_]) (st := []) (M' := MX13_blame) (ci := 13) (pc2 := 485) (dk D_X13_readBody 259 rfl) ml_13_360 mv_X13_blame rfl rfl (by decide) rfl (Nat.le_of_ble_eq_true rfl) rfl he5 L.2.1 hc k) hc6 (aRV.k fun  s7 h => ?_)
      exact h
    · have h := h.2 q2
      exact h
  · have h := h.2 q1
    refine A_p (fun T Q _ _ k => V_iload (pc2 := 424) (dk D_X13_readBody 229 rfl) (V_lg 7 rfl) rfl k) ?_
    refine A_p (fun T Q _ _ k => V_bipush (x := (-9)) (pc2 := 426) (dk D_X13_readBody 230 rfl) (by decide) rfl k) ?_
    refine A_if (pa := 429) (pb := 457) (fun T Q k1 k2 => V_cmpne (tgt := 457) (pc2 := 429) (dk D_X13_readBody 231 rfl) (by decide) rfl (fun q => k2 q) (fun q => k1 q)) (fun q8 => ?_) (fun q8 => ?_)
    · have h := h.1 q8
      refine A_p (fun T Q _ _ k => V_aload_n (pc2 := 430) (dk D_X13_readBody 232 rfl) rfl (V_lg 0 rfl) rfl k) ?_
      refine A_ar (pc2 := 433) (a := 19) 24 (dk D_X13_readBody 233 rfl) fl_13_119 (by decide) (by decide) rfl (fun _ => rfl) rfl ?_
      refine A_p (fun T Q _ _ k => V_iload (pc2 := 435) (dk D_X13_readBody 234 rfl) (V_lg 8 rfl) rfl k) ?_
      obtain ⟨h9, h⟩ := h
      refine A_lld (pc2 := 436) 24 (dk D_X13_readBody 235 rfl) rfl (by decide) rfl (by decide) rfl rfl h9 ?_
      refine A_p (fun T Q _ _ k => V_aload_n (pc2 := 437) (dk D_X13_readBody 236 rfl) rfl (V_lg 0 rfl) rfl k) ?_
      refine A_ar (pc2 := 440) (a := 8) 9 (dk D_X13_readBody 237 rfl) fl_13_36 (by decide) (by decide) rfl (fun _ => rfl) rfl ?_
      refine A_p (fun T Q _ _ k => V_aload_n (pc2 := 441) (dk D_X13_readBody 238 rfl) rfl (V_lg 0 rfl) rfl k) ?_
      refine A_ar (pc2 := 444) (a := 31) 43 (dk D_X13_readBody 239 rfl) fl_13_155 (by decide) (by decide) rfl (fun _ => rfl) rfl ?_
      refine A_p (fun T Q _ _ k => V_iload (pc2 := 446) (dk D_X13_readBody 240 rfl) (V_lg 6 rfl) rfl k) ?_
      obtain ⟨h10, h⟩ := h
      refine A_ild (pc2 := 447) 43 (dk D_X13_readBody 241 rfl) rfl (by decide) rfl (by decide) rfl rfl h10 ?_
      obtain ⟨h11, h⟩ := h
      refine A_lld (pc2 := 448) 9 (dk D_X13_readBody 242 rfl) rfl (by decide) rfl (by decide) rfl rfl h11 ?_
      refine A_p (fun T Q _ _ k => V_lcmp (pc2 := 449) (dk D_X13_readBody 243 rfl) rfl k) ?_
      refine A_if (pa := 452) (pb := 457) (fun T Q k1 k2 => V_ifne (tgt := 457) (pc2 := 452) (dk D_X13_readBody 244 rfl) (by decide) rfl (fun q => k2 q) (fun q => k1 q)) (fun q12 => ?_) (fun q12 => ?_)
      · have h := h.1 q12
        refine A_p (fun T Q _ _ k => V_iload (pc2 := 454) (dk D_X13_readBody 245 rfl) (V_lg 8 rfl) rfl k) ?_
        refine A_p (fun T Q _ _ k => V_goto (tgt := 459) (dk D_X13_readBody 246 rfl) (by decide) k) ?_
        exact h
      · have h := h.2 q12
        exact h
    · have h := h.2 q8
      exact h
theorem a_readBody_457 {X : Cx} {b d : Nat} {σ : Rm} {Q : Res → Rm → Prop} (x1 : Int32) (x2 : Int32) (x3 : Int32) (x4 : Int32) (x5 : Int32) (x6 : Int32) (x7 : Int32) (x8 : Int32) (h : A X b d MX13_readBody 459 [(0, vR b), (1, vI x1), (2, vI x2), (3, vI x3), (4, vI x4), (5, vI x5), (6, vI x6), (7, vI x7), (8, vI x8)] [vI x7] σ Q) : A X b d MX13_readBody 457 [(0, vR b), (1, vI x1), (2, vI x2), (3, vI x3), (4, vI x4), (5, vI x5), (6, vI x6), (7, vI x7), (8, vI x8)] [] σ Q := by
  refine A_p (fun T Q _ _ k => V_iload (pc2 := 459) (dk D_X13_readBody 247 rfl) (V_lg 7 rfl) rfl k) ?_
  exact h
theorem a_readBody_459 {X : Cx} {b d : Nat} {σ : Rm} {Q : Res → Rm → Prop} (x1 : Int32) (x2 : Int32) (x3 : Int32) (x4 : Int32) (x5 : Int32) (x6 : Int32) (x7 : Int32) (x8 : Int32) (t0 : Int32) (h : A X b d MX13_readBody 413 [(0, vR b), (1, vI x1), (2, vI x2), (3, vI x3), (4, vI x4), (5, vI x5), (6, vI x6), (7, vI t0), (8, vI (x8 + 1))] [] σ Q) : A X b d MX13_readBody 459 [(0, vR b), (1, vI x1), (2, vI x2), (3, vI x3), (4, vI x4), (5, vI x5), (6, vI x6), (7, vI x7), (8, vI x8)] [vI t0] σ Q := by
  refine A_p (fun T Q _ _ k => V_istore (pc2 := 461) (lv2 := [(0, _), (1, _), (2, _), (3, _), (4, _), (5, _), (6, _), (7, _), (8, _)]) (dk D_X13_readBody 248 rfl) (by decide) rfl rfl k) ?_
  refine A_p (fun T Q _ _ k => V_iinc (y := _ + 1) (pc2 := 464) (lv2 := [(0, _), (1, _), (2, _), (3, _), (4, _), (5, _), (6, _), (7, _), (8, _)]) (dk D_X13_readBody 249 rfl) (V_lg 8 rfl) rfl (by decide) rfl rfl k) ?_
  refine A_p (fun T Q _ _ k => V_goto (tgt := 413) (dk D_X13_readBody 250 rfl) (by decide) k) ?_
  exact h
theorem a_readBody_485 {X : Cx} {b d : Nat} {σ : Rm} {Q : Res → Rm → Prop} (x1 : Int32) (x2 : Int32) (x3 : Int32) (x4 : Int32) (x5 : Int32) (x6 : Int32) (x7 : Int32) (x8 : Int32) (h : (vp_in x6 1600) ∧ (vp_in (aI σ 42 (x6 : Int32).toNatClampNeg) 12000) ∧ ∀ s3 : Rm, s3 = wI σ 14 (((aI σ 42 (x6 : Int32).toNatClampNeg) : Int32).toNatClampNeg) x7 → A X b d MX13_readBody 397 [(0, vR b), (1, vI x1), (2, vI x2), (3, vI x3), (4, vI x4), (5, vI x5), (6, vI (x6 + 1))] [] s3 Q) : A X b d MX13_readBody 485 [(0, vR b), (1, vI x1), (2, vI x2), (3, vI x3), (4, vI x4), (5, vI x5), (6, vI x6), (7, vI x7), (8, vI x8)] [] σ Q := by
  refine A_p (fun T Q _ _ k => V_aload_n (pc2 := 486) (dk D_X13_readBody 260 rfl) rfl (V_lg 0 rfl) rfl k) ?_
  refine A_ar (pc2 := 489) (a := 11) 14 (dk D_X13_readBody 261 rfl) fl_13_95 (by decide) (by decide) rfl (fun _ => rfl) rfl ?_
  refine A_p (fun T Q _ _ k => V_aload_n (pc2 := 490) (dk D_X13_readBody 262 rfl) rfl (V_lg 0 rfl) rfl k) ?_
  refine A_ar (pc2 := 493) (a := 30) 42 (dk D_X13_readBody 263 rfl) fl_13_152 (by decide) (by decide) rfl (fun _ => rfl) rfl ?_
  refine A_p (fun T Q _ _ k => V_iload (pc2 := 495) (dk D_X13_readBody 264 rfl) (V_lg 6 rfl) rfl k) ?_
  obtain ⟨h1, h⟩ := h
  refine A_ild (pc2 := 496) 42 (dk D_X13_readBody 265 rfl) rfl (by decide) rfl (by decide) rfl rfl h1 ?_
  refine A_p (fun T Q _ _ k => V_iload (pc2 := 498) (dk D_X13_readBody 266 rfl) (V_lg 7 rfl) rfl k) ?_
  obtain ⟨h2, h⟩ := h
  refine A_ist (pc2 := 499) 14 (dk D_X13_readBody 267 rfl) rfl (by decide) rfl (by decide) rfl rfl h2 ?_
  have h := h _ rfl
  refine A_p (fun T Q _ _ k => V_iinc (y := _ + 1) (pc2 := 502) (lv2 := [(0, _), (1, _), (2, _), (3, _), (4, _), (5, _), (6, _), (7, _), (8, _)]) (dk D_X13_readBody 268 rfl) (V_lg 6 rfl) rfl (by decide) rfl rfl k) ?_
  refine A_p (fun T Q _ _ k => V_goto (tgt := 397) (dk D_X13_readBody 269 rfl) (by decide) k) ?_
  refine A_p (fun T Q _ _ k => V_pick [0, 1, 2, 3, 4, 5, 6] (lv2 := [(0, _), (1, _), (2, _), (3, _), (4, _), (5, _), (6, _)]) rfl k) ?_
  exact h
theorem a_body_0 {X : Cx} {b d : Nat} {σ : Rm} {Q : Res → Rm → Prop} (x1 : Int32) (x2 : Int32) (h : (((sI σ 46) = 0 → Q (.inl (some (vI (-2)))) σ) ∧ (¬ (sI σ 46) = 0 → ∃ e2 : Nat, e2 + 1 ≤ d ∧ AC X b e2 MX13_in [vI x1, vI 0, vI ((sI σ 18) - 1)] σ (aRI fun y5 s6 => ((y5 = 0 → A X b d MX13_body 33 [(0, vR b), (1, vI x1), (2, vI x2)] [] s6 Q) ∧ (¬ y5 = 0 → ∃ e8 : Nat, e8 + 1 ≤ d ∧ AC X b e8 MX13_in [vI x2, vI 0, vI 3] s6 (aRI fun y11 s12 => ((y11 = 0 → A X b d MX13_body 33 [(0, vR b), (1, vI x1), (2, vI x2)] [] s12 Q) ∧ (¬ y11 = 0 → ((x2 = 0 → (vp_in x1 12) ∧ A X b d MX13_body 82 [(0, vR b), (1, vI x1), (2, vI x2)] [vI (aI s12 19 (x1 : Int32).toNatClampNeg)] s12 Q) ∧ (¬ x2 = 0 → ((x2 = 1 → (vp_in x1 12) ∧ A X b d MX13_body 82 [(0, vR b), (1, vI x1), (2, vI x2)] [vI (aI s12 20 (x1 : Int32).toNatClampNeg)] s12 Q) ∧ (¬ x2 = 1 → ((x2 = 2 → (vp_in x1 12) ∧ A X b d MX13_body 82 [(0, vR b), (1, vI x1), (2, vI x2)] [vI (aI s12 21 (x1 : Int32).toNatClampNeg)] s12 Q) ∧ (¬ x2 = 2 → (vp_in x1 12) ∧ A X b d MX13_body 82 [(0, vR b), (1, vI x1), (2, vI x2)] [vI (aI s12 22 (x1 : Int32).toNatClampNeg)] s12 Q))))))))))))))) : A X b d MX13_body 0 [(0, vR b), (1, vI x1), (2, vI x2)] [] σ Q := by
  refine A_p (fun T Q _ _ k => V_aload_n (pc2 := 1) (dk D_X13_body 0 rfl) rfl (V_lg 0 rfl) rfl k) ?_
  refine A_sc (pc2 := 4) 46 (dk D_X13_body 1 rfl) fl_13_448 (by decide) rfl (fun _ => rfl) rfl ?_
  refine A_if (pa := 7) (pb := 10) (fun T Q k1 k2 => V_ifne (tgt := 10) (pc2 := 7) (dk D_X13_body 2 rfl) (by decide) rfl (fun q => k2 q) (fun q => k1 q)) (fun q1 => ?_) (fun q1 => ?_)
  · have h := h.1 q1
    refine A_p (fun T Q _ _ k => V_bipush (x := (-2)) (pc2 := 9) (dk D_X13_body 3 rfl) (by decide) rfl k) ?_
    exact A_ret (fun T Q _ k => V_ireturn (dk D_X13_body 4 rfl) rfl k) h
  · have h := h.2 q1
    refine A_p (fun T Q _ _ k => V_iload_n (pc2 := 11) (dk D_X13_body 5 rfl) rfl (V_lg 1 rfl) rfl k) ?_
    refine A_p (fun T Q _ _ k => V_iconst (x := 0) (pc2 := 12) (dk D_X13_body 6 rfl) (by decide) rfl k) ?_
    refine A_p (fun T Q _ _ k => V_aload_n (pc2 := 13) (dk D_X13_body 7 rfl) rfl (V_lg 0 rfl) rfl k) ?_
    refine A_sc (pc2 := 16) 18 (dk D_X13_body 8 rfl) fl_13_445 (by decide) rfl (fun _ => rfl) rfl ?_
    refine A_p (fun T Q _ _ k => V_iconst (x := 1) (pc2 := 17) (dk D_X13_body 9 rfl) (by decide) rfl k) ?_
    refine A_p (fun T Q _ _ k => V_isub (pc2 := 18) (dk D_X13_body 10 rfl) rfl k) ?_
    obtain ⟨e2, he3, hc4⟩ := h
    refine A_call (st := []) (pc2 := 21) (fun T Q Qc L hc k => V_callS (as := [_, _, _]) (st := []) (M' := MX13_in) (pc2 := 21) (dk D_X13_body 11 rfl) ml_13_292 mv_X13_in rfl rfl (Nat.le_of_ble_eq_true rfl) rfl he3 hc k) hc4 (aRI.k fun y5 s6 h => ?_)
    refine A_if (pa := 33) (pb := 24) (fun T Q k1 k2 => V_ifeq (tgt := 33) (pc2 := 24) (dk D_X13_body 12 rfl) (by decide) rfl (fun q => k1 q) (fun q => k2 q)) (fun q7 => ?_) (fun q7 => ?_)
    · have h := h.1 q7
      exact h
    · have h := h.2 q7
      refine A_p (fun T Q _ _ k => V_iload_n (pc2 := 25) (dk D_X13_body 13 rfl) rfl (V_lg 2 rfl) rfl k) ?_
      refine A_p (fun T Q _ _ k => V_iconst (x := 0) (pc2 := 26) (dk D_X13_body 14 rfl) (by decide) rfl k) ?_
      refine A_p (fun T Q _ _ k => V_iconst (x := 3) (pc2 := 27) (dk D_X13_body 15 rfl) (by decide) rfl k) ?_
      obtain ⟨e8, he9, hc10⟩ := h
      refine A_call (st := []) (pc2 := 30) (fun T Q Qc L hc k => V_callS (as := [_, _, _]) (st := []) (M' := MX13_in) (pc2 := 30) (dk D_X13_body 16 rfl) ml_13_292 mv_X13_in rfl rfl (Nat.le_of_ble_eq_true rfl) rfl he9 hc k) hc10 (aRI.k fun y11 s12 h => ?_)
      refine A_if (pa := 33) (pb := 35) (fun T Q k1 k2 => V_ifne (tgt := 35) (pc2 := 33) (dk D_X13_body 17 rfl) (by decide) rfl (fun q => k2 q) (fun q => k1 q)) (fun q13 => ?_) (fun q13 => ?_)
      · have h := h.1 q13
        exact h
      · have h := h.2 q13
        refine A_p (fun T Q _ _ k => V_iload_n (pc2 := 36) (dk D_X13_body 20 rfl) rfl (V_lg 2 rfl) rfl k) ?_
        refine A_if (pa := 39) (pb := 48) (fun T Q k1 k2 => V_ifne (tgt := 48) (pc2 := 39) (dk D_X13_body 21 rfl) (by decide) rfl (fun q => k2 q) (fun q => k1 q)) (fun q14 => ?_) (fun q14 => ?_)
        · have h := h.1 q14
          refine A_p (fun T Q _ _ k => V_aload_n (pc2 := 40) (dk D_X13_body 22 rfl) rfl (V_lg 0 rfl) rfl k) ?_
          refine A_ar (pc2 := 43) (a := 14) 19 (dk D_X13_body 23 rfl) fl_13_104 (by decide) (by decide) rfl (fun _ => rfl) rfl ?_
          refine A_p (fun T Q _ _ k => V_iload_n (pc2 := 44) (dk D_X13_body 24 rfl) rfl (V_lg 1 rfl) rfl k) ?_
          obtain ⟨h15, h⟩ := h
          refine A_ild (pc2 := 45) 19 (dk D_X13_body 25 rfl) rfl (by decide) rfl (by decide) rfl rfl h15 ?_
          refine A_p (fun T Q _ _ k => V_goto (tgt := 82) (dk D_X13_body 26 rfl) (by decide) k) ?_
          exact h
        · have h := h.2 q14
          refine A_p (fun T Q _ _ k => V_iload_n (pc2 := 49) (dk D_X13_body 27 rfl) rfl (V_lg 2 rfl) rfl k) ?_
          refine A_p (fun T Q _ _ k => V_iconst (x := 1) (pc2 := 50) (dk D_X13_body 28 rfl) (by decide) rfl k) ?_
          refine A_if (pa := 53) (pb := 62) (fun T Q k1 k2 => V_cmpne (tgt := 62) (pc2 := 53) (dk D_X13_body 29 rfl) (by decide) rfl (fun q => k2 q) (fun q => k1 q)) (fun q16 => ?_) (fun q16 => ?_)
          · have h := h.1 q16
            refine A_p (fun T Q _ _ k => V_aload_n (pc2 := 54) (dk D_X13_body 30 rfl) rfl (V_lg 0 rfl) rfl k) ?_
            refine A_ar (pc2 := 57) (a := 15) 20 (dk D_X13_body 31 rfl) fl_13_107 (by decide) (by decide) rfl (fun _ => rfl) rfl ?_
            refine A_p (fun T Q _ _ k => V_iload_n (pc2 := 58) (dk D_X13_body 32 rfl) rfl (V_lg 1 rfl) rfl k) ?_
            obtain ⟨h17, h⟩ := h
            refine A_ild (pc2 := 59) 20 (dk D_X13_body 33 rfl) rfl (by decide) rfl (by decide) rfl rfl h17 ?_
            refine A_p (fun T Q _ _ k => V_goto (tgt := 82) (dk D_X13_body 34 rfl) (by decide) k) ?_
            exact h
          · have h := h.2 q16
            refine A_p (fun T Q _ _ k => V_iload_n (pc2 := 63) (dk D_X13_body 35 rfl) rfl (V_lg 2 rfl) rfl k) ?_
            refine A_p (fun T Q _ _ k => V_iconst (x := 2) (pc2 := 64) (dk D_X13_body 36 rfl) (by decide) rfl k) ?_
            refine A_if (pa := 67) (pb := 76) (fun T Q k1 k2 => V_cmpne (tgt := 76) (pc2 := 67) (dk D_X13_body 37 rfl) (by decide) rfl (fun q => k2 q) (fun q => k1 q)) (fun q18 => ?_) (fun q18 => ?_)
            · have h := h.1 q18
              refine A_p (fun T Q _ _ k => V_aload_n (pc2 := 68) (dk D_X13_body 38 rfl) rfl (V_lg 0 rfl) rfl k) ?_
              refine A_ar (pc2 := 71) (a := 16) 21 (dk D_X13_body 39 rfl) fl_13_110 (by decide) (by decide) rfl (fun _ => rfl) rfl ?_
              refine A_p (fun T Q _ _ k => V_iload_n (pc2 := 72) (dk D_X13_body 40 rfl) rfl (V_lg 1 rfl) rfl k) ?_
              obtain ⟨h19, h⟩ := h
              refine A_ild (pc2 := 73) 21 (dk D_X13_body 41 rfl) rfl (by decide) rfl (by decide) rfl rfl h19 ?_
              refine A_p (fun T Q _ _ k => V_goto (tgt := 82) (dk D_X13_body 42 rfl) (by decide) k) ?_
              exact h
            · have h := h.2 q18
              refine A_p (fun T Q _ _ k => V_aload_n (pc2 := 77) (dk D_X13_body 43 rfl) rfl (V_lg 0 rfl) rfl k) ?_
              refine A_ar (pc2 := 80) (a := 17) 22 (dk D_X13_body 44 rfl) fl_13_113 (by decide) (by decide) rfl (fun _ => rfl) rfl ?_
              refine A_p (fun T Q _ _ k => V_iload_n (pc2 := 81) (dk D_X13_body 45 rfl) rfl (V_lg 1 rfl) rfl k) ?_
              obtain ⟨h20, h⟩ := h
              refine A_ild (pc2 := 82) 22 (dk D_X13_body 46 rfl) rfl (by decide) rfl (by decide) rfl rfl h20 ?_
              exact h
theorem a_body_33 {X : Cx} {b d : Nat} {σ : Rm} {Q : Res → Rm → Prop} (x1 : Int32) (x2 : Int32) (h : Q (.inl (some (vI (-1)))) σ) : A X b d MX13_body 33 [(0, vR b), (1, vI x1), (2, vI x2)] [] σ Q := by
  refine A_p (fun T Q _ _ k => V_iconst (x := (-1)) (pc2 := 34) (dk D_X13_body 18 rfl) (by decide) rfl k) ?_
  exact A_ret (fun T Q _ k => V_ireturn (dk D_X13_body 19 rfl) rfl k) h
theorem a_body_82 {X : Cx} {b d : Nat} {σ : Rm} {Q : Res → Rm → Prop} (x1 : Int32) (x2 : Int32) (t0 : Int32) (h : Q (.inl (some (vI t0))) σ) : A X b d MX13_body 82 [(0, vR b), (1, vI x1), (2, vI x2)] [vI t0] σ Q := by
  exact A_ret (fun T Q _ k => V_ireturn (dk D_X13_body 47 rfl) rfl k) h
theorem a_begins_0 {X : Cx} {b d : Nat} {σ : Rm} {Q : Res → Rm → Prop}  (h : ∀ s1 : Rm, s1 = wS σ 47 0 → ∀ s2 : Rm, s2 = wS s1 48 0 → A X b d MX13_begins 12 [(0, vR b), (1, vI 0)] [] s2 Q) : A X b d MX13_begins 0 [(0, vR b)] [] σ Q := by
  refine A_p (fun T Q _ _ k => V_aload_n (pc2 := 1) (dk D_X13_begins 0 rfl) rfl (V_lg 0 rfl) rfl k) ?_
  refine A_p (fun T Q _ _ k => V_iconst (x := 0) (pc2 := 2) (dk D_X13_begins 1 rfl) (by decide) rfl k) ?_
  refine A_put (pc2 := 5) 47 (dk D_X13_begins 2 rfl) fl_13_461 (by decide) rfl rfl rfl rfl ?_
  have h := h _ rfl
  refine A_p (fun T Q _ _ k => V_aload_n (pc2 := 6) (dk D_X13_begins 3 rfl) rfl (V_lg 0 rfl) rfl k) ?_
  refine A_p (fun T Q _ _ k => V_iconst (x := 0) (pc2 := 7) (dk D_X13_begins 4 rfl) (by decide) rfl k) ?_
  refine A_put (pc2 := 10) 48 (dk D_X13_begins 5 rfl) fl_13_464 (by decide) rfl rfl rfl rfl ?_
  have h := h _ rfl
  refine A_p (fun T Q _ _ k => V_iconst (x := 0) (pc2 := 11) (dk D_X13_begins 6 rfl) (by decide) rfl k) ?_
  refine A_p (fun T Q _ _ k => V_istore_n (pc2 := 12) (lv2 := [(0, _), (1, _)]) (dk D_X13_begins 7 rfl) rfl (by decide) rfl rfl k) ?_
  exact h
theorem a_begins_12 {X : Cx} {b d : Nat} {σ : Rm} {Q : Res → Rm → Prop} (x1 : Int32) (h : ((12 ≤ x1 → ∀ s2 : Rm, s2 = wS σ 75 0 → ∀ s3 : Rm, s3 = wS s2 76 0 → ∀ s4 : Rm, s4 = wS s3 77 0 → ∀ s5 : Rm, s5 = wS s4 79 0 → ∀ s6 : Rm, s6 = wS s5 80 0 → ∀ s7 : Rm, s7 = wS s6 83 0 → ∀ s8 : Rm, s8 = wS s7 87 0 → ∀ s9 : Rm, s9 = wS s8 88 0 → ∀ s10 : Rm, s10 = wS s9 97 (-9) → Q (.inl none) s10) ∧ (¬ 12 ≤ x1 → (vp_in x1 12) ∧ ∀ s12 : Rm, s12 = wI σ 59 ((x1 : Int32).toNatClampNeg) 0 → A X b d MX13_begins 12 [(0, vR b), (1, vI (x1 + 1))] [] s12 Q))) : A X b d MX13_begins 12 [(0, vR b), (1, vI x1)] [] σ Q := by
  refine A_p (fun T Q _ _ k => V_iload_n (pc2 := 13) (dk D_X13_begins 8 rfl) rfl (V_lg 1 rfl) rfl k) ?_
  refine A_p (fun T Q _ _ k => V_bipush (x := 12) (pc2 := 15) (dk D_X13_begins 9 rfl) (by decide) rfl k) ?_
  refine A_if (pa := 31) (pb := 18) (fun T Q k1 k2 => V_cmpge (tgt := 31) (pc2 := 18) (dk D_X13_begins 10 rfl) (by decide) rfl (fun q => k1 q) (fun q => k2 q)) (fun q1 => ?_) (fun q1 => ?_)
  · have h := h.1 q1
    refine A_p (fun T Q _ _ k => V_aload_n (pc2 := 32) (dk D_X13_begins 18 rfl) rfl (V_lg 0 rfl) rfl k) ?_
    refine A_p (fun T Q _ _ k => V_iconst (x := 0) (pc2 := 33) (dk D_X13_begins 19 rfl) (by decide) rfl k) ?_
    refine A_put (pc2 := 36) 75 (dk D_X13_begins 20 rfl) fl_13_467 (by decide) rfl rfl rfl rfl ?_
    have h := h _ rfl
    refine A_p (fun T Q _ _ k => V_aload_n (pc2 := 37) (dk D_X13_begins 21 rfl) rfl (V_lg 0 rfl) rfl k) ?_
    refine A_p (fun T Q _ _ k => V_iconst (x := 0) (pc2 := 38) (dk D_X13_begins 22 rfl) (by decide) rfl k) ?_
    refine A_putZ (pc2 := 41) 76 (dk D_X13_begins 23 rfl) fl_13_470 (by decide) rfl rfl rfl rfl (Or.inl rfl) ?_
    have h := h _ rfl
    refine A_p (fun T Q _ _ k => V_aload_n (pc2 := 42) (dk D_X13_begins 24 rfl) rfl (V_lg 0 rfl) rfl k) ?_
    refine A_p (fun T Q _ _ k => V_iconst (x := 0) (pc2 := 43) (dk D_X13_begins 25 rfl) (by decide) rfl k) ?_
    refine A_put (pc2 := 46) 77 (dk D_X13_begins 26 rfl) fl_13_473 (by decide) rfl rfl rfl rfl ?_
    have h := h _ rfl
    refine A_p (fun T Q _ _ k => V_aload_n (pc2 := 47) (dk D_X13_begins 27 rfl) rfl (V_lg 0 rfl) rfl k) ?_
    refine A_p (fun T Q _ _ k => V_iconst (x := 0) (pc2 := 48) (dk D_X13_begins 28 rfl) (by decide) rfl k) ?_
    refine A_put (pc2 := 51) 79 (dk D_X13_begins 29 rfl) fl_13_476 (by decide) rfl rfl rfl rfl ?_
    have h := h _ rfl
    refine A_p (fun T Q _ _ k => V_aload_n (pc2 := 52) (dk D_X13_begins 30 rfl) rfl (V_lg 0 rfl) rfl k) ?_
    refine A_p (fun T Q _ _ k => V_iconst (x := 0) (pc2 := 53) (dk D_X13_begins 31 rfl) (by decide) rfl k) ?_
    refine A_put (pc2 := 56) 80 (dk D_X13_begins 32 rfl) fl_13_479 (by decide) rfl rfl rfl rfl ?_
    have h := h _ rfl
    refine A_p (fun T Q _ _ k => V_aload_n (pc2 := 57) (dk D_X13_begins 33 rfl) rfl (V_lg 0 rfl) rfl k) ?_
    refine A_p (fun T Q _ _ k => V_iconst (x := 0) (pc2 := 58) (dk D_X13_begins 34 rfl) (by decide) rfl k) ?_
    refine A_put (pc2 := 61) 83 (dk D_X13_begins 35 rfl) fl_13_482 (by decide) rfl rfl rfl rfl ?_
    have h := h _ rfl
    refine A_p (fun T Q _ _ k => V_aload_n (pc2 := 62) (dk D_X13_begins 36 rfl) rfl (V_lg 0 rfl) rfl k) ?_
    refine A_p (fun T Q _ _ k => V_iconst (x := 0) (pc2 := 63) (dk D_X13_begins 37 rfl) (by decide) rfl k) ?_
    refine A_put (pc2 := 66) 87 (dk D_X13_begins 38 rfl) fl_13_485 (by decide) rfl rfl rfl rfl ?_
    have h := h _ rfl
    refine A_p (fun T Q _ _ k => V_aload_n (pc2 := 67) (dk D_X13_begins 39 rfl) rfl (V_lg 0 rfl) rfl k) ?_
    refine A_p (fun T Q _ _ k => V_iconst (x := 0) (pc2 := 68) (dk D_X13_begins 40 rfl) (by decide) rfl k) ?_
    refine A_put (pc2 := 71) 88 (dk D_X13_begins 41 rfl) fl_13_488 (by decide) rfl rfl rfl rfl ?_
    have h := h _ rfl
    refine A_p (fun T Q _ _ k => V_aload_n (pc2 := 72) (dk D_X13_begins 42 rfl) rfl (V_lg 0 rfl) rfl k) ?_
    refine A_p (fun T Q _ _ k => V_bipush (x := (-9)) (pc2 := 74) (dk D_X13_begins 43 rfl) (by decide) rfl k) ?_
    refine A_put (pc2 := 77) 97 (dk D_X13_begins 44 rfl) fl_13_491 (by decide) rfl rfl rfl rfl ?_
    have h := h _ rfl
    exact A_ret (fun T Q _ k => V_return (dk D_X13_begins 45 rfl) rfl k) h
  · have h := h.2 q1
    refine A_p (fun T Q _ _ k => V_aload_n (pc2 := 19) (dk D_X13_begins 11 rfl) rfl (V_lg 0 rfl) rfl k) ?_
    refine A_ar (pc2 := 22) (a := 43) 59 (dk D_X13_begins 12 rfl) fl_13_192 (by decide) (by decide) rfl (fun _ => rfl) rfl ?_
    refine A_p (fun T Q _ _ k => V_iload_n (pc2 := 23) (dk D_X13_begins 13 rfl) rfl (V_lg 1 rfl) rfl k) ?_
    refine A_p (fun T Q _ _ k => V_iconst (x := 0) (pc2 := 24) (dk D_X13_begins 14 rfl) (by decide) rfl k) ?_
    obtain ⟨h11, h⟩ := h
    refine A_zst (pc2 := 25) 59 (dk D_X13_begins 15 rfl) rfl (by decide) rfl (by decide) rfl rfl h11 (Or.inl rfl) ?_
    have h := h _ rfl
    refine A_p (fun T Q _ _ k => V_iinc (y := _ + 1) (pc2 := 28) (lv2 := [(0, _), (1, _)]) (dk D_X13_begins 16 rfl) (V_lg 1 rfl) rfl (by decide) rfl rfl k) ?_
    refine A_p (fun T Q _ _ k => V_goto (tgt := 12) (dk D_X13_begins 17 rfl) (by decide) k) ?_
    exact h
theorem a_isVoice_0 {X : Cx} {b d : Nat} {σ : Rm} {Q : Res → Rm → Prop} (x1 : Int32) (h : ∃ e1 : Nat, e1 + 1 ≤ d ∧ AC X b e1 MX13_in [vI x1, vI 1, vI (sI σ 47)] σ (aRI fun y4 s5 => (y4 = 0 ∨ y4 = 1) ∧ Q (.inl (some (vI y4))) s5)) : A X b d MX13_isVoice 0 [(0, vR b), (1, vI x1)] [] σ Q := by
  refine A_p (fun T Q _ _ k => V_iload_n (pc2 := 1) (dk D_X13_isVoice 0 rfl) rfl (V_lg 1 rfl) rfl k) ?_
  refine A_p (fun T Q _ _ k => V_iconst (x := 1) (pc2 := 2) (dk D_X13_isVoice 1 rfl) (by decide) rfl k) ?_
  refine A_p (fun T Q _ _ k => V_aload_n (pc2 := 3) (dk D_X13_isVoice 2 rfl) rfl (V_lg 0 rfl) rfl k) ?_
  refine A_sc (pc2 := 6) 47 (dk D_X13_isVoice 3 rfl) fl_13_461 (by decide) rfl (fun _ => rfl) rfl ?_
  obtain ⟨e1, he2, hc3⟩ := h
  refine A_call (st := []) (pc2 := 9) (fun T Q Qc L hc k => V_callS (as := [_, _, _]) (st := []) (M' := MX13_in) (pc2 := 9) (dk D_X13_isVoice 4 rfl) ml_13_292 mv_X13_in rfl rfl (Nat.le_of_ble_eq_true rfl) rfl he2 hc k) hc3 (aRI.k fun y4 s5 h => ?_)
  obtain ⟨h6, h⟩ := h
  exact A_ret (fun T Q _ k => V_zreturn (dk D_X13_isVoice 5 rfl) rfl h6 k) h
theorem a_isOver_0 {X : Cx} {b d : Nat} {σ : Rm} {Q : Res → Rm → Prop} (x1 : Int32) (h : (vp_in x1 61) ∧ (((aI σ 49 (x1 : Int32).toNatClampNeg) < 4 → A X b d MX13_isOver 15 [(0, vR b), (1, vI x1)] [vI 0] σ Q) ∧ (¬ (aI σ 49 (x1 : Int32).toNatClampNeg) < 4 → A X b d MX13_isOver 15 [(0, vR b), (1, vI x1)] [vI 1] σ Q))) : A X b d MX13_isOver 0 [(0, vR b), (1, vI x1)] [] σ Q := by
  refine A_p (fun T Q _ _ k => V_aload_n (pc2 := 1) (dk D_X13_isOver 0 rfl) rfl (V_lg 0 rfl) rfl k) ?_
  refine A_ar (pc2 := 4) (a := 33) 49 (dk D_X13_isOver 1 rfl) fl_13_161 (by decide) (by decide) rfl (fun _ => rfl) rfl ?_
  refine A_p (fun T Q _ _ k => V_iload_n (pc2 := 5) (dk D_X13_isOver 2 rfl) rfl (V_lg 1 rfl) rfl k) ?_
  obtain ⟨h1, h⟩ := h
  refine A_ild (pc2 := 6) 49 (dk D_X13_isOver 3 rfl) rfl (by decide) rfl (by decide) rfl rfl h1 ?_
  refine A_p (fun T Q _ _ k => V_iconst (x := 4) (pc2 := 7) (dk D_X13_isOver 4 rfl) (by decide) rfl k) ?_
  refine A_if (pa := 14) (pb := 10) (fun T Q k1 k2 => V_cmplt (tgt := 14) (pc2 := 10) (dk D_X13_isOver 5 rfl) (by decide) rfl (fun q => k1 q) (fun q => k2 q)) (fun q2 => ?_) (fun q2 => ?_)
  · have h := h.1 q2
    refine A_p (fun T Q _ _ k => V_iconst (x := 0) (pc2 := 15) (dk D_X13_isOver 8 rfl) (by decide) rfl k) ?_
    exact h
  · have h := h.2 q2
    refine A_p (fun T Q _ _ k => V_iconst (x := 1) (pc2 := 11) (dk D_X13_isOver 6 rfl) (by decide) rfl k) ?_
    refine A_p (fun T Q _ _ k => V_goto (tgt := 15) (dk D_X13_isOver 7 rfl) (by decide) k) ?_
    exact h
theorem a_isOver_15 {X : Cx} {b d : Nat} {σ : Rm} {Q : Res → Rm → Prop} (x1 : Int32) (t0 : Int32) (h : (t0 = 0 ∨ t0 = 1) ∧ Q (.inl (some (vI t0))) σ) : A X b d MX13_isOver 15 [(0, vR b), (1, vI x1)] [vI t0] σ Q := by
  obtain ⟨h1, h⟩ := h
  exact A_ret (fun T Q _ k => V_zreturn (dk D_X13_isOver 9 rfl) rfl h1 k) h
theorem a_made_0 {X : Cx} {b d : Nat} {σ : Rm} {Q : Res → Rm → Prop} (x1 : Int32) (x2 : Int32) (x3 : Int32) (h : ∀ s1 : Rm, s1 = wS σ 47 ((sI σ 47) + 1) → ∀ s2 : Rm, s2 = wS s1 48 ((sI s1 48) + 1) → (vp_in (sI s1 47) 61) ∧ ∀ s4 : Rm, s4 = wI s2 49 (((sI s1 47) : Int32).toNatClampNeg) 0 → (vp_in (sI s1 47) 61) ∧ ∀ s6 : Rm, s6 = wI s4 50 (((sI s1 47) : Int32).toNatClampNeg) x1 → (vp_in x1 12) ∧ (((aI s6 20 (x1 : Int32).toNatClampNeg) ≤ 0 → A X b d MX13_made 62 [(0, vR b), (1, vI x1), (2, vI x2), (3, vI x3), (4, vI (sI s1 47))] [vI 0, vI (sI s1 47), vR (b + 35)] s6 Q) ∧ (¬ (aI s6 20 (x1 : Int32).toNatClampNeg) ≤ 0 → A X b d MX13_made 62 [(0, vR b), (1, vI x1), (2, vI x2), (3, vI x3), (4, vI (sI s1 47))] [vI x2, vI (sI s1 47), vR (b + 35)] s6 Q))) : A X b d MX13_made 0 [(0, vR b), (1, vI x1), (2, vI x2), (3, vI x3)] [] σ Q := by
  refine A_p (fun T Q _ _ k => V_aload_n (pc2 := 1) (dk D_X13_made 0 rfl) rfl (V_lg 0 rfl) rfl k) ?_
  refine A_p (fun T Q _ _ k => V_dup (pc2 := 2) (dk D_X13_made 1 rfl) rfl rfl k) ?_
  refine A_sc (pc2 := 5) 47 (dk D_X13_made 2 rfl) fl_13_461 (by decide) rfl (fun _ => rfl) rfl ?_
  refine A_p (fun T Q _ _ k => V_iconst (x := 1) (pc2 := 6) (dk D_X13_made 3 rfl) (by decide) rfl k) ?_
  refine A_p (fun T Q _ _ k => V_iadd (pc2 := 7) (dk D_X13_made 4 rfl) rfl k) ?_
  refine A_put (pc2 := 10) 47 (dk D_X13_made 5 rfl) fl_13_461 (by decide) rfl rfl rfl rfl ?_
  have h := h _ rfl
  refine A_p (fun T Q _ _ k => V_aload_n (pc2 := 11) (dk D_X13_made 6 rfl) rfl (V_lg 0 rfl) rfl k) ?_
  refine A_sc (pc2 := 14) 47 (dk D_X13_made 7 rfl) fl_13_461 (by decide) rfl (fun _ => rfl) rfl ?_
  refine A_p (fun T Q _ _ k => V_istore (pc2 := 16) (lv2 := [(0, _), (1, _), (2, _), (3, _), (4, _)]) (dk D_X13_made 8 rfl) (by decide) rfl rfl k) ?_
  refine A_p (fun T Q _ _ k => V_aload_n (pc2 := 17) (dk D_X13_made 9 rfl) rfl (V_lg 0 rfl) rfl k) ?_
  refine A_p (fun T Q _ _ k => V_dup (pc2 := 18) (dk D_X13_made 10 rfl) rfl rfl k) ?_
  refine A_sc (pc2 := 21) 48 (dk D_X13_made 11 rfl) fl_13_464 (by decide) rfl (fun _ => rfl) rfl ?_
  refine A_p (fun T Q _ _ k => V_iconst (x := 1) (pc2 := 22) (dk D_X13_made 12 rfl) (by decide) rfl k) ?_
  refine A_p (fun T Q _ _ k => V_iadd (pc2 := 23) (dk D_X13_made 13 rfl) rfl k) ?_
  refine A_put (pc2 := 26) 48 (dk D_X13_made 14 rfl) fl_13_464 (by decide) rfl rfl rfl rfl ?_
  have h := h _ rfl
  refine A_p (fun T Q _ _ k => V_aload_n (pc2 := 27) (dk D_X13_made 15 rfl) rfl (V_lg 0 rfl) rfl k) ?_
  refine A_ar (pc2 := 30) (a := 33) 49 (dk D_X13_made 16 rfl) fl_13_161 (by decide) (by decide) rfl (fun _ => rfl) rfl ?_
  refine A_p (fun T Q _ _ k => V_iload (pc2 := 32) (dk D_X13_made 17 rfl) (V_lg 4 rfl) rfl k) ?_
  refine A_p (fun T Q _ _ k => V_iconst (x := 0) (pc2 := 33) (dk D_X13_made 18 rfl) (by decide) rfl k) ?_
  obtain ⟨h3, h⟩ := h
  refine A_ist (pc2 := 34) 49 (dk D_X13_made 19 rfl) rfl (by decide) rfl (by decide) rfl rfl h3 ?_
  have h := h _ rfl
  refine A_p (fun T Q _ _ k => V_aload_n (pc2 := 35) (dk D_X13_made 20 rfl) rfl (V_lg 0 rfl) rfl k) ?_
  refine A_ar (pc2 := 38) (a := 34) 50 (dk D_X13_made 21 rfl) fl_13_164 (by decide) (by decide) rfl (fun _ => rfl) rfl ?_
  refine A_p (fun T Q _ _ k => V_iload (pc2 := 40) (dk D_X13_made 22 rfl) (V_lg 4 rfl) rfl k) ?_
  refine A_p (fun T Q _ _ k => V_iload_n (pc2 := 41) (dk D_X13_made 23 rfl) rfl (V_lg 1 rfl) rfl k) ?_
  obtain ⟨h5, h⟩ := h
  refine A_ist (pc2 := 42) 50 (dk D_X13_made 24 rfl) rfl (by decide) rfl (by decide) rfl rfl h5 ?_
  have h := h _ rfl
  refine A_p (fun T Q _ _ k => V_aload_n (pc2 := 43) (dk D_X13_made 25 rfl) rfl (V_lg 0 rfl) rfl k) ?_
  refine A_ar (pc2 := 46) (a := 35) 51 (dk D_X13_made 26 rfl) fl_13_167 (by decide) (by decide) rfl (fun _ => rfl) rfl ?_
  refine A_p (fun T Q _ _ k => V_iload (pc2 := 48) (dk D_X13_made 27 rfl) (V_lg 4 rfl) rfl k) ?_
  refine A_p (fun T Q _ _ k => V_aload_n (pc2 := 49) (dk D_X13_made 28 rfl) rfl (V_lg 0 rfl) rfl k) ?_
  refine A_ar (pc2 := 52) (a := 15) 20 (dk D_X13_made 29 rfl) fl_13_107 (by decide) (by decide) rfl (fun _ => rfl) rfl ?_
  refine A_p (fun T Q _ _ k => V_iload_n (pc2 := 53) (dk D_X13_made 30 rfl) rfl (V_lg 1 rfl) rfl k) ?_
  obtain ⟨h7, h⟩ := h
  refine A_ild (pc2 := 54) 20 (dk D_X13_made 31 rfl) rfl (by decide) rfl (by decide) rfl rfl h7 ?_
  refine A_if (pa := 61) (pb := 57) (fun T Q k1 k2 => V_ifle (tgt := 61) (pc2 := 57) (dk D_X13_made 32 rfl) (by decide) rfl (fun q => k1 q) (fun q => k2 q)) (fun q8 => ?_) (fun q8 => ?_)
  · have h := h.1 q8
    refine A_p (fun T Q _ _ k => V_iconst (x := 0) (pc2 := 62) (dk D_X13_made 35 rfl) (by decide) rfl k) ?_
    exact h
  · have h := h.2 q8
    refine A_p (fun T Q _ _ k => V_iload_n (pc2 := 58) (dk D_X13_made 33 rfl) rfl (V_lg 2 rfl) rfl k) ?_
    refine A_p (fun T Q _ _ k => V_goto (tgt := 62) (dk D_X13_made 34 rfl) (by decide) k) ?_
    exact h
theorem a_made_62 {X : Cx} {b d : Nat} {σ : Rm} {Q : Res → Rm → Prop} (x1 : Int32) (x2 : Int32) (x3 : Int32) (x4 : Int32) (t1 : Int32) (t2 : Int32) (h : (vp_in t1 61) ∧ ∀ s2 : Rm, s2 = wI σ 51 ((t1 : Int32).toNatClampNeg) t2 → (vp_in x4 61) ∧ ∀ s4 : Rm, s4 = wI s2 52 ((x4 : Int32).toNatClampNeg) 0 → (vp_in x4 61) ∧ ∀ s6 : Rm, s6 = wI s4 53 ((x4 : Int32).toNatClampNeg) 0 → (vp_in x4 61) ∧ ∀ s8 : Rm, s8 = wI s6 54 ((x4 : Int32).toNatClampNeg) (-9) → (vp_in x4 61) ∧ ∀ s10 : Rm, s10 = wI s8 55 ((x4 : Int32).toNatClampNeg) x3 → (vp_in x4 61) ∧ ∀ s12 : Rm, s12 = wI s10 56 ((x4 : Int32).toNatClampNeg) 0 → (vp_in x4 61) ∧ ∀ s14 : Rm, s14 = wI s12 57 ((x4 : Int32).toNatClampNeg) 0 → (vp_in x4 61) ∧ ∀ s16 : Rm, s16 = wI s14 58 ((x4 : Int32).toNatClampNeg) (-9) → Q (.inl (some (vI x4))) s16) : A X b d MX13_made 62 [(0, vR b), (1, vI x1), (2, vI x2), (3, vI x3), (4, vI x4)] [vI t2, vI t1, vR (b + 35)] σ Q := by
  obtain ⟨h1, h⟩ := h
  refine A_ist (pc2 := 63) 51 (dk D_X13_made 36 rfl) rfl (by decide) rfl (by decide) rfl rfl h1 ?_
  have h := h _ rfl
  refine A_p (fun T Q _ _ k => V_aload_n (pc2 := 64) (dk D_X13_made 37 rfl) rfl (V_lg 0 rfl) rfl k) ?_
  refine A_ar (pc2 := 67) (a := 36) 52 (dk D_X13_made 38 rfl) fl_13_170 (by decide) (by decide) rfl (fun _ => rfl) rfl ?_
  refine A_p (fun T Q _ _ k => V_iload (pc2 := 69) (dk D_X13_made 39 rfl) (V_lg 4 rfl) rfl k) ?_
  refine A_p (fun T Q _ _ k => V_iconst (x := 0) (pc2 := 70) (dk D_X13_made 40 rfl) (by decide) rfl k) ?_
  obtain ⟨h3, h⟩ := h
  refine A_ist (pc2 := 71) 52 (dk D_X13_made 41 rfl) rfl (by decide) rfl (by decide) rfl rfl h3 ?_
  have h := h _ rfl
  refine A_p (fun T Q _ _ k => V_aload_n (pc2 := 72) (dk D_X13_made 42 rfl) rfl (V_lg 0 rfl) rfl k) ?_
  refine A_ar (pc2 := 75) (a := 37) 53 (dk D_X13_made 43 rfl) fl_13_173 (by decide) (by decide) rfl (fun _ => rfl) rfl ?_
  refine A_p (fun T Q _ _ k => V_iload (pc2 := 77) (dk D_X13_made 44 rfl) (V_lg 4 rfl) rfl k) ?_
  refine A_p (fun T Q _ _ k => V_iconst (x := 0) (pc2 := 78) (dk D_X13_made 45 rfl) (by decide) rfl k) ?_
  obtain ⟨h5, h⟩ := h
  refine A_ist (pc2 := 79) 53 (dk D_X13_made 46 rfl) rfl (by decide) rfl (by decide) rfl rfl h5 ?_
  have h := h _ rfl
  refine A_p (fun T Q _ _ k => V_aload_n (pc2 := 80) (dk D_X13_made 47 rfl) rfl (V_lg 0 rfl) rfl k) ?_
  refine A_ar (pc2 := 83) (a := 38) 54 (dk D_X13_made 48 rfl) fl_13_176 (by decide) (by decide) rfl (fun _ => rfl) rfl ?_
  refine A_p (fun T Q _ _ k => V_iload (pc2 := 85) (dk D_X13_made 49 rfl) (V_lg 4 rfl) rfl k) ?_
  refine A_p (fun T Q _ _ k => V_bipush (x := (-9)) (pc2 := 87) (dk D_X13_made 50 rfl) (by decide) rfl k) ?_
  obtain ⟨h7, h⟩ := h
  refine A_ist (pc2 := 88) 54 (dk D_X13_made 51 rfl) rfl (by decide) rfl (by decide) rfl rfl h7 ?_
  have h := h _ rfl
  refine A_p (fun T Q _ _ k => V_aload_n (pc2 := 89) (dk D_X13_made 52 rfl) rfl (V_lg 0 rfl) rfl k) ?_
  refine A_ar (pc2 := 92) (a := 39) 55 (dk D_X13_made 53 rfl) fl_13_179 (by decide) (by decide) rfl (fun _ => rfl) rfl ?_
  refine A_p (fun T Q _ _ k => V_iload (pc2 := 94) (dk D_X13_made 54 rfl) (V_lg 4 rfl) rfl k) ?_
  refine A_p (fun T Q _ _ k => V_iload_n (pc2 := 95) (dk D_X13_made 55 rfl) rfl (V_lg 3 rfl) rfl k) ?_
  obtain ⟨h9, h⟩ := h
  refine A_ist (pc2 := 96) 55 (dk D_X13_made 56 rfl) rfl (by decide) rfl (by decide) rfl rfl h9 ?_
  have h := h _ rfl
  refine A_p (fun T Q _ _ k => V_aload_n (pc2 := 97) (dk D_X13_made 57 rfl) rfl (V_lg 0 rfl) rfl k) ?_
  refine A_ar (pc2 := 100) (a := 40) 56 (dk D_X13_made 58 rfl) fl_13_182 (by decide) (by decide) rfl (fun _ => rfl) rfl ?_
  refine A_p (fun T Q _ _ k => V_iload (pc2 := 102) (dk D_X13_made 59 rfl) (V_lg 4 rfl) rfl k) ?_
  refine A_p (fun T Q _ _ k => V_iconst (x := 0) (pc2 := 103) (dk D_X13_made 60 rfl) (by decide) rfl k) ?_
  obtain ⟨h11, h⟩ := h
  refine A_ist (pc2 := 104) 56 (dk D_X13_made 61 rfl) rfl (by decide) rfl (by decide) rfl rfl h11 ?_
  have h := h _ rfl
  refine A_p (fun T Q _ _ k => V_aload_n (pc2 := 105) (dk D_X13_made 62 rfl) rfl (V_lg 0 rfl) rfl k) ?_
  refine A_ar (pc2 := 108) (a := 41) 57 (dk D_X13_made 63 rfl) fl_13_185 (by decide) (by decide) rfl (fun _ => rfl) rfl ?_
  refine A_p (fun T Q _ _ k => V_iload (pc2 := 110) (dk D_X13_made 64 rfl) (V_lg 4 rfl) rfl k) ?_
  refine A_p (fun T Q _ _ k => V_iconst (x := 0) (pc2 := 111) (dk D_X13_made 65 rfl) (by decide) rfl k) ?_
  obtain ⟨h13, h⟩ := h
  refine A_zst (pc2 := 112) 57 (dk D_X13_made 66 rfl) rfl (by decide) rfl (by decide) rfl rfl h13 (Or.inl rfl) ?_
  have h := h _ rfl
  refine A_p (fun T Q _ _ k => V_aload_n (pc2 := 113) (dk D_X13_made 67 rfl) rfl (V_lg 0 rfl) rfl k) ?_
  refine A_ar (pc2 := 116) (a := 42) 58 (dk D_X13_made 68 rfl) fl_13_189 (by decide) (by decide) rfl (fun _ => rfl) rfl ?_
  refine A_p (fun T Q _ _ k => V_iload (pc2 := 118) (dk D_X13_made 69 rfl) (V_lg 4 rfl) rfl k) ?_
  refine A_p (fun T Q _ _ k => V_bipush (x := (-9)) (pc2 := 120) (dk D_X13_made 70 rfl) (by decide) rfl k) ?_
  obtain ⟨h15, h⟩ := h
  refine A_ist (pc2 := 121) 58 (dk D_X13_made 71 rfl) rfl (by decide) rfl (by decide) rfl rfl h15 ?_
  have h := h _ rfl
  refine A_p (fun T Q _ _ k => V_iload (pc2 := 123) (dk D_X13_made 72 rfl) (V_lg 4 rfl) rfl k) ?_
  exact A_ret (fun T Q _ k => V_ireturn (dk D_X13_made 73 rfl) rfl k) h
theorem a_failure_0 {X : Cx} {b d : Nat} {σ : Rm} {Q : Res → Rm → Prop} (x1 : Int32) (x2 : Int32) (x3 : Int32) (x4 : Int32) (x5 : Int32) (h : ∀ s1 : Rm, s1 = wS σ 88 ((sI σ 88) + 1) → (vp_in (sI σ 88) 8000) ∧ ∀ s3 : Rm, s3 = wI s1 89 (((sI σ 88) : Int32).toNatClampNeg) x1 → (vp_in (sI σ 88) 8000) ∧ ∀ s5 : Rm, s5 = wI s3 90 (((sI σ 88) : Int32).toNatClampNeg) x2 → (vp_in (sI σ 88) 8000) ∧ ∀ s7 : Rm, s7 = wI s5 91 (((sI σ 88) : Int32).toNatClampNeg) x3 → (vp_in (sI σ 88) 8000) ∧ ∀ s9 : Rm, s9 = wI s7 92 (((sI σ 88) : Int32).toNatClampNeg) x4 → (vp_in (sI σ 88) 8000) ∧ ∀ s11 : Rm, s11 = wI s9 93 (((sI σ 88) : Int32).toNatClampNeg) x5 → (vp_in (sI σ 88) 8000) ∧ ∀ s13 : Rm, s13 = wI s11 94 (((sI σ 88) : Int32).toNatClampNeg) (-9) → (vp_in (sI σ 88) 8000) ∧ ∀ s15 : Rm, s15 = wI s13 95 (((sI σ 88) : Int32).toNatClampNeg) (-9) → (vp_in (sI σ 88) 8000) ∧ ∀ s17 : Rm, s17 = wI s15 96 (((sI σ 88) : Int32).toNatClampNeg) (-9) → Q (.inl (some (vI (sI σ 88)))) s17) : A X b d MX13_failure 0 [(0, vR b), (1, vI x1), (2, vI x2), (3, vI x3), (4, vI x4), (5, vI x5)] [] σ Q := by
  refine A_p (fun T Q _ _ k => V_aload_n (pc2 := 1) (dk D_X13_failure 0 rfl) rfl (V_lg 0 rfl) rfl k) ?_
  refine A_sc (pc2 := 4) 88 (dk D_X13_failure 1 rfl) fl_13_488 (by decide) rfl (fun _ => rfl) rfl ?_
  refine A_p (fun T Q _ _ k => V_istore (pc2 := 6) (lv2 := [(0, _), (1, _), (2, _), (3, _), (4, _), (5, _), (6, _)]) (dk D_X13_failure 2 rfl) (by decide) rfl rfl k) ?_
  refine A_p (fun T Q _ _ k => V_aload_n (pc2 := 7) (dk D_X13_failure 3 rfl) rfl (V_lg 0 rfl) rfl k) ?_
  refine A_p (fun T Q _ _ k => V_dup (pc2 := 8) (dk D_X13_failure 4 rfl) rfl rfl k) ?_
  refine A_sc (pc2 := 11) 88 (dk D_X13_failure 5 rfl) fl_13_488 (by decide) rfl (fun _ => rfl) rfl ?_
  refine A_p (fun T Q _ _ k => V_iconst (x := 1) (pc2 := 12) (dk D_X13_failure 6 rfl) (by decide) rfl k) ?_
  refine A_p (fun T Q _ _ k => V_iadd (pc2 := 13) (dk D_X13_failure 7 rfl) rfl k) ?_
  refine A_put (pc2 := 16) 88 (dk D_X13_failure 8 rfl) fl_13_488 (by decide) rfl rfl rfl rfl ?_
  have h := h _ rfl
  refine A_p (fun T Q _ _ k => V_aload_n (pc2 := 17) (dk D_X13_failure 9 rfl) rfl (V_lg 0 rfl) rfl k) ?_
  refine A_ar (pc2 := 20) (a := 64) 89 (dk D_X13_failure 10 rfl) fl_13_256 (by decide) (by decide) rfl (fun _ => rfl) rfl ?_
  refine A_p (fun T Q _ _ k => V_iload (pc2 := 22) (dk D_X13_failure 11 rfl) (V_lg 6 rfl) rfl k) ?_
  refine A_p (fun T Q _ _ k => V_iload_n (pc2 := 23) (dk D_X13_failure 12 rfl) rfl (V_lg 1 rfl) rfl k) ?_
  obtain ⟨h2, h⟩ := h
  refine A_ist (pc2 := 24) 89 (dk D_X13_failure 13 rfl) rfl (by decide) rfl (by decide) rfl rfl h2 ?_
  have h := h _ rfl
  refine A_p (fun T Q _ _ k => V_aload_n (pc2 := 25) (dk D_X13_failure 14 rfl) rfl (V_lg 0 rfl) rfl k) ?_
  refine A_ar (pc2 := 28) (a := 65) 90 (dk D_X13_failure 15 rfl) fl_13_259 (by decide) (by decide) rfl (fun _ => rfl) rfl ?_
  refine A_p (fun T Q _ _ k => V_iload (pc2 := 30) (dk D_X13_failure 16 rfl) (V_lg 6 rfl) rfl k) ?_
  refine A_p (fun T Q _ _ k => V_iload_n (pc2 := 31) (dk D_X13_failure 17 rfl) rfl (V_lg 2 rfl) rfl k) ?_
  obtain ⟨h4, h⟩ := h
  refine A_ist (pc2 := 32) 90 (dk D_X13_failure 18 rfl) rfl (by decide) rfl (by decide) rfl rfl h4 ?_
  have h := h _ rfl
  refine A_p (fun T Q _ _ k => V_aload_n (pc2 := 33) (dk D_X13_failure 19 rfl) rfl (V_lg 0 rfl) rfl k) ?_
  refine A_ar (pc2 := 36) (a := 66) 91 (dk D_X13_failure 20 rfl) fl_13_262 (by decide) (by decide) rfl (fun _ => rfl) rfl ?_
  refine A_p (fun T Q _ _ k => V_iload (pc2 := 38) (dk D_X13_failure 21 rfl) (V_lg 6 rfl) rfl k) ?_
  refine A_p (fun T Q _ _ k => V_iload_n (pc2 := 39) (dk D_X13_failure 22 rfl) rfl (V_lg 3 rfl) rfl k) ?_
  obtain ⟨h6, h⟩ := h
  refine A_ist (pc2 := 40) 91 (dk D_X13_failure 23 rfl) rfl (by decide) rfl (by decide) rfl rfl h6 ?_
  have h := h _ rfl
  refine A_p (fun T Q _ _ k => V_aload_n (pc2 := 41) (dk D_X13_failure 24 rfl) rfl (V_lg 0 rfl) rfl k) ?_
  refine A_ar (pc2 := 44) (a := 67) 92 (dk D_X13_failure 25 rfl) fl_13_265 (by decide) (by decide) rfl (fun _ => rfl) rfl ?_
  refine A_p (fun T Q _ _ k => V_iload (pc2 := 46) (dk D_X13_failure 26 rfl) (V_lg 6 rfl) rfl k) ?_
  refine A_p (fun T Q _ _ k => V_iload (pc2 := 48) (dk D_X13_failure 27 rfl) (V_lg 4 rfl) rfl k) ?_
  obtain ⟨h8, h⟩ := h
  refine A_ist (pc2 := 49) 92 (dk D_X13_failure 28 rfl) rfl (by decide) rfl (by decide) rfl rfl h8 ?_
  have h := h _ rfl
  refine A_p (fun T Q _ _ k => V_aload_n (pc2 := 50) (dk D_X13_failure 29 rfl) rfl (V_lg 0 rfl) rfl k) ?_
  refine A_ar (pc2 := 53) (a := 68) 93 (dk D_X13_failure 30 rfl) fl_13_268 (by decide) (by decide) rfl (fun _ => rfl) rfl ?_
  refine A_p (fun T Q _ _ k => V_iload (pc2 := 55) (dk D_X13_failure 31 rfl) (V_lg 6 rfl) rfl k) ?_
  refine A_p (fun T Q _ _ k => V_iload (pc2 := 57) (dk D_X13_failure 32 rfl) (V_lg 5 rfl) rfl k) ?_
  obtain ⟨h10, h⟩ := h
  refine A_ist (pc2 := 58) 93 (dk D_X13_failure 33 rfl) rfl (by decide) rfl (by decide) rfl rfl h10 ?_
  have h := h _ rfl
  refine A_p (fun T Q _ _ k => V_aload_n (pc2 := 59) (dk D_X13_failure 34 rfl) rfl (V_lg 0 rfl) rfl k) ?_
  refine A_ar (pc2 := 62) (a := 69) 94 (dk D_X13_failure 35 rfl) fl_13_271 (by decide) (by decide) rfl (fun _ => rfl) rfl ?_
  refine A_p (fun T Q _ _ k => V_iload (pc2 := 64) (dk D_X13_failure 36 rfl) (V_lg 6 rfl) rfl k) ?_
  refine A_p (fun T Q _ _ k => V_bipush (x := (-9)) (pc2 := 66) (dk D_X13_failure 37 rfl) (by decide) rfl k) ?_
  obtain ⟨h12, h⟩ := h
  refine A_ist (pc2 := 67) 94 (dk D_X13_failure 38 rfl) rfl (by decide) rfl (by decide) rfl rfl h12 ?_
  have h := h _ rfl
  refine A_p (fun T Q _ _ k => V_aload_n (pc2 := 68) (dk D_X13_failure 39 rfl) rfl (V_lg 0 rfl) rfl k) ?_
  refine A_ar (pc2 := 71) (a := 70) 95 (dk D_X13_failure 40 rfl) fl_13_274 (by decide) (by decide) rfl (fun _ => rfl) rfl ?_
  refine A_p (fun T Q _ _ k => V_iload (pc2 := 73) (dk D_X13_failure 41 rfl) (V_lg 6 rfl) rfl k) ?_
  refine A_p (fun T Q _ _ k => V_bipush (x := (-9)) (pc2 := 75) (dk D_X13_failure 42 rfl) (by decide) rfl k) ?_
  obtain ⟨h14, h⟩ := h
  refine A_ist (pc2 := 76) 95 (dk D_X13_failure 43 rfl) rfl (by decide) rfl (by decide) rfl rfl h14 ?_
  have h := h _ rfl
  refine A_p (fun T Q _ _ k => V_aload_n (pc2 := 77) (dk D_X13_failure 44 rfl) rfl (V_lg 0 rfl) rfl k) ?_
  refine A_ar (pc2 := 80) (a := 71) 96 (dk D_X13_failure 45 rfl) fl_13_277 (by decide) (by decide) rfl (fun _ => rfl) rfl ?_
  refine A_p (fun T Q _ _ k => V_iload (pc2 := 82) (dk D_X13_failure 46 rfl) (V_lg 6 rfl) rfl k) ?_
  refine A_p (fun T Q _ _ k => V_bipush (x := (-9)) (pc2 := 84) (dk D_X13_failure 47 rfl) (by decide) rfl k) ?_
  obtain ⟨h16, h⟩ := h
  refine A_ist (pc2 := 85) 96 (dk D_X13_failure 48 rfl) rfl (by decide) rfl (by decide) rfl rfl h16 ?_
  have h := h _ rfl
  refine A_p (fun T Q _ _ k => V_iload (pc2 := 87) (dk D_X13_failure 49 rfl) (V_lg 6 rfl) rfl k) ?_
  exact A_ret (fun T Q _ k => V_ireturn (dk D_X13_failure 50 rfl) rfl k) h
