theorem a_injects_0 {X : Cx} {b d : Nat} {σ : Rm} {Q : Res → Rm → Prop} (x1 : Int32) (x2 : Int32) (x3 : Int32) (x4 : Int32) (h : ∃ e1 : Nat, e1 + 1 ≤ d ∧ AC X b e1 MX13_isMisuse [vR b, vI x1, vI x2] σ (aRI fun y4 s5 => ((y4 = 0 → ∃ e7 : Nat, e7 + 1 ≤ d ∧ AC X b e7 MX13_placeOf [vR b, vI x1] s5 (aRI fun y10 s11 => ∃ e12 : Nat, e12 + 1 ≤ d ∧ AC X b e12 MX13_failure [vR b, vI x3, vI x4, vI x1, vI y10, vI (-9)] s11 (aRI fun y15 s16 => (vp_in x2 61) ∧ (((aI s16 49 (x2 : Int32).toNatClampNeg) = 0 → ∃ e19 : Nat, e19 + 1 ≤ d ∧ AC X b e19 MX13_over [vR b, vI x2, vI 5] s16 (aRV fun  s22 => ∃ e23 : Nat, e23 + 1 ≤ d ∧ AC X b e23 MX13_raise [vR b, vI x1, vI y15] s22 (aRV fun  s26 => Q (.inl none) s26))) ∧ (¬ (aI s16 49 (x2 : Int32).toNatClampNeg) = 0 → (vp_in x1 61) ∧ ∀ s28 : Rm, s28 = wI s16 49 ((x1 : Int32).toNatClampNeg) 3 → (vp_in x1 61) ∧ ∀ s30 : Rm, s30 = wI s28 56 ((x1 : Int32).toNatClampNeg) 1 → ∃ e31 : Nat, e31 + 1 ≤ d ∧ AC X b e31 MX13_thrownInto [vR b, vI x1, vI x2, vI y15] s30 (aRV fun  s34 => Q (.inl none) s34)))))) ∧ (¬ y4 = 0 → ∃ e35 : Nat, e35 + 1 ≤ d ∧ AC X b e35 MX13_arises [vR b, vI x1, vI 10] s5 (aRV fun  s38 => Q (.inl none) s38))))) : A X b d MX13_injects 0 [(0, vR b), (1, vI x1), (2, vI x2), (3, vI x3), (4, vI x4)] [] σ Q := by
  refine A_p (fun T Q _ _ k => V_aload_n (pc2 := 1) (dk D_X13_injects 0 rfl) rfl (V_lg 0 rfl) rfl k) ?_
  refine A_p (fun T Q _ _ k => V_iload_n (pc2 := 2) (dk D_X13_injects 1 rfl) rfl (V_lg 1 rfl) rfl k) ?_
  refine A_p (fun T Q _ _ k => V_iload_n (pc2 := 3) (dk D_X13_injects 2 rfl) rfl (V_lg 2 rfl) rfl k) ?_
  obtain ⟨e1, he2, hc3⟩ := h
  refine A_call (st := []) (pc2 := 6) (fun T Q Qc L hc k => V_callV (as := [_, _]) (st := []) (M' := MX13_isMisuse) (ci := 13) (pc2 := 6) (dk D_X13_injects 3 rfl) ml_13_563 mv_X13_isMisuse rfl rfl (by decide) rfl (Nat.le_of_ble_eq_true rfl) rfl he2 L.2.1 hc k) hc3 (aRI.k fun y4 s5 h => ?_)
  refine A_if (pa := 17) (pb := 9) (fun T Q k1 k2 => V_ifeq (tgt := 17) (pc2 := 9) (dk D_X13_injects 4 rfl) (by decide) rfl (fun q => k1 q) (fun q => k2 q)) (fun q6 => ?_) (fun q6 => ?_)
  · have h := h.1 q6
    refine A_p (fun T Q _ _ k => V_aload_n (pc2 := 18) (dk D_X13_injects 10 rfl) rfl (V_lg 0 rfl) rfl k) ?_
    refine A_p (fun T Q _ _ k => V_iload_n (pc2 := 19) (dk D_X13_injects 11 rfl) rfl (V_lg 3 rfl) rfl k) ?_
    refine A_p (fun T Q _ _ k => V_iload (pc2 := 21) (dk D_X13_injects 12 rfl) (V_lg 4 rfl) rfl k) ?_
    refine A_p (fun T Q _ _ k => V_iload_n (pc2 := 22) (dk D_X13_injects 13 rfl) rfl (V_lg 1 rfl) rfl k) ?_
    refine A_p (fun T Q _ _ k => V_aload_n (pc2 := 23) (dk D_X13_injects 14 rfl) rfl (V_lg 0 rfl) rfl k) ?_
    refine A_p (fun T Q _ _ k => V_iload_n (pc2 := 24) (dk D_X13_injects 15 rfl) rfl (V_lg 1 rfl) rfl k) ?_
    obtain ⟨e7, he8, hc9⟩ := h
    refine A_call (st := [_, _, _, _]) (pc2 := 27) (fun T Q Qc L hc k => V_callV (as := [_]) (st := [_, _, _, _]) (M' := MX13_placeOf) (ci := 13) (pc2 := 27) (dk D_X13_injects 16 rfl) ml_13_522 mv_X13_placeOf rfl rfl (by decide) rfl (Nat.le_of_ble_eq_true rfl) rfl he8 L.2.1 hc k) hc9 (aRI.k fun y10 s11 h => ?_)
    refine A_p (fun T Q _ _ k => V_bipush (x := (-9)) (pc2 := 29) (dk D_X13_injects 17 rfl) (by decide) rfl k) ?_
    obtain ⟨e12, he13, hc14⟩ := h
    refine A_call (st := []) (pc2 := 32) (fun T Q Qc L hc k => V_callV (as := [_, _, _, _, _]) (st := []) (M' := MX13_failure) (ci := 13) (pc2 := 32) (dk D_X13_injects 18 rfl) ml_13_525 mv_X13_failure rfl rfl (by decide) rfl (Nat.le_of_ble_eq_true rfl) rfl he13 L.2.1 hc k) hc14 (aRI.k fun y15 s16 h => ?_)
    refine A_p (fun T Q _ _ k => V_istore (pc2 := 34) (lv2 := [(0, _), (1, _), (2, _), (3, _), (4, _), (5, _)]) (dk D_X13_injects 19 rfl) (by decide) rfl rfl k) ?_
    refine A_p (fun T Q _ _ k => V_aload_n (pc2 := 35) (dk D_X13_injects 20 rfl) rfl (V_lg 0 rfl) rfl k) ?_
    refine A_ar (pc2 := 38) (a := 33) 49 (dk D_X13_injects 21 rfl) fl_13_161 (by decide) (by decide) rfl (fun _ => rfl) rfl ?_
    refine A_p (fun T Q _ _ k => V_iload_n (pc2 := 39) (dk D_X13_injects 22 rfl) rfl (V_lg 2 rfl) rfl k) ?_
    obtain ⟨h17, h⟩ := h
    refine A_ild (pc2 := 40) 49 (dk D_X13_injects 23 rfl) rfl (by decide) rfl (by decide) rfl rfl h17 ?_
    refine A_if (pa := 43) (pb := 57) (fun T Q k1 k2 => V_ifne (tgt := 57) (pc2 := 43) (dk D_X13_injects 24 rfl) (by decide) rfl (fun q => k2 q) (fun q => k1 q)) (fun q18 => ?_) (fun q18 => ?_)
    · have h := h.1 q18
      refine A_p (fun T Q _ _ k => V_aload_n (pc2 := 44) (dk D_X13_injects 25 rfl) rfl (V_lg 0 rfl) rfl k) ?_
      refine A_p (fun T Q _ _ k => V_iload_n (pc2 := 45) (dk D_X13_injects 26 rfl) rfl (V_lg 2 rfl) rfl k) ?_
      refine A_p (fun T Q _ _ k => V_iconst (x := 5) (pc2 := 46) (dk D_X13_injects 27 rfl) (by decide) rfl k) ?_
      obtain ⟨e19, he20, hc21⟩ := h
      refine A_call (st := []) (pc2 := 49) (fun T Q Qc L hc k => V_callV (as := [_, _]) (st := []) (M' := MX13_over) (ci := 13) (pc2 := 49) (dk D_X13_injects 28 rfl) ml_13_513 mv_X13_over rfl rfl (by decide) rfl (Nat.le_of_ble_eq_true rfl) rfl he20 L.2.1 hc k) hc21 (aRV.k fun  s22 h => ?_)
      refine A_p (fun T Q _ _ k => V_aload_n (pc2 := 50) (dk D_X13_injects 29 rfl) rfl (V_lg 0 rfl) rfl k) ?_
      refine A_p (fun T Q _ _ k => V_iload_n (pc2 := 51) (dk D_X13_injects 30 rfl) rfl (V_lg 1 rfl) rfl k) ?_
      refine A_p (fun T Q _ _ k => V_iload (pc2 := 53) (dk D_X13_injects 31 rfl) (V_lg 5 rfl) rfl k) ?_
      obtain ⟨e23, he24, hc25⟩ := h
      refine A_call (st := []) (pc2 := 56) (fun T Q Qc L hc k => V_callV (as := [_, _]) (st := []) (M' := MX13_raise) (ci := 13) (pc2 := 56) (dk D_X13_injects 32 rfl) ml_13_529 mv_X13_raise rfl rfl (by decide) rfl (Nat.le_of_ble_eq_true rfl) rfl he24 L.2.1 hc k) hc25 (aRV.k fun  s26 h => ?_)
      exact A_ret (fun T Q _ k => V_return (dk D_X13_injects 33 rfl) rfl k) h
    · have h := h.2 q18
      refine A_p (fun T Q _ _ k => V_aload_n (pc2 := 58) (dk D_X13_injects 34 rfl) rfl (V_lg 0 rfl) rfl k) ?_
      refine A_ar (pc2 := 61) (a := 33) 49 (dk D_X13_injects 35 rfl) fl_13_161 (by decide) (by decide) rfl (fun _ => rfl) rfl ?_
      refine A_p (fun T Q _ _ k => V_iload_n (pc2 := 62) (dk D_X13_injects 36 rfl) rfl (V_lg 1 rfl) rfl k) ?_
      refine A_p (fun T Q _ _ k => V_iconst (x := 3) (pc2 := 63) (dk D_X13_injects 37 rfl) (by decide) rfl k) ?_
      obtain ⟨h27, h⟩ := h
      refine A_ist (pc2 := 64) 49 (dk D_X13_injects 38 rfl) rfl (by decide) rfl (by decide) rfl rfl h27 ?_
      have h := h _ rfl
      refine A_p (fun T Q _ _ k => V_aload_n (pc2 := 65) (dk D_X13_injects 39 rfl) rfl (V_lg 0 rfl) rfl k) ?_
      refine A_ar (pc2 := 68) (a := 40) 56 (dk D_X13_injects 40 rfl) fl_13_182 (by decide) (by decide) rfl (fun _ => rfl) rfl ?_
      refine A_p (fun T Q _ _ k => V_iload_n (pc2 := 69) (dk D_X13_injects 41 rfl) rfl (V_lg 1 rfl) rfl k) ?_
      refine A_p (fun T Q _ _ k => V_iconst (x := 1) (pc2 := 70) (dk D_X13_injects 42 rfl) (by decide) rfl k) ?_
      obtain ⟨h29, h⟩ := h
      refine A_ist (pc2 := 71) 56 (dk D_X13_injects 43 rfl) rfl (by decide) rfl (by decide) rfl rfl h29 ?_
      have h := h _ rfl
      refine A_p (fun T Q _ _ k => V_aload_n (pc2 := 72) (dk D_X13_injects 44 rfl) rfl (V_lg 0 rfl) rfl k) ?_
      refine A_p (fun T Q _ _ k => V_iload_n (pc2 := 73) (dk D_X13_injects 45 rfl) rfl (V_lg 1 rfl) rfl k) ?_
      refine A_p (fun T Q _ _ k => V_iload_n (pc2 := 74) (dk D_X13_injects 46 rfl) rfl (V_lg 2 rfl) rfl k) ?_
      refine A_p (fun T Q _ _ k => V_iload (pc2 := 76) (dk D_X13_injects 47 rfl) (V_lg 5 rfl) rfl k) ?_
      obtain ⟨e31, he32, hc33⟩ := h
      refine A_call (st := []) (pc2 := 79) (fun T Q Qc L hc k => V_callV (as := [_, _, _]) (st := []) (M' := MX13_thrownInto) (ci := 13) (pc2 := 79) (dk D_X13_injects 48 rfl) ml_13_573 mv_X13_thrownInto rfl rfl (by decide) rfl (Nat.le_of_ble_eq_true rfl) rfl he32 L.2.1 hc k) hc33 (aRV.k fun  s34 h => ?_)
      exact A_ret (fun T Q _ k => V_return (dk D_X13_injects 49 rfl) rfl k) h
  · have h := h.2 q6
    refine A_p (fun T Q _ _ k => V_aload_n (pc2 := 10) (dk D_X13_injects 5 rfl) rfl (V_lg 0 rfl) rfl k) ?_
    refine A_p (fun T Q _ _ k => V_iload_n (pc2 := 11) (dk D_X13_injects 6 rfl) rfl (V_lg 1 rfl) rfl k) ?_
    refine A_p (fun T Q _ _ k => V_bipush (x := 10) (pc2 := 13) (dk D_X13_injects 7 rfl) (by decide) rfl k) ?_
    obtain ⟨e35, he36, hc37⟩ := h
    refine A_call (st := []) (pc2 := 16) (fun T Q Qc L hc k => V_callV (as := [_, _]) (st := []) (M' := MX13_arises) (ci := 13) (pc2 := 16) (dk D_X13_injects 8 rfl) ml_13_567 mv_X13_arises rfl rfl (by decide) rfl (Nat.le_of_ble_eq_true rfl) rfl he36 L.2.1 hc k) hc37 (aRV.k fun  s38 h => ?_)
    exact A_ret (fun T Q _ k => V_return (dk D_X13_injects 9 rfl) rfl k) h
theorem a_thrownInto_0 {X : Cx} {b d : Nat} {σ : Rm} {Q : Res → Rm → Prop} (x1 : Int32) (x2 : Int32) (x3 : Int32) (h : (vp_in x2 61) ∧ ∀ s2 : Rm, s2 = wI σ 54 ((x2 : Int32).toNatClampNeg) x1 → ∃ e3 : Nat, e3 + 1 ≤ d ∧ AC X b e3 MX13_hands [vR b, vI x1, vI x2] s2 (aRV fun  s6 => ∀ s7 : Rm, s7 = wS s6 77 x2 → (vp_in x2 61) ∧ ∀ s9 : Rm, s9 = wI s7 49 ((x2 : Int32).toNatClampNeg) 2 → ∃ e10 : Nat, e10 + 1 ≤ d ∧ AC X b e10 MX13_raise [vR b, vI x2, vI x3] s9 (aRV fun  s13 => Q (.inl none) s13))) : A X b d MX13_thrownInto 0 [(0, vR b), (1, vI x1), (2, vI x2), (3, vI x3)] [] σ Q := by
  refine A_p (fun T Q _ _ k => V_aload_n (pc2 := 1) (dk D_X13_thrownInto 0 rfl) rfl (V_lg 0 rfl) rfl k) ?_
  refine A_ar (pc2 := 4) (a := 38) 54 (dk D_X13_thrownInto 1 rfl) fl_13_176 (by decide) (by decide) rfl (fun _ => rfl) rfl ?_
  refine A_p (fun T Q _ _ k => V_iload_n (pc2 := 5) (dk D_X13_thrownInto 2 rfl) rfl (V_lg 2 rfl) rfl k) ?_
  refine A_p (fun T Q _ _ k => V_iload_n (pc2 := 6) (dk D_X13_thrownInto 3 rfl) rfl (V_lg 1 rfl) rfl k) ?_
  obtain ⟨h1, h⟩ := h
  refine A_ist (pc2 := 7) 54 (dk D_X13_thrownInto 4 rfl) rfl (by decide) rfl (by decide) rfl rfl h1 ?_
  have h := h _ rfl
  refine A_p (fun T Q _ _ k => V_aload_n (pc2 := 8) (dk D_X13_thrownInto 5 rfl) rfl (V_lg 0 rfl) rfl k) ?_
  refine A_p (fun T Q _ _ k => V_iload_n (pc2 := 9) (dk D_X13_thrownInto 6 rfl) rfl (V_lg 1 rfl) rfl k) ?_
  refine A_p (fun T Q _ _ k => V_iload_n (pc2 := 10) (dk D_X13_thrownInto 7 rfl) rfl (V_lg 2 rfl) rfl k) ?_
  obtain ⟨e3, he4, hc5⟩ := h
  refine A_call (st := []) (pc2 := 13) (fun T Q Qc L hc k => V_callV (as := [_, _]) (st := []) (M' := MX13_hands) (ci := 13) (pc2 := 13) (dk D_X13_thrownInto 8 rfl) ml_13_516 mv_X13_hands rfl rfl (by decide) rfl (Nat.le_of_ble_eq_true rfl) rfl he4 L.2.1 hc k) hc5 (aRV.k fun  s6 h => ?_)
  refine A_p (fun T Q _ _ k => V_aload_n (pc2 := 14) (dk D_X13_thrownInto 9 rfl) rfl (V_lg 0 rfl) rfl k) ?_
  refine A_p (fun T Q _ _ k => V_iload_n (pc2 := 15) (dk D_X13_thrownInto 10 rfl) rfl (V_lg 2 rfl) rfl k) ?_
  refine A_put (pc2 := 18) 77 (dk D_X13_thrownInto 11 rfl) fl_13_473 (by decide) rfl rfl rfl rfl ?_
  have h := h _ rfl
  refine A_p (fun T Q _ _ k => V_aload_n (pc2 := 19) (dk D_X13_thrownInto 12 rfl) rfl (V_lg 0 rfl) rfl k) ?_
  refine A_ar (pc2 := 22) (a := 33) 49 (dk D_X13_thrownInto 13 rfl) fl_13_161 (by decide) (by decide) rfl (fun _ => rfl) rfl ?_
  refine A_p (fun T Q _ _ k => V_iload_n (pc2 := 23) (dk D_X13_thrownInto 14 rfl) rfl (V_lg 2 rfl) rfl k) ?_
  refine A_p (fun T Q _ _ k => V_iconst (x := 2) (pc2 := 24) (dk D_X13_thrownInto 15 rfl) (by decide) rfl k) ?_
  obtain ⟨h8, h⟩ := h
  refine A_ist (pc2 := 25) 49 (dk D_X13_thrownInto 16 rfl) rfl (by decide) rfl (by decide) rfl rfl h8 ?_
  have h := h _ rfl
  refine A_p (fun T Q _ _ k => V_aload_n (pc2 := 26) (dk D_X13_thrownInto 17 rfl) rfl (V_lg 0 rfl) rfl k) ?_
  refine A_p (fun T Q _ _ k => V_iload_n (pc2 := 27) (dk D_X13_thrownInto 18 rfl) rfl (V_lg 2 rfl) rfl k) ?_
  refine A_p (fun T Q _ _ k => V_iload_n (pc2 := 28) (dk D_X13_thrownInto 19 rfl) rfl (V_lg 3 rfl) rfl k) ?_
  obtain ⟨e10, he11, hc12⟩ := h
  refine A_call (st := []) (pc2 := 31) (fun T Q Qc L hc k => V_callV (as := [_, _]) (st := []) (M' := MX13_raise) (ci := 13) (pc2 := 31) (dk D_X13_thrownInto 20 rfl) ml_13_529 mv_X13_raise rfl rfl (by decide) rfl (Nat.le_of_ble_eq_true rfl) rfl he11 L.2.1 hc k) hc12 (aRV.k fun  s13 h => ?_)
  exact A_ret (fun T Q _ k => V_return (dk D_X13_thrownInto 21 rfl) rfl k) h
theorem a_shuts_0 {X : Cx} {b d : Nat} {σ : Rm} {Q : Res → Rm → Prop} (x1 : Int32) (x2 : Int32) (h : ∃ e1 : Nat, e1 + 1 ≤ d ∧ AC X b e1 MX13_isVoice [vR b, vI x2] σ (aRI fun y4 s5 => ((y4 = 0 → A X b d MX13_shuts 17 [(0, vR b), (1, vI x1), (2, vI x2)] [] s5 Q) ∧ (¬ y4 = 0 → ∃ e7 : Nat, e7 + 1 ≤ d ∧ AC X b e7 MX13_isOver [vR b, vI x2] s5 (aRI fun y10 s11 => ((y10 = 0 → A X b d MX13_shuts 17 [(0, vR b), (1, vI x1), (2, vI x2)] [] s11 Q) ∧ (¬ y10 = 0 → Q (.inl none) s11))))))) : A X b d MX13_shuts 0 [(0, vR b), (1, vI x1), (2, vI x2)] [] σ Q := by
  refine A_p (fun T Q _ _ k => V_aload_n (pc2 := 1) (dk D_X13_shuts 0 rfl) rfl (V_lg 0 rfl) rfl k) ?_
  refine A_p (fun T Q _ _ k => V_iload_n (pc2 := 2) (dk D_X13_shuts 1 rfl) rfl (V_lg 2 rfl) rfl k) ?_
  obtain ⟨e1, he2, hc3⟩ := h
  refine A_call (st := []) (pc2 := 5) (fun T Q Qc L hc k => V_callV (as := [_]) (st := []) (M' := MX13_isVoice) (ci := 13) (pc2 := 5) (dk D_X13_shuts 2 rfl) ml_13_554 mv_X13_isVoice rfl rfl (by decide) rfl (Nat.le_of_ble_eq_true rfl) rfl he2 L.2.1 hc k) hc3 (aRI.k fun y4 s5 h => ?_)
  refine A_if (pa := 17) (pb := 8) (fun T Q k1 k2 => V_ifeq (tgt := 17) (pc2 := 8) (dk D_X13_shuts 3 rfl) (by decide) rfl (fun q => k1 q) (fun q => k2 q)) (fun q6 => ?_) (fun q6 => ?_)
  · have h := h.1 q6
    exact h
  · have h := h.2 q6
    refine A_p (fun T Q _ _ k => V_aload_n (pc2 := 9) (dk D_X13_shuts 4 rfl) rfl (V_lg 0 rfl) rfl k) ?_
    refine A_p (fun T Q _ _ k => V_iload_n (pc2 := 10) (dk D_X13_shuts 5 rfl) rfl (V_lg 2 rfl) rfl k) ?_
    obtain ⟨e7, he8, hc9⟩ := h
    refine A_call (st := []) (pc2 := 13) (fun T Q Qc L hc k => V_callV (as := [_]) (st := []) (M' := MX13_isOver) (ci := 13) (pc2 := 13) (dk D_X13_shuts 6 rfl) ml_13_510 mv_X13_isOver rfl rfl (by decide) rfl (Nat.le_of_ble_eq_true rfl) rfl he8 L.2.1 hc k) hc9 (aRI.k fun y10 s11 h => ?_)
    refine A_if (pa := 17) (pb := 16) (fun T Q k1 k2 => V_ifeq (tgt := 17) (pc2 := 16) (dk D_X13_shuts 7 rfl) (by decide) rfl (fun q => k1 q) (fun q => k2 q)) (fun q12 => ?_) (fun q12 => ?_)
    · have h := h.1 q12
      exact h
    · have h := h.2 q12
      exact A_ret (fun T Q _ k => V_return (dk D_X13_shuts 8 rfl) rfl k) h
theorem a_shuts_17 {X : Cx} {b d : Nat} {σ : Rm} {Q : Res → Rm → Prop} (x1 : Int32) (x2 : Int32) (h : ∃ e1 : Nat, e1 + 1 ≤ d ∧ AC X b e1 MX13_isMisuse [vR b, vI x1, vI x2] σ (aRI fun y4 s5 => ((y4 = 0 → (vp_in x2 61) ∧ (((aI s5 49 (x2 : Int32).toNatClampNeg) = 0 → ∃ e9 : Nat, e9 + 1 ≤ d ∧ AC X b e9 MX13_over [vR b, vI x2, vI 6] s5 (aRV fun  s12 => Q (.inl none) s12)) ∧ (¬ (aI s5 49 (x2 : Int32).toNatClampNeg) = 0 → (vp_in x1 61) ∧ ∀ s14 : Rm, s14 = wI s5 49 ((x1 : Int32).toNatClampNeg) 3 → (vp_in x1 61) ∧ ∀ s16 : Rm, s16 = wI s14 56 ((x1 : Int32).toNatClampNeg) 3 → (vp_in x2 61) ∧ ∀ s18 : Rm, s18 = wI s16 57 ((x2 : Int32).toNatClampNeg) 1 → ∃ e19 : Nat, e19 + 1 ≤ d ∧ AC X b e19 MX13_placeOf [vR b, vI x1] s18 (aRI fun y22 s23 => ∃ e24 : Nat, e24 + 1 ≤ d ∧ AC X b e24 MX13_failure [vR b, vI 14, vI 0, vI x1, vI y22, vI (-9)] s23 (aRI fun y27 s28 => ∃ e29 : Nat, e29 + 1 ≤ d ∧ AC X b e29 MX13_thrownInto [vR b, vI x1, vI x2, vI y27] s28 (aRV fun  s32 => Q (.inl none) s32)))))) ∧ (¬ y4 = 0 → ∃ e33 : Nat, e33 + 1 ≤ d ∧ AC X b e33 MX13_arises [vR b, vI x1, vI 10] s5 (aRV fun  s36 => Q (.inl none) s36))))) : A X b d MX13_shuts 17 [(0, vR b), (1, vI x1), (2, vI x2)] [] σ Q := by
  refine A_p (fun T Q _ _ k => V_aload_n (pc2 := 18) (dk D_X13_shuts 9 rfl) rfl (V_lg 0 rfl) rfl k) ?_
  refine A_p (fun T Q _ _ k => V_iload_n (pc2 := 19) (dk D_X13_shuts 10 rfl) rfl (V_lg 1 rfl) rfl k) ?_
  refine A_p (fun T Q _ _ k => V_iload_n (pc2 := 20) (dk D_X13_shuts 11 rfl) rfl (V_lg 2 rfl) rfl k) ?_
  obtain ⟨e1, he2, hc3⟩ := h
  refine A_call (st := []) (pc2 := 23) (fun T Q Qc L hc k => V_callV (as := [_, _]) (st := []) (M' := MX13_isMisuse) (ci := 13) (pc2 := 23) (dk D_X13_shuts 12 rfl) ml_13_563 mv_X13_isMisuse rfl rfl (by decide) rfl (Nat.le_of_ble_eq_true rfl) rfl he2 L.2.1 hc k) hc3 (aRI.k fun y4 s5 h => ?_)
  refine A_if (pa := 34) (pb := 26) (fun T Q k1 k2 => V_ifeq (tgt := 34) (pc2 := 26) (dk D_X13_shuts 13 rfl) (by decide) rfl (fun q => k1 q) (fun q => k2 q)) (fun q6 => ?_) (fun q6 => ?_)
  · have h := h.1 q6
    refine A_p (fun T Q _ _ k => V_aload_n (pc2 := 35) (dk D_X13_shuts 19 rfl) rfl (V_lg 0 rfl) rfl k) ?_
    refine A_ar (pc2 := 38) (a := 33) 49 (dk D_X13_shuts 20 rfl) fl_13_161 (by decide) (by decide) rfl (fun _ => rfl) rfl ?_
    refine A_p (fun T Q _ _ k => V_iload_n (pc2 := 39) (dk D_X13_shuts 21 rfl) rfl (V_lg 2 rfl) rfl k) ?_
    obtain ⟨h7, h⟩ := h
    refine A_ild (pc2 := 40) 49 (dk D_X13_shuts 22 rfl) rfl (by decide) rfl (by decide) rfl rfl h7 ?_
    refine A_if (pa := 43) (pb := 51) (fun T Q k1 k2 => V_ifne (tgt := 51) (pc2 := 43) (dk D_X13_shuts 23 rfl) (by decide) rfl (fun q => k2 q) (fun q => k1 q)) (fun q8 => ?_) (fun q8 => ?_)
    · have h := h.1 q8
      refine A_p (fun T Q _ _ k => V_aload_n (pc2 := 44) (dk D_X13_shuts 24 rfl) rfl (V_lg 0 rfl) rfl k) ?_
      refine A_p (fun T Q _ _ k => V_iload_n (pc2 := 45) (dk D_X13_shuts 25 rfl) rfl (V_lg 2 rfl) rfl k) ?_
      refine A_p (fun T Q _ _ k => V_bipush (x := 6) (pc2 := 47) (dk D_X13_shuts 26 rfl) (by decide) rfl k) ?_
      obtain ⟨e9, he10, hc11⟩ := h
      refine A_call (st := []) (pc2 := 50) (fun T Q Qc L hc k => V_callV (as := [_, _]) (st := []) (M' := MX13_over) (ci := 13) (pc2 := 50) (dk D_X13_shuts 27 rfl) ml_13_513 mv_X13_over rfl rfl (by decide) rfl (Nat.le_of_ble_eq_true rfl) rfl he10 L.2.1 hc k) hc11 (aRV.k fun  s12 h => ?_)
      exact A_ret (fun T Q _ k => V_return (dk D_X13_shuts 28 rfl) rfl k) h
    · have h := h.2 q8
      refine A_p (fun T Q _ _ k => V_aload_n (pc2 := 52) (dk D_X13_shuts 29 rfl) rfl (V_lg 0 rfl) rfl k) ?_
      refine A_ar (pc2 := 55) (a := 33) 49 (dk D_X13_shuts 30 rfl) fl_13_161 (by decide) (by decide) rfl (fun _ => rfl) rfl ?_
      refine A_p (fun T Q _ _ k => V_iload_n (pc2 := 56) (dk D_X13_shuts 31 rfl) rfl (V_lg 1 rfl) rfl k) ?_
      refine A_p (fun T Q _ _ k => V_iconst (x := 3) (pc2 := 57) (dk D_X13_shuts 32 rfl) (by decide) rfl k) ?_
      obtain ⟨h13, h⟩ := h
      refine A_ist (pc2 := 58) 49 (dk D_X13_shuts 33 rfl) rfl (by decide) rfl (by decide) rfl rfl h13 ?_
      have h := h _ rfl
      refine A_p (fun T Q _ _ k => V_aload_n (pc2 := 59) (dk D_X13_shuts 34 rfl) rfl (V_lg 0 rfl) rfl k) ?_
      refine A_ar (pc2 := 62) (a := 40) 56 (dk D_X13_shuts 35 rfl) fl_13_182 (by decide) (by decide) rfl (fun _ => rfl) rfl ?_
      refine A_p (fun T Q _ _ k => V_iload_n (pc2 := 63) (dk D_X13_shuts 36 rfl) rfl (V_lg 1 rfl) rfl k) ?_
      refine A_p (fun T Q _ _ k => V_iconst (x := 3) (pc2 := 64) (dk D_X13_shuts 37 rfl) (by decide) rfl k) ?_
      obtain ⟨h15, h⟩ := h
      refine A_ist (pc2 := 65) 56 (dk D_X13_shuts 38 rfl) rfl (by decide) rfl (by decide) rfl rfl h15 ?_
      have h := h _ rfl
      refine A_p (fun T Q _ _ k => V_aload_n (pc2 := 66) (dk D_X13_shuts 39 rfl) rfl (V_lg 0 rfl) rfl k) ?_
      refine A_ar (pc2 := 69) (a := 41) 57 (dk D_X13_shuts 40 rfl) fl_13_185 (by decide) (by decide) rfl (fun _ => rfl) rfl ?_
      refine A_p (fun T Q _ _ k => V_iload_n (pc2 := 70) (dk D_X13_shuts 41 rfl) rfl (V_lg 2 rfl) rfl k) ?_
      refine A_p (fun T Q _ _ k => V_iconst (x := 1) (pc2 := 71) (dk D_X13_shuts 42 rfl) (by decide) rfl k) ?_
      obtain ⟨h17, h⟩ := h
      refine A_zst (pc2 := 72) 57 (dk D_X13_shuts 43 rfl) rfl (by decide) rfl (by decide) rfl rfl h17 (Or.inr rfl) ?_
      have h := h _ rfl
      refine A_p (fun T Q _ _ k => V_aload_n (pc2 := 73) (dk D_X13_shuts 44 rfl) rfl (V_lg 0 rfl) rfl k) ?_
      refine A_p (fun T Q _ _ k => V_iload_n (pc2 := 74) (dk D_X13_shuts 45 rfl) rfl (V_lg 1 rfl) rfl k) ?_
      refine A_p (fun T Q _ _ k => V_iload_n (pc2 := 75) (dk D_X13_shuts 46 rfl) rfl (V_lg 2 rfl) rfl k) ?_
      refine A_p (fun T Q _ _ k => V_aload_n (pc2 := 76) (dk D_X13_shuts 47 rfl) rfl (V_lg 0 rfl) rfl k) ?_
      refine A_p (fun T Q _ _ k => V_bipush (x := 14) (pc2 := 78) (dk D_X13_shuts 48 rfl) (by decide) rfl k) ?_
      refine A_p (fun T Q _ _ k => V_iconst (x := 0) (pc2 := 79) (dk D_X13_shuts 49 rfl) (by decide) rfl k) ?_
      refine A_p (fun T Q _ _ k => V_iload_n (pc2 := 80) (dk D_X13_shuts 50 rfl) rfl (V_lg 1 rfl) rfl k) ?_
      refine A_p (fun T Q _ _ k => V_aload_n (pc2 := 81) (dk D_X13_shuts 51 rfl) rfl (V_lg 0 rfl) rfl k) ?_
      refine A_p (fun T Q _ _ k => V_iload_n (pc2 := 82) (dk D_X13_shuts 52 rfl) rfl (V_lg 1 rfl) rfl k) ?_
      obtain ⟨e19, he20, hc21⟩ := h
      refine A_call (st := [_, _, _, _, _, _, _]) (pc2 := 85) (fun T Q Qc L hc k => V_callV (as := [_]) (st := [_, _, _, _, _, _, _]) (M' := MX13_placeOf) (ci := 13) (pc2 := 85) (dk D_X13_shuts 53 rfl) ml_13_522 mv_X13_placeOf rfl rfl (by decide) rfl (Nat.le_of_ble_eq_true rfl) rfl he20 L.2.1 hc k) hc21 (aRI.k fun y22 s23 h => ?_)
      refine A_p (fun T Q _ _ k => V_bipush (x := (-9)) (pc2 := 87) (dk D_X13_shuts 54 rfl) (by decide) rfl k) ?_
      obtain ⟨e24, he25, hc26⟩ := h
      refine A_call (st := [_, _, _]) (pc2 := 90) (fun T Q Qc L hc k => V_callV (as := [_, _, _, _, _]) (st := [_, _, _]) (M' := MX13_failure) (ci := 13) (pc2 := 90) (dk D_X13_shuts 55 rfl) ml_13_525 mv_X13_failure rfl rfl (by decide) rfl (Nat.le_of_ble_eq_true rfl) rfl he25 L.2.1 hc k) hc26 (aRI.k fun y27 s28 h => ?_)
      obtain ⟨e29, he30, hc31⟩ := h
      refine A_call (st := []) (pc2 := 93) (fun T Q Qc L hc k => V_callV (as := [_, _, _]) (st := []) (M' := MX13_thrownInto) (ci := 13) (pc2 := 93) (dk D_X13_shuts 56 rfl) ml_13_573 mv_X13_thrownInto rfl rfl (by decide) rfl (Nat.le_of_ble_eq_true rfl) rfl he30 L.2.1 hc k) hc31 (aRV.k fun  s32 h => ?_)
      exact A_ret (fun T Q _ k => V_return (dk D_X13_shuts 57 rfl) rfl k) h
  · have h := h.2 q6
    refine A_p (fun T Q _ _ k => V_aload_n (pc2 := 27) (dk D_X13_shuts 14 rfl) rfl (V_lg 0 rfl) rfl k) ?_
    refine A_p (fun T Q _ _ k => V_iload_n (pc2 := 28) (dk D_X13_shuts 15 rfl) rfl (V_lg 1 rfl) rfl k) ?_
    refine A_p (fun T Q _ _ k => V_bipush (x := 10) (pc2 := 30) (dk D_X13_shuts 16 rfl) (by decide) rfl k) ?_
    obtain ⟨e33, he34, hc35⟩ := h
    refine A_call (st := []) (pc2 := 33) (fun T Q Qc L hc k => V_callV (as := [_, _]) (st := []) (M' := MX13_arises) (ci := 13) (pc2 := 33) (dk D_X13_shuts 17 rfl) ml_13_567 mv_X13_arises rfl rfl (by decide) rfl (Nat.le_of_ble_eq_true rfl) rfl he34 L.2.1 hc k) hc35 (aRV.k fun  s36 h => ?_)
    exact A_ret (fun T Q _ k => V_return (dk D_X13_shuts 18 rfl) rfl k) h
theorem a_reckon_0 {X : Cx} {b d : Nat} {σ : Rm} {Q : Res → Rm → Prop} (x1 : Int32) (x2 : Int32) (x3 : Int32) (h : ((x1 = 4 → Q (.inl (some (vI (x2 + x3)))) σ) ∧ (x1 = 5 → Q (.inl (some (vI (x2 - x3)))) σ) ∧ (x1 = 6 → Q (.inl (some (vI (x2 * x3)))) σ) ∧ (x1 = 7 → (¬ (x3 : Int32) = 0) ∧ Q (.inl (some (vI (x2 / x3)))) σ) ∧ (x1 = 8 → (¬ (x3 : Int32) = 0) ∧ Q (.inl (some (vI (x2 - x2 / x3 * x3)))) σ) ∧ (x1 = 9 → ((x3 ≤ x2 → A X b d MX13_reckon 70 [(0, vR b), (1, vI x1), (2, vI x2), (3, vI x3)] [vI 0] σ Q) ∧ (¬ x3 ≤ x2 → A X b d MX13_reckon 70 [(0, vR b), (1, vI x1), (2, vI x2), (3, vI x3)] [vI 1] σ Q))) ∧ (¬ (x1 = 4 ∨ x1 = 5 ∨ x1 = 6 ∨ x1 = 7 ∨ x1 = 8 ∨ x1 = 9) → ((x2 = x3 → A X b d MX13_reckon 81 [(0, vR b), (1, vI x1), (2, vI x2), (3, vI x3)] [vI 1] σ Q) ∧ (¬ x2 = x3 → A X b d MX13_reckon 81 [(0, vR b), (1, vI x1), (2, vI x2), (3, vI x3)] [vI 0] σ Q))))) : A X b d MX13_reckon 0 [(0, vR b), (1, vI x1), (2, vI x2), (3, vI x3)] [] σ Q := by
  refine A_p (fun T Q _ _ k => V_iload_n (pc2 := 1) (dk D_X13_reckon 0 rfl) rfl (V_lg 1 rfl) rfl k) ?_
  refine A_table (dk D_X13_reckon 1 rfl) [40, 44, 48, 52, 56, 60] 71 (by decide) (by decide) rfl (by decide) (fun q1 => ?_) (fun j2 hj q1 => ?_)
  · have h := h.2.2.2.2.2.2 (by rintro (hk | hk | hk | hk | hk | hk) <;> (rw [hk] at q1; revert q1; decide))
    refine A_p (fun T Q _ _ k => V_iload_n (pc2 := 72) (dk D_X13_reckon 29 rfl) rfl (V_lg 2 rfl) rfl k) ?_
    refine A_p (fun T Q _ _ k => V_iload_n (pc2 := 73) (dk D_X13_reckon 30 rfl) rfl (V_lg 3 rfl) rfl k) ?_
    refine A_if (pa := 76) (pb := 80) (fun T Q k1 k2 => V_cmpne (tgt := 80) (pc2 := 76) (dk D_X13_reckon 31 rfl) (by decide) rfl (fun q => k2 q) (fun q => k1 q)) (fun q4 => ?_) (fun q4 => ?_)
    · have h := h.1 q4
      refine A_p (fun T Q _ _ k => V_iconst (x := 1) (pc2 := 77) (dk D_X13_reckon 32 rfl) (by decide) rfl k) ?_
      refine A_p (fun T Q _ _ k => V_goto (tgt := 81) (dk D_X13_reckon 33 rfl) (by decide) k) ?_
      exact h
    · have h := h.2 q4
      refine A_p (fun T Q _ _ k => V_iconst (x := 0) (pc2 := 81) (dk D_X13_reckon 34 rfl) (by decide) rfl k) ?_
      exact h
  · have hj2 : j2 = 0 ∨ j2 = 1 ∨ j2 = 2 ∨ j2 = 3 ∨ j2 = 4 ∨ j2 = 5 := by simp at hj; omega
    clear hj
    rcases hj2 with rfl | rfl | rfl | rfl | rfl | rfl
    · have hx : x1 = 4 := Int32.toInt_inj.mp (by rw [q1]; decide)
      have h := h.1 hx
      refine A_p (fun T Q _ _ k => V_iload_n (pc2 := 41) (dk D_X13_reckon 2 rfl) rfl (V_lg 2 rfl) rfl k) ?_
      refine A_p (fun T Q _ _ k => V_iload_n (pc2 := 42) (dk D_X13_reckon 3 rfl) rfl (V_lg 3 rfl) rfl k) ?_
      refine A_p (fun T Q _ _ k => V_iadd (pc2 := 43) (dk D_X13_reckon 4 rfl) rfl k) ?_
      exact A_ret (fun T Q _ k => V_ireturn (dk D_X13_reckon 5 rfl) rfl k) h
    · have hx : x1 = 5 := Int32.toInt_inj.mp (by rw [q1]; decide)
      have h := h.2.1 hx
      refine A_p (fun T Q _ _ k => V_iload_n (pc2 := 45) (dk D_X13_reckon 6 rfl) rfl (V_lg 2 rfl) rfl k) ?_
      refine A_p (fun T Q _ _ k => V_iload_n (pc2 := 46) (dk D_X13_reckon 7 rfl) rfl (V_lg 3 rfl) rfl k) ?_
      refine A_p (fun T Q _ _ k => V_isub (pc2 := 47) (dk D_X13_reckon 8 rfl) rfl k) ?_
      exact A_ret (fun T Q _ k => V_ireturn (dk D_X13_reckon 9 rfl) rfl k) h
    · have hx : x1 = 6 := Int32.toInt_inj.mp (by rw [q1]; decide)
      have h := h.2.2.1 hx
      refine A_p (fun T Q _ _ k => V_iload_n (pc2 := 49) (dk D_X13_reckon 10 rfl) rfl (V_lg 2 rfl) rfl k) ?_
      refine A_p (fun T Q _ _ k => V_iload_n (pc2 := 50) (dk D_X13_reckon 11 rfl) rfl (V_lg 3 rfl) rfl k) ?_
      refine A_p (fun T Q _ _ k => V_imul (pc2 := 51) (dk D_X13_reckon 12 rfl) rfl k) ?_
      exact A_ret (fun T Q _ k => V_ireturn (dk D_X13_reckon 13 rfl) rfl k) h
    · have hx : x1 = 7 := Int32.toInt_inj.mp (by rw [q1]; decide)
      have h := h.2.2.2.1 hx
      refine A_p (fun T Q _ _ k => V_iload_n (pc2 := 53) (dk D_X13_reckon 14 rfl) rfl (V_lg 2 rfl) rfl k) ?_
      refine A_p (fun T Q _ _ k => V_iload_n (pc2 := 54) (dk D_X13_reckon 15 rfl) rfl (V_lg 3 rfl) rfl k) ?_
      obtain ⟨h5, h⟩ := h
      refine A_p (fun T Q _ _ k => V_idiv (pc2 := 55) (dk D_X13_reckon 16 rfl) rfl h5 k) ?_
      exact A_ret (fun T Q _ k => V_ireturn (dk D_X13_reckon 17 rfl) rfl k) h
    · have hx : x1 = 8 := Int32.toInt_inj.mp (by rw [q1]; decide)
      have h := h.2.2.2.2.1 hx
      refine A_p (fun T Q _ _ k => V_iload_n (pc2 := 57) (dk D_X13_reckon 18 rfl) rfl (V_lg 2 rfl) rfl k) ?_
      refine A_p (fun T Q _ _ k => V_iload_n (pc2 := 58) (dk D_X13_reckon 19 rfl) rfl (V_lg 3 rfl) rfl k) ?_
      obtain ⟨h6, h⟩ := h
      refine A_p (fun T Q _ _ k => V_irem (pc2 := 59) (dk D_X13_reckon 20 rfl) rfl h6 k) ?_
      exact A_ret (fun T Q _ k => V_ireturn (dk D_X13_reckon 21 rfl) rfl k) h
    · have hx : x1 = 9 := Int32.toInt_inj.mp (by rw [q1]; decide)
      have h := h.2.2.2.2.2.1 hx
      refine A_p (fun T Q _ _ k => V_iload_n (pc2 := 61) (dk D_X13_reckon 22 rfl) rfl (V_lg 2 rfl) rfl k) ?_
      refine A_p (fun T Q _ _ k => V_iload_n (pc2 := 62) (dk D_X13_reckon 23 rfl) rfl (V_lg 3 rfl) rfl k) ?_
      refine A_if (pa := 69) (pb := 65) (fun T Q k1 k2 => V_cmpge (tgt := 69) (pc2 := 65) (dk D_X13_reckon 24 rfl) (by decide) rfl (fun q => k1 q) (fun q => k2 q)) (fun q7 => ?_) (fun q7 => ?_)
      · have h := h.1 q7
        refine A_p (fun T Q _ _ k => V_iconst (x := 0) (pc2 := 70) (dk D_X13_reckon 27 rfl) (by decide) rfl k) ?_
        exact h
      · have h := h.2 q7
        refine A_p (fun T Q _ _ k => V_iconst (x := 1) (pc2 := 66) (dk D_X13_reckon 25 rfl) (by decide) rfl k) ?_
        refine A_p (fun T Q _ _ k => V_goto (tgt := 70) (dk D_X13_reckon 26 rfl) (by decide) k) ?_
        exact h
theorem a_reckon_70 {X : Cx} {b d : Nat} {σ : Rm} {Q : Res → Rm → Prop} (x1 : Int32) (x2 : Int32) (x3 : Int32) (t0 : Int32) (h : Q (.inl (some (vI t0))) σ) : A X b d MX13_reckon 70 [(0, vR b), (1, vI x1), (2, vI x2), (3, vI x3)] [vI t0] σ Q := by
  exact A_ret (fun T Q _ k => V_ireturn (dk D_X13_reckon 28 rfl) rfl k) h
theorem a_reckon_81 {X : Cx} {b d : Nat} {σ : Rm} {Q : Res → Rm → Prop} (x1 : Int32) (x2 : Int32) (x3 : Int32) (t0 : Int32) (h : Q (.inl (some (vI t0))) σ) : A X b d MX13_reckon 81 [(0, vR b), (1, vI x1), (2, vI x2), (3, vI x3)] [vI t0] σ Q := by
  exact A_ret (fun T Q _ k => V_ireturn (dk D_X13_reckon 35 rfl) rfl k) h
set_option maxRecDepth 100000 in
theorem a_goesOn_0 {X : Cx} {b d : Nat} {σ : Rm} {Q : Res → Rm → Prop}  (h : ∃ e1 : Nat, e1 + 1 ≤ d ∧ AC X b e1 MX13_call [vR b, vI (sI σ 77)] σ (aRI fun y4 s5 => (vp_in y4 720) ∧ (vp_in (aI s5 62 (y4 : Int32).toNatClampNeg) 12000) ∧ (vp_in (aI s5 62 (y4 : Int32).toNatClampNeg) 12000) ∧ (vp_in y4 720) ∧ (vp_in y4 720) ∧ ∀ s11 : Rm, s11 = wI s5 62 ((y4 : Int32).toNatClampNeg) ((aI s5 62 (y4 : Int32).toNatClampNeg) + 1) → (vp_in (aI s5 62 (y4 : Int32).toNatClampNeg) 12000) ∧ (((aI s11 13 ((aI s5 62 (y4 : Int32).toNatClampNeg) : Int32).toNatClampNeg) < 4 → A X b d MX13_goesOn 124 [(0, vR b), (1, vI (sI σ 77)), (2, vI y4), (3, vI (aI s5 62 (y4 : Int32).toNatClampNeg)), (4, vI (aI s5 14 ((aI s5 62 (y4 : Int32).toNatClampNeg) : Int32).toNatClampNeg)), (5, vI (aI s5 15 ((aI s5 62 (y4 : Int32).toNatClampNeg) : Int32).toNatClampNeg)), (6, vI (aI s11 13 ((aI s5 62 (y4 : Int32).toNatClampNeg) : Int32).toNatClampNeg))] [] s11 Q) ∧ (¬ (aI s11 13 ((aI s5 62 (y4 : Int32).toNatClampNeg) : Int32).toNatClampNeg) < 4 → ((10 < (aI s11 13 ((aI s5 62 (y4 : Int32).toNatClampNeg) : Int32).toNatClampNeg) → A X b d MX13_goesOn 124 [(0, vR b), (1, vI (sI σ 77)), (2, vI y4), (3, vI (aI s5 62 (y4 : Int32).toNatClampNeg)), (4, vI (aI s5 14 ((aI s5 62 (y4 : Int32).toNatClampNeg) : Int32).toNatClampNeg)), (5, vI (aI s5 15 ((aI s5 62 (y4 : Int32).toNatClampNeg) : Int32).toNatClampNeg)), (6, vI (aI s11 13 ((aI s5 62 (y4 : Int32).toNatClampNeg) : Int32).toNatClampNeg))] [] s11 Q) ∧ (¬ 10 < (aI s11 13 ((aI s5 62 (y4 : Int32).toNatClampNeg) : Int32).toNatClampNeg) → ∃ e15 : Nat, e15 + 1 ≤ d ∧ AC X b e15 MX13_pop [vR b, vI (sI σ 77)] s11 (aRI fun y18 s19 => ∃ e20 : Nat, e20 + 1 ≤ d ∧ AC X b e20 MX13_pop [vR b, vI (sI σ 77)] s19 (aRI fun y23 s24 => (((aI s11 13 ((aI s5 62 (y4 : Int32).toNatClampNeg) : Int32).toNatClampNeg) = 7 → A X b d MX13_goesOn 93 [(0, vR b), (1, vI (sI σ 77)), (2, vI y4), (3, vI (aI s5 62 (y4 : Int32).toNatClampNeg)), (4, vI (aI s5 14 ((aI s5 62 (y4 : Int32).toNatClampNeg) : Int32).toNatClampNeg)), (5, vI (aI s5 15 ((aI s5 62 (y4 : Int32).toNatClampNeg) : Int32).toNatClampNeg)), (6, vI (aI s11 13 ((aI s5 62 (y4 : Int32).toNatClampNeg) : Int32).toNatClampNeg)), (7, vI y18), (8, vI y23)] [] s24 Q) ∧ (¬ (aI s11 13 ((aI s5 62 (y4 : Int32).toNatClampNeg) : Int32).toNatClampNeg) = 7 → (((aI s11 13 ((aI s5 62 (y4 : Int32).toNatClampNeg) : Int32).toNatClampNeg) = 8 → A X b d MX13_goesOn 93 [(0, vR b), (1, vI (sI σ 77)), (2, vI y4), (3, vI (aI s5 62 (y4 : Int32).toNatClampNeg)), (4, vI (aI s5 14 ((aI s5 62 (y4 : Int32).toNatClampNeg) : Int32).toNatClampNeg)), (5, vI (aI s5 15 ((aI s5 62 (y4 : Int32).toNatClampNeg) : Int32).toNatClampNeg)), (6, vI (aI s11 13 ((aI s5 62 (y4 : Int32).toNatClampNeg) : Int32).toNatClampNeg)), (7, vI y18), (8, vI y23)] [] s24 Q) ∧ (¬ (aI s11 13 ((aI s5 62 (y4 : Int32).toNatClampNeg) : Int32).toNatClampNeg) = 8 → A X b d MX13_goesOn 108 [(0, vR b), (1, vI (sI σ 77)), (2, vI y4), (3, vI (aI s5 62 (y4 : Int32).toNatClampNeg)), (4, vI (aI s5 14 ((aI s5 62 (y4 : Int32).toNatClampNeg) : Int32).toNatClampNeg)), (5, vI (aI s5 15 ((aI s5 62 (y4 : Int32).toNatClampNeg) : Int32).toNatClampNeg)), (6, vI (aI s11 13 ((aI s5 62 (y4 : Int32).toNatClampNeg) : Int32).toNatClampNeg)), (7, vI y18), (8, vI y23)] [] s24 Q)))))))))))) : A X b d MX13_goesOn 0 [(0, vR b)] [] σ Q := by
  refine A_p (fun T Q _ _ k => V_aload_n (pc2 := 1) (dk D_X13_goesOn 0 rfl) rfl (V_lg 0 rfl) rfl k) ?_
  refine A_sc (pc2 := 4) 77 (dk D_X13_goesOn 1 rfl) fl_13_473 (by decide) rfl (fun _ => rfl) rfl ?_
  refine A_p (fun T Q _ _ k => V_istore_n (pc2 := 5) (lv2 := [(0, _), (1, _)]) (dk D_X13_goesOn 2 rfl) rfl (by decide) rfl rfl k) ?_
  refine A_p (fun T Q _ _ k => V_aload_n (pc2 := 6) (dk D_X13_goesOn 3 rfl) rfl (V_lg 0 rfl) rfl k) ?_
  refine A_p (fun T Q _ _ k => V_iload_n (pc2 := 7) (dk D_X13_goesOn 4 rfl) rfl (V_lg 1 rfl) rfl k) ?_
  obtain ⟨e1, he2, hc3⟩ := h
  refine A_call (st := []) (pc2 := 10) (fun T Q Qc L hc k => V_callV (as := [_]) (st := []) (M' := MX13_call) (ci := 13) (pc2 := 10) (dk D_X13_goesOn 5 rfl) ml_13_504 mv_X13_call rfl rfl (by decide) rfl (Nat.le_of_ble_eq_true rfl) rfl he2 L.2.1 hc k) hc3 (aRI.k fun y4 s5 h => ?_)
  refine A_p (fun T Q _ _ k => V_istore_n (pc2 := 11) (lv2 := [(0, _), (1, _), (2, _)]) (dk D_X13_goesOn 6 rfl) rfl (by decide) rfl rfl k) ?_
  refine A_p (fun T Q _ _ k => V_aload_n (pc2 := 12) (dk D_X13_goesOn 7 rfl) rfl (V_lg 0 rfl) rfl k) ?_
  refine A_ar (pc2 := 15) (a := 46) 62 (dk D_X13_goesOn 8 rfl) fl_13_201 (by decide) (by decide) rfl (fun _ => rfl) rfl ?_
  refine A_p (fun T Q _ _ k => V_iload_n (pc2 := 16) (dk D_X13_goesOn 9 rfl) rfl (V_lg 2 rfl) rfl k) ?_
  obtain ⟨h6, h⟩ := h
  refine A_ild (pc2 := 17) 62 (dk D_X13_goesOn 10 rfl) rfl (by decide) rfl (by decide) rfl rfl h6 ?_
  refine A_p (fun T Q _ _ k => V_istore_n (pc2 := 18) (lv2 := [(0, _), (1, _), (2, _), (3, _)]) (dk D_X13_goesOn 11 rfl) rfl (by decide) rfl rfl k) ?_
  refine A_p (fun T Q _ _ k => V_aload_n (pc2 := 19) (dk D_X13_goesOn 12 rfl) rfl (V_lg 0 rfl) rfl k) ?_
  refine A_ar (pc2 := 22) (a := 11) 14 (dk D_X13_goesOn 13 rfl) fl_13_95 (by decide) (by decide) rfl (fun _ => rfl) rfl ?_
  refine A_p (fun T Q _ _ k => V_iload_n (pc2 := 23) (dk D_X13_goesOn 14 rfl) rfl (V_lg 3 rfl) rfl k) ?_
  obtain ⟨h7, h⟩ := h
  refine A_ild (pc2 := 24) 14 (dk D_X13_goesOn 15 rfl) rfl (by decide) rfl (by decide) rfl rfl h7 ?_
  refine A_p (fun T Q _ _ k => V_istore (pc2 := 26) (lv2 := [(0, _), (1, _), (2, _), (3, _), (4, _)]) (dk D_X13_goesOn 16 rfl) (by decide) rfl rfl k) ?_
  refine A_p (fun T Q _ _ k => V_aload_n (pc2 := 27) (dk D_X13_goesOn 17 rfl) rfl (V_lg 0 rfl) rfl k) ?_
  refine A_ar (pc2 := 30) (a := 12) 15 (dk D_X13_goesOn 18 rfl) fl_13_98 (by decide) (by decide) rfl (fun _ => rfl) rfl ?_
  refine A_p (fun T Q _ _ k => V_iload_n (pc2 := 31) (dk D_X13_goesOn 19 rfl) rfl (V_lg 3 rfl) rfl k) ?_
  obtain ⟨h8, h⟩ := h
  refine A_ild (pc2 := 32) 15 (dk D_X13_goesOn 20 rfl) rfl (by decide) rfl (by decide) rfl rfl h8 ?_
  refine A_p (fun T Q _ _ k => V_istore (pc2 := 34) (lv2 := [(0, _), (1, _), (2, _), (3, _), (4, _), (5, _)]) (dk D_X13_goesOn 21 rfl) (by decide) rfl rfl k) ?_
  refine A_p (fun T Q _ _ k => V_aload_n (pc2 := 35) (dk D_X13_goesOn 22 rfl) rfl (V_lg 0 rfl) rfl k) ?_
  refine A_ar (pc2 := 38) (a := 46) 62 (dk D_X13_goesOn 23 rfl) fl_13_201 (by decide) (by decide) rfl (fun _ => rfl) rfl ?_
  refine A_p (fun T Q _ _ k => V_iload_n (pc2 := 39) (dk D_X13_goesOn 24 rfl) rfl (V_lg 2 rfl) rfl k) ?_
  refine A_p (fun T Q _ _ k => V_dup2 (pc2 := 40) (dk D_X13_goesOn 25 rfl) rfl rfl rfl k) ?_
  obtain ⟨h9, h⟩ := h
  refine A_ild (pc2 := 41) 62 (dk D_X13_goesOn 26 rfl) rfl (by decide) rfl (by decide) rfl rfl h9 ?_
  refine A_p (fun T Q _ _ k => V_iconst (x := 1) (pc2 := 42) (dk D_X13_goesOn 27 rfl) (by decide) rfl k) ?_
  refine A_p (fun T Q _ _ k => V_iadd (pc2 := 43) (dk D_X13_goesOn 28 rfl) rfl k) ?_
  obtain ⟨h10, h⟩ := h
  refine A_ist (pc2 := 44) 62 (dk D_X13_goesOn 29 rfl) rfl (by decide) rfl (by decide) rfl rfl h10 ?_
  have h := h _ rfl
  refine A_p (fun T Q _ _ k => V_aload_n (pc2 := 45) (dk D_X13_goesOn 30 rfl) rfl (V_lg 0 rfl) rfl k) ?_
  refine A_ar (pc2 := 48) (a := 10) 13 (dk D_X13_goesOn 31 rfl) fl_13_92 (by decide) (by decide) rfl (fun _ => rfl) rfl ?_
  refine A_p (fun T Q _ _ k => V_iload_n (pc2 := 49) (dk D_X13_goesOn 32 rfl) rfl (V_lg 3 rfl) rfl k) ?_
  obtain ⟨h12, h⟩ := h
  refine A_ild (pc2 := 50) 13 (dk D_X13_goesOn 33 rfl) rfl (by decide) rfl (by decide) rfl rfl h12 ?_
  refine A_p (fun T Q _ _ k => V_istore (pc2 := 52) (lv2 := [(0, _), (1, _), (2, _), (3, _), (4, _), (5, _), (6, _)]) (dk D_X13_goesOn 34 rfl) (by decide) rfl rfl k) ?_
  refine A_p (fun T Q _ _ k => V_iload (pc2 := 54) (dk D_X13_goesOn 35 rfl) (V_lg 6 rfl) rfl k) ?_
  refine A_p (fun T Q _ _ k => V_iconst (x := 4) (pc2 := 55) (dk D_X13_goesOn 36 rfl) (by decide) rfl k) ?_
  refine A_if (pa := 124) (pb := 58) (fun T Q k1 k2 => V_cmplt (tgt := 124) (pc2 := 58) (dk D_X13_goesOn 37 rfl) (by decide) rfl (fun q => k1 q) (fun q => k2 q)) (fun q13 => ?_) (fun q13 => ?_)
  · have h := h.1 q13
    exact h
  · have h := h.2 q13
    refine A_p (fun T Q _ _ k => V_iload (pc2 := 60) (dk D_X13_goesOn 38 rfl) (V_lg 6 rfl) rfl k) ?_
    refine A_p (fun T Q _ _ k => V_bipush (x := 10) (pc2 := 62) (dk D_X13_goesOn 39 rfl) (by decide) rfl k) ?_
    refine A_if (pa := 124) (pb := 65) (fun T Q k1 k2 => V_cmpgt (tgt := 124) (pc2 := 65) (dk D_X13_goesOn 40 rfl) (by decide) rfl (fun q => k1 q) (fun q => k2 q)) (fun q14 => ?_) (fun q14 => ?_)
    · have h := h.1 q14
      exact h
    · have h := h.2 q14
      refine A_p (fun T Q _ _ k => V_aload_n (pc2 := 66) (dk D_X13_goesOn 41 rfl) rfl (V_lg 0 rfl) rfl k) ?_
      refine A_p (fun T Q _ _ k => V_iload_n (pc2 := 67) (dk D_X13_goesOn 42 rfl) rfl (V_lg 1 rfl) rfl k) ?_
      obtain ⟨e15, he16, hc17⟩ := h
      refine A_call (st := []) (pc2 := 70) (fun T Q Qc L hc k => V_callV (as := [_]) (st := []) (M' := MX13_pop) (ci := 13) (pc2 := 70) (dk D_X13_goesOn 43 rfl) ml_13_494 mv_X13_pop rfl rfl (by decide) rfl (Nat.le_of_ble_eq_true rfl) rfl he16 L.2.1 hc k) hc17 (aRI.k fun y18 s19 h => ?_)
      refine A_p (fun T Q _ _ k => V_istore (pc2 := 72) (lv2 := [(0, _), (1, _), (2, _), (3, _), (4, _), (5, _), (6, _), (7, _)]) (dk D_X13_goesOn 44 rfl) (by decide) rfl rfl k) ?_
      refine A_p (fun T Q _ _ k => V_aload_n (pc2 := 73) (dk D_X13_goesOn 45 rfl) rfl (V_lg 0 rfl) rfl k) ?_
      refine A_p (fun T Q _ _ k => V_iload_n (pc2 := 74) (dk D_X13_goesOn 46 rfl) rfl (V_lg 1 rfl) rfl k) ?_
      obtain ⟨e20, he21, hc22⟩ := h
      refine A_call (st := []) (pc2 := 77) (fun T Q Qc L hc k => V_callV (as := [_]) (st := []) (M' := MX13_pop) (ci := 13) (pc2 := 77) (dk D_X13_goesOn 47 rfl) ml_13_494 mv_X13_pop rfl rfl (by decide) rfl (Nat.le_of_ble_eq_true rfl) rfl he21 L.2.1 hc k) hc22 (aRI.k fun y23 s24 h => ?_)
      refine A_p (fun T Q _ _ k => V_istore (pc2 := 79) (lv2 := [(0, _), (1, _), (2, _), (3, _), (4, _), (5, _), (6, _), (7, _), (8, _)]) (dk D_X13_goesOn 48 rfl) (by decide) rfl rfl k) ?_
      refine A_p (fun T Q _ _ k => V_iload (pc2 := 81) (dk D_X13_goesOn 49 rfl) (V_lg 6 rfl) rfl k) ?_
      refine A_p (fun T Q _ _ k => V_bipush (x := 7) (pc2 := 83) (dk D_X13_goesOn 50 rfl) (by decide) rfl k) ?_
      refine A_if (pa := 93) (pb := 86) (fun T Q k1 k2 => V_cmpeq (tgt := 93) (pc2 := 86) (dk D_X13_goesOn 51 rfl) (by decide) rfl (fun q => k1 q) (fun q => k2 q)) (fun q25 => ?_) (fun q25 => ?_)
      · have h := h.1 q25
        exact h
      · have h := h.2 q25
        refine A_p (fun T Q _ _ k => V_iload (pc2 := 88) (dk D_X13_goesOn 52 rfl) (V_lg 6 rfl) rfl k) ?_
        refine A_p (fun T Q _ _ k => V_bipush (x := 8) (pc2 := 90) (dk D_X13_goesOn 53 rfl) (by decide) rfl k) ?_
        refine A_if (pa := 93) (pb := 108) (fun T Q k1 k2 => V_cmpne (tgt := 108) (pc2 := 93) (dk D_X13_goesOn 54 rfl) (by decide) rfl (fun q => k2 q) (fun q => k1 q)) (fun q26 => ?_) (fun q26 => ?_)
        · have h := h.1 q26
          exact h
        · have h := h.2 q26
          exact h
theorem a_goesOn_93 {X : Cx} {b d : Nat} {σ : Rm} {Q : Res → Rm → Prop} (x1 : Int32) (x2 : Int32) (x3 : Int32) (x4 : Int32) (x5 : Int32) (x6 : Int32) (x7 : Int32) (x8 : Int32) (h : ((x7 = 0 → ∃ e2 : Nat, e2 + 1 ≤ d ∧ AC X b e2 MX13_arises [vR b, vI x1, vI 11] σ (aRV fun  s5 => A X b d MX13_goesOn 123 [(0, vR b), (1, vI x1), (2, vI x2), (3, vI x3), (4, vI x4), (5, vI x5), (6, vI x6), (7, vI x7), (8, vI x8)] [] s5 Q)) ∧ (¬ x7 = 0 → A X b d MX13_goesOn 108 [(0, vR b), (1, vI x1), (2, vI x2), (3, vI x3), (4, vI x4), (5, vI x5), (6, vI x6), (7, vI x7), (8, vI x8)] [] σ Q))) : A X b d MX13_goesOn 93 [(0, vR b), (1, vI x1), (2, vI x2), (3, vI x3), (4, vI x4), (5, vI x5), (6, vI x6), (7, vI x7), (8, vI x8)] [] σ Q := by
  refine A_p (fun T Q _ _ k => V_iload (pc2 := 95) (dk D_X13_goesOn 55 rfl) (V_lg 7 rfl) rfl k) ?_
  refine A_if (pa := 98) (pb := 108) (fun T Q k1 k2 => V_ifne (tgt := 108) (pc2 := 98) (dk D_X13_goesOn 56 rfl) (by decide) rfl (fun q => k2 q) (fun q => k1 q)) (fun q1 => ?_) (fun q1 => ?_)
  · have h := h.1 q1
    refine A_p (fun T Q _ _ k => V_aload_n (pc2 := 99) (dk D_X13_goesOn 57 rfl) rfl (V_lg 0 rfl) rfl k) ?_
    refine A_p (fun T Q _ _ k => V_iload_n (pc2 := 100) (dk D_X13_goesOn 58 rfl) rfl (V_lg 1 rfl) rfl k) ?_
    refine A_p (fun T Q _ _ k => V_bipush (x := 11) (pc2 := 102) (dk D_X13_goesOn 59 rfl) (by decide) rfl k) ?_
    obtain ⟨e2, he3, hc4⟩ := h
    refine A_call (st := []) (pc2 := 105) (fun T Q Qc L hc k => V_callV (as := [_, _]) (st := []) (M' := MX13_arises) (ci := 13) (pc2 := 105) (dk D_X13_goesOn 60 rfl) ml_13_567 mv_X13_arises rfl rfl (by decide) rfl (Nat.le_of_ble_eq_true rfl) rfl he3 L.2.1 hc k) hc4 (aRV.k fun  s5 h => ?_)
    refine A_p (fun T Q _ _ k => V_goto (tgt := 123) (dk D_X13_goesOn 61 rfl) (by decide) k) ?_
    exact h
  · have h := h.2 q1
    exact h
theorem a_goesOn_108 {X : Cx} {b d : Nat} {σ : Rm} {Q : Res → Rm → Prop} (x1 : Int32) (x2 : Int32) (x3 : Int32) (x4 : Int32) (x5 : Int32) (x6 : Int32) (x7 : Int32) (x8 : Int32) (h : ∃ e1 : Nat, e1 + 1 ≤ d ∧ AC X b e1 MX13_reckon [vR b, vI x6, vI x8, vI x7] σ (aRI fun y4 s5 => ∃ e6 : Nat, e6 + 1 ≤ d ∧ AC X b e6 MX13_push [vR b, vI x1, vI y4] s5 (aRV fun  s9 => A X b d MX13_goesOn 123 [(0, vR b), (1, vI x1), (2, vI x2), (3, vI x3), (4, vI x4), (5, vI x5), (6, vI x6), (7, vI x7), (8, vI x8)] [] s9 Q))) : A X b d MX13_goesOn 108 [(0, vR b), (1, vI x1), (2, vI x2), (3, vI x3), (4, vI x4), (5, vI x5), (6, vI x6), (7, vI x7), (8, vI x8)] [] σ Q := by
  refine A_p (fun T Q _ _ k => V_aload_n (pc2 := 109) (dk D_X13_goesOn 62 rfl) rfl (V_lg 0 rfl) rfl k) ?_
  refine A_p (fun T Q _ _ k => V_iload_n (pc2 := 110) (dk D_X13_goesOn 63 rfl) rfl (V_lg 1 rfl) rfl k) ?_
  refine A_p (fun T Q _ _ k => V_aload_n (pc2 := 111) (dk D_X13_goesOn 64 rfl) rfl (V_lg 0 rfl) rfl k) ?_
  refine A_p (fun T Q _ _ k => V_iload (pc2 := 113) (dk D_X13_goesOn 65 rfl) (V_lg 6 rfl) rfl k) ?_
  refine A_p (fun T Q _ _ k => V_iload (pc2 := 115) (dk D_X13_goesOn 66 rfl) (V_lg 8 rfl) rfl k) ?_
  refine A_p (fun T Q _ _ k => V_iload (pc2 := 117) (dk D_X13_goesOn 67 rfl) (V_lg 7 rfl) rfl k) ?_
  obtain ⟨e1, he2, hc3⟩ := h
  refine A_call (st := [_, _]) (pc2 := 120) (fun T Q Qc L hc k => V_callV (as := [_, _, _]) (st := [_, _]) (M' := MX13_reckon) (ci := 13) (pc2 := 120) (dk D_X13_goesOn 68 rfl) ml_13_576 mv_X13_reckon rfl rfl (by decide) rfl (Nat.le_of_ble_eq_true rfl) rfl he2 L.2.1 hc k) hc3 (aRI.k fun y4 s5 h => ?_)
  obtain ⟨e6, he7, hc8⟩ := h
  refine A_call (st := []) (pc2 := 123) (fun T Q Qc L hc k => V_callV (as := [_, _]) (st := []) (M' := MX13_push) (ci := 13) (pc2 := 123) (dk D_X13_goesOn 69 rfl) ml_13_497 mv_X13_push rfl rfl (by decide) rfl (Nat.le_of_ble_eq_true rfl) rfl he7 L.2.1 hc k) hc8 (aRV.k fun  s9 h => ?_)
  exact h
theorem a_goesOn_123 {X : Cx} {b d : Nat} {σ : Rm} {Q : Res → Rm → Prop} (x1 : Int32) (x2 : Int32) (x3 : Int32) (x4 : Int32) (x5 : Int32) (x6 : Int32) (x7 : Int32) (x8 : Int32) (h : Q (.inl none) σ) : A X b d MX13_goesOn 123 [(0, vR b), (1, vI x1), (2, vI x2), (3, vI x3), (4, vI x4), (5, vI x5), (6, vI x6), (7, vI x7), (8, vI x8)] [] σ Q := by
  exact A_ret (fun T Q _ k => V_return (dk D_X13_goesOn 70 rfl) rfl k) h
set_option maxRecDepth 100000 in
theorem a_goesOn_124 {X : Cx} {b d : Nat} {σ : Rm} {Q : Res → Rm → Prop} (x1 : Int32) (x2 : Int32) (x3 : Int32) (x4 : Int32) (x5 : Int32) (x6 : Int32) (h : ((x6 = 0 → ∃ e11 : Nat, e11 + 1 ≤ d ∧ AC X b e11 MX13_step [vR b, vI x1] σ (aRI fun y14 s15 => ((y14 = 0 → A X b d MX13_goesOn 499 [(0, vR b), (1, vI x1), (2, vI x2), (3, vI x3), (4, vI x4), (5, vI x5), (6, vI x6)] [] s15 Q) ∧ (¬ y14 = 0 → (vp_in x2 720) ∧ ∀ s18 : Rm, s18 = wI s15 63 ((x2 : Int32).toNatClampNeg) x4 → A X b d MX13_goesOn 499 [(0, vR b), (1, vI x1), (2, vI x2), (3, vI x3), (4, vI x4), (5, vI x5), (6, vI x6)] [] s18 Q)))) ∧ (x6 = 1 → ∃ e19 : Nat, e19 + 1 ≤ d ∧ AC X b e19 MX13_push [vR b, vI x1, vI x4] σ (aRV fun  s22 => A X b d MX13_goesOn 499 [(0, vR b), (1, vI x1), (2, vI x2), (3, vI x3), (4, vI x4), (5, vI x5), (6, vI x6)] [] s22 Q)) ∧ (x6 = 2 → (vp_in ((40 * x2) + x4) 28800) ∧ ∃ e24 : Nat, e24 + 1 ≤ d ∧ AC X b e24 MX13_push [vR b, vI x1, vI (aI σ 66 (((40 * x2) + x4) : Int32).toNatClampNeg)] σ (aRV fun  s27 => A X b d MX13_goesOn 499 [(0, vR b), (1, vI x1), (2, vI x2), (3, vI x3), (4, vI x4), (5, vI x5), (6, vI x6)] [] s27 Q)) ∧ (x6 = 3 → ∃ e28 : Nat, e28 + 1 ≤ d ∧ AC X b e28 MX13_pop [vR b, vI x1] σ (aRI fun y31 s32 => (vp_in ((40 * x2) + x4) 28800) ∧ ∀ s34 : Rm, s34 = wI s32 66 ((((40 * x2) + x4) : Int32).toNatClampNeg) y31 → A X b d MX13_goesOn 499 [(0, vR b), (1, vI x1), (2, vI x2), (3, vI x3), (4, vI x4), (5, vI x5), (6, vI x6)] [] s34 Q)) ∧ (x6 = 11 → ∃ e35 : Nat, e35 + 1 ≤ d ∧ AC X b e35 MX13_pop [vR b, vI x1] σ (aRI fun y38 s39 => ∃ e40 : Nat, e40 + 1 ≤ d ∧ AC X b e40 MX13_push [vR b, vI x1, vI (-y38)] s39 (aRV fun  s43 => A X b d MX13_goesOn 499 [(0, vR b), (1, vI x1), (2, vI x2), (3, vI x3), (4, vI x4), (5, vI x5), (6, vI x6)] [] s43 Q))) ∧ (x6 = 12 → ∃ e44 : Nat, e44 + 1 ≤ d ∧ AC X b e44 MX13_pop [vR b, vI x1] σ (aRI fun y47 s48 => ((y47 = 0 → A X b d MX13_goesOn 322 [(0, vR b), (1, vI x1), (2, vI x2), (3, vI x3), (4, vI x4), (5, vI x5), (6, vI x6)] [vI 1, vI x1, vR b] s48 Q) ∧ (¬ y47 = 0 → A X b d MX13_goesOn 322 [(0, vR b), (1, vI x1), (2, vI x2), (3, vI x3), (4, vI x4), (5, vI x5), (6, vI x6)] [vI 0, vI x1, vR b] s48 Q)))) ∧ (x6 = 13 → ∃ e50 : Nat, e50 + 1 ≤ d ∧ AC X b e50 MX13_push [vR b, vI x1, vI x1] σ (aRV fun  s53 => A X b d MX13_goesOn 499 [(0, vR b), (1, vI x1), (2, vI x2), (3, vI x3), (4, vI x4), (5, vI x5), (6, vI x6)] [] s53 Q)) ∧ (x6 = 14 → ∃ e54 : Nat, e54 + 1 ≤ d ∧ AC X b e54 MX13_pop [vR b, vI x1] σ (aRI fun y57 s58 => ∃ e59 : Nat, e59 + 1 ≤ d ∧ AC X b e59 MX13_isVoice [vR b, vI y57] s58 (aRI fun y62 s63 => ((y62 = 0 → A X b d MX13_goesOn 367 [(0, vR b), (1, vI x1), (2, vI x2), (3, vI x3), (4, vI x4), (5, vI x5), (6, vI x6), (7, vI y57)] [vI 9, vI x1, vR b] s63 Q) ∧ (¬ y62 = 0 → (vp_in y57 61) ∧ A X b d MX13_goesOn 367 [(0, vR b), (1, vI x1), (2, vI x2), (3, vI x3), (4, vI x4), (5, vI x5), (6, vI x6), (7, vI y57)] [vI (aI s63 49 (y57 : Int32).toNatClampNeg), vI x1, vR b] s63 Q))))) ∧ (x6 = 15 → ∃ e66 : Nat, e66 + 1 ≤ d ∧ AC X b e66 MX13_pop [vR b, vI x1] σ (aRI fun y69 s70 => ∃ e71 : Nat, e71 + 1 ≤ d ∧ AC X b e71 MX13_yields [vR b, vI x1, vI y69] s70 (aRV fun  s74 => A X b d MX13_goesOn 499 [(0, vR b), (1, vI x1), (2, vI x2), (3, vI x3), (4, vI x4), (5, vI x5), (6, vI x6)] [] s74 Q))) ∧ (x6 = 16 → ∃ e75 : Nat, e75 + 1 ≤ d ∧ AC X b e75 MX13_makes [vR b, vI x1, vI x4, vI x5] σ (aRV fun  s78 => A X b d MX13_goesOn 499 [(0, vR b), (1, vI x1), (2, vI x2), (3, vI x3), (4, vI x4), (5, vI x5), (6, vI x6)] [] s78 Q)) ∧ (x6 = 17 → ∃ e79 : Nat, e79 + 1 ≤ d ∧ AC X b e79 MX13_pop [vR b, vI x1] σ (aRI fun y82 s83 => ∃ e84 : Nat, e84 + 1 ≤ d ∧ AC X b e84 MX13_pop [vR b, vI x1] s83 (aRI fun y87 s88 => ∃ e89 : Nat, e89 + 1 ≤ d ∧ AC X b e89 MX13_resumes [vR b, vI x1, vI y87, vI y82, vI 1] s88 (aRV fun  s92 => A X b d MX13_goesOn 499 [(0, vR b), (1, vI x1), (2, vI x2), (3, vI x3), (4, vI x4), (5, vI x5), (6, vI x6)] [] s92 Q)))) ∧ (x6 = 18 → ∃ e93 : Nat, e93 + 1 ≤ d ∧ AC X b e93 MX13_pop [vR b, vI x1] σ (aRI fun y96 s97 => ∃ e98 : Nat, e98 + 1 ≤ d ∧ AC X b e98 MX13_pop [vR b, vI x1] s97 (aRI fun y101 s102 => ∃ e103 : Nat, e103 + 1 ≤ d ∧ AC X b e103 MX13_injects [vR b, vI x1, vI y101, vI x4, vI y96] s102 (aRV fun  s106 => A X b d MX13_goesOn 499 [(0, vR b), (1, vI x1), (2, vI x2), (3, vI x3), (4, vI x4), (5, vI x5), (6, vI x6)] [] s106 Q)))) ∧ (x6 = 19 → ∃ e107 : Nat, e107 + 1 ≤ d ∧ AC X b e107 MX13_pop [vR b, vI x1] σ (aRI fun y110 s111 => ∃ e112 : Nat, e112 + 1 ≤ d ∧ AC X b e112 MX13_pop [vR b, vI x1] s111 (aRI fun y115 s116 => ∃ e117 : Nat, e117 + 1 ≤ d ∧ AC X b e117 MX13_handsOn [vR b, vI x1, vI y115, vI y110] s116 (aRV fun  s120 => A X b d MX13_goesOn 499 [(0, vR b), (1, vI x1), (2, vI x2), (3, vI x3), (4, vI x4), (5, vI x5), (6, vI x6)] [] s120 Q)))) ∧ (x6 = 20 → ∃ e121 : Nat, e121 + 1 ≤ d ∧ AC X b e121 MX13_step [vR b, vI x1] σ (aRI fun y124 s125 => ((y124 = 0 → A X b d MX13_goesOn 499 [(0, vR b), (1, vI x1), (2, vI x2), (3, vI x3), (4, vI x4), (5, vI x5), (6, vI x6)] [] s125 Q) ∧ (¬ y124 = 0 → ∃ e127 : Nat, e127 + 1 ≤ d ∧ AC X b e127 MX13_calls [vR b, vI x1, vI x4, vI x5] s125 (aRV fun  s130 => A X b d MX13_goesOn 499 [(0, vR b), (1, vI x1), (2, vI x2), (3, vI x3), (4, vI x4), (5, vI x5), (6, vI x6)] [] s130 Q))))) ∧ (¬ (x6 = 0 ∨ x6 = 1 ∨ x6 = 2 ∨ x6 = 3 ∨ x6 = 11 ∨ x6 = 12 ∨ x6 = 13 ∨ x6 = 14 ∨ x6 = 15 ∨ x6 = 16 ∨ x6 = 17 ∨ x6 = 18 ∨ x6 = 19 ∨ x6 = 20) → ∃ e3 : Nat, e3 + 1 ≤ d ∧ AC X b e3 MX13_controls [vR b, vI x1, vI x2, vI x6, vI x4, vI x5] σ (aRV fun  s6 => A X b d MX13_goesOn 499 [(0, vR b), (1, vI x1), (2, vI x2), (3, vI x3), (4, vI x4), (5, vI x5), (6, vI x6)] [] s6 Q)))) : A X b d MX13_goesOn 124 [(0, vR b), (1, vI x1), (2, vI x2), (3, vI x3), (4, vI x4), (5, vI x5), (6, vI x6)] [] σ Q := by
  refine A_p (fun T Q _ _ k => V_iload (pc2 := 126) (dk D_X13_goesOn 71 rfl) (V_lg 6 rfl) rfl k) ?_
  refine A_table (dk D_X13_goesOn 72 rfl) [224, 243, 253, 273, 487, 487, 487, 487, 487, 487, 487, 293, 307, 328, 337, 373, 386, 398, 421, 445, 467] 487 (by decide) (by decide) rfl (by decide) (fun q1 => ?_) (fun j2 hj q1 => ?_)
  · have h := h.2.2.2.2.2.2.2.2.2.2.2.2.2.2 (by rintro (hk | hk | hk | hk | hk | hk | hk | hk | hk | hk | hk | hk | hk | hk) <;> (rw [hk] at q1; revert q1; decide))
    refine A_p (fun T Q _ _ k => V_aload_n (pc2 := 488) (dk D_X13_goesOn 215 rfl) rfl (V_lg 0 rfl) rfl k) ?_
    refine A_p (fun T Q _ _ k => V_iload_n (pc2 := 489) (dk D_X13_goesOn 216 rfl) rfl (V_lg 1 rfl) rfl k) ?_
    refine A_p (fun T Q _ _ k => V_iload_n (pc2 := 490) (dk D_X13_goesOn 217 rfl) rfl (V_lg 2 rfl) rfl k) ?_
    refine A_p (fun T Q _ _ k => V_iload (pc2 := 492) (dk D_X13_goesOn 218 rfl) (V_lg 6 rfl) rfl k) ?_
    refine A_p (fun T Q _ _ k => V_iload (pc2 := 494) (dk D_X13_goesOn 219 rfl) (V_lg 4 rfl) rfl k) ?_
    refine A_p (fun T Q _ _ k => V_iload (pc2 := 496) (dk D_X13_goesOn 220 rfl) (V_lg 5 rfl) rfl k) ?_
    obtain ⟨e7, he8, hc9⟩ := h
    refine A_call (st := []) (pc2 := 499) (fun T Q Qc L hc k => V_callV (as := [_, _, _, _, _]) (st := []) (M' := MX13_controls) (ci := 13) (pc2 := 499) (dk D_X13_goesOn 221 rfl) ml_13_600 mv_X13_controls rfl rfl (by decide) rfl (Nat.le_of_ble_eq_true rfl) rfl he8 L.2.1 hc k) hc9 (aRV.k fun  s10 h => ?_)
    exact h
  · have hj2 : j2 = 0 ∨ j2 = 1 ∨ j2 = 2 ∨ j2 = 3 ∨ j2 = 4 ∨ j2 = 5 ∨ j2 = 6 ∨ j2 = 7 ∨ j2 = 8 ∨ j2 = 9 ∨ j2 = 10 ∨ j2 = 11 ∨ j2 = 12 ∨ j2 = 13 ∨ j2 = 14 ∨ j2 = 15 ∨ j2 = 16 ∨ j2 = 17 ∨ j2 = 18 ∨ j2 = 19 ∨ j2 = 20 := by simp at hj; omega
    clear hj
    rcases hj2 with rfl | rfl | rfl | rfl | rfl | rfl | rfl | rfl | rfl | rfl | rfl | rfl | rfl | rfl | rfl | rfl | rfl | rfl | rfl | rfl | rfl
    · have hx : x6 = 0 := Int32.toInt_inj.mp (by rw [q1]; decide)
      have h := h.1 hx
      refine A_p (fun T Q _ _ k => V_aload_n (pc2 := 225) (dk D_X13_goesOn 73 rfl) rfl (V_lg 0 rfl) rfl k) ?_
      refine A_p (fun T Q _ _ k => V_iload_n (pc2 := 226) (dk D_X13_goesOn 74 rfl) rfl (V_lg 1 rfl) rfl k) ?_
      obtain ⟨e11, he12, hc13⟩ := h
      refine A_call (st := []) (pc2 := 229) (fun T Q Qc L hc k => V_callV (as := [_]) (st := []) (M' := MX13_step) (ci := 13) (pc2 := 229) (dk D_X13_goesOn 75 rfl) ml_13_579 mv_X13_step rfl rfl (by decide) rfl (Nat.le_of_ble_eq_true rfl) rfl he12 L.2.1 hc k) hc13 (aRI.k fun y14 s15 h => ?_)
      refine A_if (pa := 499) (pb := 232) (fun T Q k1 k2 => V_ifeq (tgt := 499) (pc2 := 232) (dk D_X13_goesOn 76 rfl) (by decide) rfl (fun q => k1 q) (fun q => k2 q)) (fun q16 => ?_) (fun q16 => ?_)
      · have h := h.1 q16
        exact h
      · have h := h.2 q16
        refine A_p (fun T Q _ _ k => V_aload_n (pc2 := 233) (dk D_X13_goesOn 77 rfl) rfl (V_lg 0 rfl) rfl k) ?_
        refine A_ar (pc2 := 236) (a := 47) 63 (dk D_X13_goesOn 78 rfl) fl_13_204 (by decide) (by decide) rfl (fun _ => rfl) rfl ?_
        refine A_p (fun T Q _ _ k => V_iload_n (pc2 := 237) (dk D_X13_goesOn 79 rfl) rfl (V_lg 2 rfl) rfl k) ?_
        refine A_p (fun T Q _ _ k => V_iload (pc2 := 239) (dk D_X13_goesOn 80 rfl) (V_lg 4 rfl) rfl k) ?_
        obtain ⟨h17, h⟩ := h
        refine A_ist (pc2 := 240) 63 (dk D_X13_goesOn 81 rfl) rfl (by decide) rfl (by decide) rfl rfl h17 ?_
        have h := h _ rfl
        refine A_p (fun T Q _ _ k => V_goto (tgt := 499) (dk D_X13_goesOn 82 rfl) (by decide) k) ?_
        exact h
    · have hx : x6 = 1 := Int32.toInt_inj.mp (by rw [q1]; decide)
      have h := h.2.1 hx
      refine A_p (fun T Q _ _ k => V_aload_n (pc2 := 244) (dk D_X13_goesOn 83 rfl) rfl (V_lg 0 rfl) rfl k) ?_
      refine A_p (fun T Q _ _ k => V_iload_n (pc2 := 245) (dk D_X13_goesOn 84 rfl) rfl (V_lg 1 rfl) rfl k) ?_
      refine A_p (fun T Q _ _ k => V_iload (pc2 := 247) (dk D_X13_goesOn 85 rfl) (V_lg 4 rfl) rfl k) ?_
      obtain ⟨e19, he20, hc21⟩ := h
      refine A_call (st := []) (pc2 := 250) (fun T Q Qc L hc k => V_callV (as := [_, _]) (st := []) (M' := MX13_push) (ci := 13) (pc2 := 250) (dk D_X13_goesOn 86 rfl) ml_13_497 mv_X13_push rfl rfl (by decide) rfl (Nat.le_of_ble_eq_true rfl) rfl he20 L.2.1 hc k) hc21 (aRV.k fun  s22 h => ?_)
      refine A_p (fun T Q _ _ k => V_goto (tgt := 499) (dk D_X13_goesOn 87 rfl) (by decide) k) ?_
      exact h
    · have hx : x6 = 2 := Int32.toInt_inj.mp (by rw [q1]; decide)
      have h := h.2.2.1 hx
      refine A_p (fun T Q _ _ k => V_aload_n (pc2 := 254) (dk D_X13_goesOn 88 rfl) rfl (V_lg 0 rfl) rfl k) ?_
      refine A_p (fun T Q _ _ k => V_iload_n (pc2 := 255) (dk D_X13_goesOn 89 rfl) rfl (V_lg 1 rfl) rfl k) ?_
      refine A_p (fun T Q _ _ k => V_aload_n (pc2 := 256) (dk D_X13_goesOn 90 rfl) rfl (V_lg 0 rfl) rfl k) ?_
      refine A_ar (pc2 := 259) (a := 50) 66 (dk D_X13_goesOn 91 rfl) fl_13_213 (by decide) (by decide) rfl (fun _ => rfl) rfl ?_
      refine A_p (fun T Q _ _ k => V_bipush (x := 40) (pc2 := 261) (dk D_X13_goesOn 92 rfl) (by decide) rfl k) ?_
      refine A_p (fun T Q _ _ k => V_iload_n (pc2 := 262) (dk D_X13_goesOn 93 rfl) rfl (V_lg 2 rfl) rfl k) ?_
      refine A_p (fun T Q _ _ k => V_imul (pc2 := 263) (dk D_X13_goesOn 94 rfl) rfl k) ?_
      refine A_p (fun T Q _ _ k => V_iload (pc2 := 265) (dk D_X13_goesOn 95 rfl) (V_lg 4 rfl) rfl k) ?_
      refine A_p (fun T Q _ _ k => V_iadd (pc2 := 266) (dk D_X13_goesOn 96 rfl) rfl k) ?_
      obtain ⟨h23, h⟩ := h
      refine A_ild (pc2 := 267) 66 (dk D_X13_goesOn 97 rfl) rfl (by decide) rfl (by decide) rfl rfl h23 ?_
      obtain ⟨e24, he25, hc26⟩ := h
      refine A_call (st := []) (pc2 := 270) (fun T Q Qc L hc k => V_callV (as := [_, _]) (st := []) (M' := MX13_push) (ci := 13) (pc2 := 270) (dk D_X13_goesOn 98 rfl) ml_13_497 mv_X13_push rfl rfl (by decide) rfl (Nat.le_of_ble_eq_true rfl) rfl he25 L.2.1 hc k) hc26 (aRV.k fun  s27 h => ?_)
      refine A_p (fun T Q _ _ k => V_goto (tgt := 499) (dk D_X13_goesOn 99 rfl) (by decide) k) ?_
      exact h
    · have hx : x6 = 3 := Int32.toInt_inj.mp (by rw [q1]; decide)
      have h := h.2.2.2.1 hx
      refine A_p (fun T Q _ _ k => V_aload_n (pc2 := 274) (dk D_X13_goesOn 100 rfl) rfl (V_lg 0 rfl) rfl k) ?_
      refine A_ar (pc2 := 277) (a := 50) 66 (dk D_X13_goesOn 101 rfl) fl_13_213 (by decide) (by decide) rfl (fun _ => rfl) rfl ?_
      refine A_p (fun T Q _ _ k => V_bipush (x := 40) (pc2 := 279) (dk D_X13_goesOn 102 rfl) (by decide) rfl k) ?_
      refine A_p (fun T Q _ _ k => V_iload_n (pc2 := 280) (dk D_X13_goesOn 103 rfl) rfl (V_lg 2 rfl) rfl k) ?_
      refine A_p (fun T Q _ _ k => V_imul (pc2 := 281) (dk D_X13_goesOn 104 rfl) rfl k) ?_
      refine A_p (fun T Q _ _ k => V_iload (pc2 := 283) (dk D_X13_goesOn 105 rfl) (V_lg 4 rfl) rfl k) ?_
      refine A_p (fun T Q _ _ k => V_iadd (pc2 := 284) (dk D_X13_goesOn 106 rfl) rfl k) ?_
      refine A_p (fun T Q _ _ k => V_aload_n (pc2 := 285) (dk D_X13_goesOn 107 rfl) rfl (V_lg 0 rfl) rfl k) ?_
      refine A_p (fun T Q _ _ k => V_iload_n (pc2 := 286) (dk D_X13_goesOn 108 rfl) rfl (V_lg 1 rfl) rfl k) ?_
      obtain ⟨e28, he29, hc30⟩ := h
      refine A_call (st := [_, _]) (pc2 := 289) (fun T Q Qc L hc k => V_callV (as := [_]) (st := [_, _]) (M' := MX13_pop) (ci := 13) (pc2 := 289) (dk D_X13_goesOn 109 rfl) ml_13_494 mv_X13_pop rfl rfl (by decide) rfl (Nat.le_of_ble_eq_true rfl) rfl he29 L.2.1 hc k) hc30 (aRI.k fun y31 s32 h => ?_)
      obtain ⟨h33, h⟩ := h
      refine A_ist (pc2 := 290) 66 (dk D_X13_goesOn 110 rfl) rfl (by decide) rfl (by decide) rfl rfl h33 ?_
      have h := h _ rfl
      refine A_p (fun T Q _ _ k => V_goto (tgt := 499) (dk D_X13_goesOn 111 rfl) (by decide) k) ?_
      exact h
    · have h := h.2.2.2.2.2.2.2.2.2.2.2.2.2.2 (by rintro (hk | hk | hk | hk | hk | hk | hk | hk | hk | hk | hk | hk | hk | hk) <;> (rw [hk] at q1; revert q1; decide))
      refine A_p (fun T Q _ _ k => V_aload_n (pc2 := 488) (dk D_X13_goesOn 215 rfl) rfl (V_lg 0 rfl) rfl k) ?_
      refine A_p (fun T Q _ _ k => V_iload_n (pc2 := 489) (dk D_X13_goesOn 216 rfl) rfl (V_lg 1 rfl) rfl k) ?_
      refine A_p (fun T Q _ _ k => V_iload_n (pc2 := 490) (dk D_X13_goesOn 217 rfl) rfl (V_lg 2 rfl) rfl k) ?_
      refine A_p (fun T Q _ _ k => V_iload (pc2 := 492) (dk D_X13_goesOn 218 rfl) (V_lg 6 rfl) rfl k) ?_
      refine A_p (fun T Q _ _ k => V_iload (pc2 := 494) (dk D_X13_goesOn 219 rfl) (V_lg 4 rfl) rfl k) ?_
      refine A_p (fun T Q _ _ k => V_iload (pc2 := 496) (dk D_X13_goesOn 220 rfl) (V_lg 5 rfl) rfl k) ?_
      obtain ⟨e3, he4, hc5⟩ := h
      refine A_call (st := []) (pc2 := 499) (fun T Q Qc L hc k => V_callV (as := [_, _, _, _, _]) (st := []) (M' := MX13_controls) (ci := 13) (pc2 := 499) (dk D_X13_goesOn 221 rfl) ml_13_600 mv_X13_controls rfl rfl (by decide) rfl (Nat.le_of_ble_eq_true rfl) rfl he4 L.2.1 hc k) hc5 (aRV.k fun  s6 h => ?_)
      exact h
    · have h := h.2.2.2.2.2.2.2.2.2.2.2.2.2.2 (by rintro (hk | hk | hk | hk | hk | hk | hk | hk | hk | hk | hk | hk | hk | hk) <;> (rw [hk] at q1; revert q1; decide))
      refine A_p (fun T Q _ _ k => V_aload_n (pc2 := 488) (dk D_X13_goesOn 215 rfl) rfl (V_lg 0 rfl) rfl k) ?_
      refine A_p (fun T Q _ _ k => V_iload_n (pc2 := 489) (dk D_X13_goesOn 216 rfl) rfl (V_lg 1 rfl) rfl k) ?_
      refine A_p (fun T Q _ _ k => V_iload_n (pc2 := 490) (dk D_X13_goesOn 217 rfl) rfl (V_lg 2 rfl) rfl k) ?_
      refine A_p (fun T Q _ _ k => V_iload (pc2 := 492) (dk D_X13_goesOn 218 rfl) (V_lg 6 rfl) rfl k) ?_
      refine A_p (fun T Q _ _ k => V_iload (pc2 := 494) (dk D_X13_goesOn 219 rfl) (V_lg 4 rfl) rfl k) ?_
      refine A_p (fun T Q _ _ k => V_iload (pc2 := 496) (dk D_X13_goesOn 220 rfl) (V_lg 5 rfl) rfl k) ?_
      obtain ⟨e3, he4, hc5⟩ := h
      refine A_call (st := []) (pc2 := 499) (fun T Q Qc L hc k => V_callV (as := [_, _, _, _, _]) (st := []) (M' := MX13_controls) (ci := 13) (pc2 := 499) (dk D_X13_goesOn 221 rfl) ml_13_600 mv_X13_controls rfl rfl (by decide) rfl (Nat.le_of_ble_eq_true rfl) rfl he4 L.2.1 hc k) hc5 (aRV.k fun  s6 h => ?_)
      exact h
    · have h := h.2.2.2.2.2.2.2.2.2.2.2.2.2.2 (by rintro (hk | hk | hk | hk | hk | hk | hk | hk | hk | hk | hk | hk | hk | hk) <;> (rw [hk] at q1; revert q1; decide))
      refine A_p (fun T Q _ _ k => V_aload_n (pc2 := 488) (dk D_X13_goesOn 215 rfl) rfl (V_lg 0 rfl) rfl k) ?_
      refine A_p (fun T Q _ _ k => V_iload_n (pc2 := 489) (dk D_X13_goesOn 216 rfl) rfl (V_lg 1 rfl) rfl k) ?_
      refine A_p (fun T Q _ _ k => V_iload_n (pc2 := 490) (dk D_X13_goesOn 217 rfl) rfl (V_lg 2 rfl) rfl k) ?_
      refine A_p (fun T Q _ _ k => V_iload (pc2 := 492) (dk D_X13_goesOn 218 rfl) (V_lg 6 rfl) rfl k) ?_
      refine A_p (fun T Q _ _ k => V_iload (pc2 := 494) (dk D_X13_goesOn 219 rfl) (V_lg 4 rfl) rfl k) ?_
      refine A_p (fun T Q _ _ k => V_iload (pc2 := 496) (dk D_X13_goesOn 220 rfl) (V_lg 5 rfl) rfl k) ?_
      obtain ⟨e3, he4, hc5⟩ := h
      refine A_call (st := []) (pc2 := 499) (fun T Q Qc L hc k => V_callV (as := [_, _, _, _, _]) (st := []) (M' := MX13_controls) (ci := 13) (pc2 := 499) (dk D_X13_goesOn 221 rfl) ml_13_600 mv_X13_controls rfl rfl (by decide) rfl (Nat.le_of_ble_eq_true rfl) rfl he4 L.2.1 hc k) hc5 (aRV.k fun  s6 h => ?_)
      exact h
    · have h := h.2.2.2.2.2.2.2.2.2.2.2.2.2.2 (by rintro (hk | hk | hk | hk | hk | hk | hk | hk | hk | hk | hk | hk | hk | hk) <;> (rw [hk] at q1; revert q1; decide))
      refine A_p (fun T Q _ _ k => V_aload_n (pc2 := 488) (dk D_X13_goesOn 215 rfl) rfl (V_lg 0 rfl) rfl k) ?_
      refine A_p (fun T Q _ _ k => V_iload_n (pc2 := 489) (dk D_X13_goesOn 216 rfl) rfl (V_lg 1 rfl) rfl k) ?_
      refine A_p (fun T Q _ _ k => V_iload_n (pc2 := 490) (dk D_X13_goesOn 217 rfl) rfl (V_lg 2 rfl) rfl k) ?_
      refine A_p (fun T Q _ _ k => V_iload (pc2 := 492) (dk D_X13_goesOn 218 rfl) (V_lg 6 rfl) rfl k) ?_
      refine A_p (fun T Q _ _ k => V_iload (pc2 := 494) (dk D_X13_goesOn 219 rfl) (V_lg 4 rfl) rfl k) ?_
      refine A_p (fun T Q _ _ k => V_iload (pc2 := 496) (dk D_X13_goesOn 220 rfl) (V_lg 5 rfl) rfl k) ?_
      obtain ⟨e3, he4, hc5⟩ := h
      refine A_call (st := []) (pc2 := 499) (fun T Q Qc L hc k => V_callV (as := [_, _, _, _, _]) (st := []) (M' := MX13_controls) (ci := 13) (pc2 := 499) (dk D_X13_goesOn 221 rfl) ml_13_600 mv_X13_controls rfl rfl (by decide) rfl (Nat.le_of_ble_eq_true rfl) rfl he4 L.2.1 hc k) hc5 (aRV.k fun  s6 h => ?_)
      exact h
    · have h := h.2.2.2.2.2.2.2.2.2.2.2.2.2.2 (by rintro (hk | hk | hk | hk | hk | hk | hk | hk | hk | hk | hk | hk | hk | hk) <;> (rw [hk] at q1; revert q1; decide))
      refine A_p (fun T Q _ _ k => V_aload_n (pc2 := 488) (dk D_X13_goesOn 215 rfl) rfl (V_lg 0 rfl) rfl k) ?_
      refine A_p (fun T Q _ _ k => V_iload_n (pc2 := 489) (dk D_X13_goesOn 216 rfl) rfl (V_lg 1 rfl) rfl k) ?_
      refine A_p (fun T Q _ _ k => V_iload_n (pc2 := 490) (dk D_X13_goesOn 217 rfl) rfl (V_lg 2 rfl) rfl k) ?_
      refine A_p (fun T Q _ _ k => V_iload (pc2 := 492) (dk D_X13_goesOn 218 rfl) (V_lg 6 rfl) rfl k) ?_
      refine A_p (fun T Q _ _ k => V_iload (pc2 := 494) (dk D_X13_goesOn 219 rfl) (V_lg 4 rfl) rfl k) ?_
      refine A_p (fun T Q _ _ k => V_iload (pc2 := 496) (dk D_X13_goesOn 220 rfl) (V_lg 5 rfl) rfl k) ?_
      obtain ⟨e3, he4, hc5⟩ := h
      refine A_call (st := []) (pc2 := 499) (fun T Q Qc L hc k => V_callV (as := [_, _, _, _, _]) (st := []) (M' := MX13_controls) (ci := 13) (pc2 := 499) (dk D_X13_goesOn 221 rfl) ml_13_600 mv_X13_controls rfl rfl (by decide) rfl (Nat.le_of_ble_eq_true rfl) rfl he4 L.2.1 hc k) hc5 (aRV.k fun  s6 h => ?_)
      exact h
    · have h := h.2.2.2.2.2.2.2.2.2.2.2.2.2.2 (by rintro (hk | hk | hk | hk | hk | hk | hk | hk | hk | hk | hk | hk | hk | hk) <;> (rw [hk] at q1; revert q1; decide))
      refine A_p (fun T Q _ _ k => V_aload_n (pc2 := 488) (dk D_X13_goesOn 215 rfl) rfl (V_lg 0 rfl) rfl k) ?_
      refine A_p (fun T Q _ _ k => V_iload_n (pc2 := 489) (dk D_X13_goesOn 216 rfl) rfl (V_lg 1 rfl) rfl k) ?_
      refine A_p (fun T Q _ _ k => V_iload_n (pc2 := 490) (dk D_X13_goesOn 217 rfl) rfl (V_lg 2 rfl) rfl k) ?_
      refine A_p (fun T Q _ _ k => V_iload (pc2 := 492) (dk D_X13_goesOn 218 rfl) (V_lg 6 rfl) rfl k) ?_
      refine A_p (fun T Q _ _ k => V_iload (pc2 := 494) (dk D_X13_goesOn 219 rfl) (V_lg 4 rfl) rfl k) ?_
      refine A_p (fun T Q _ _ k => V_iload (pc2 := 496) (dk D_X13_goesOn 220 rfl) (V_lg 5 rfl) rfl k) ?_
      obtain ⟨e3, he4, hc5⟩ := h
      refine A_call (st := []) (pc2 := 499) (fun T Q Qc L hc k => V_callV (as := [_, _, _, _, _]) (st := []) (M' := MX13_controls) (ci := 13) (pc2 := 499) (dk D_X13_goesOn 221 rfl) ml_13_600 mv_X13_controls rfl rfl (by decide) rfl (Nat.le_of_ble_eq_true rfl) rfl he4 L.2.1 hc k) hc5 (aRV.k fun  s6 h => ?_)
      exact h
    · have h := h.2.2.2.2.2.2.2.2.2.2.2.2.2.2 (by rintro (hk | hk | hk | hk | hk | hk | hk | hk | hk | hk | hk | hk | hk | hk) <;> (rw [hk] at q1; revert q1; decide))
      refine A_p (fun T Q _ _ k => V_aload_n (pc2 := 488) (dk D_X13_goesOn 215 rfl) rfl (V_lg 0 rfl) rfl k) ?_
      refine A_p (fun T Q _ _ k => V_iload_n (pc2 := 489) (dk D_X13_goesOn 216 rfl) rfl (V_lg 1 rfl) rfl k) ?_
      refine A_p (fun T Q _ _ k => V_iload_n (pc2 := 490) (dk D_X13_goesOn 217 rfl) rfl (V_lg 2 rfl) rfl k) ?_
      refine A_p (fun T Q _ _ k => V_iload (pc2 := 492) (dk D_X13_goesOn 218 rfl) (V_lg 6 rfl) rfl k) ?_
      refine A_p (fun T Q _ _ k => V_iload (pc2 := 494) (dk D_X13_goesOn 219 rfl) (V_lg 4 rfl) rfl k) ?_
      refine A_p (fun T Q _ _ k => V_iload (pc2 := 496) (dk D_X13_goesOn 220 rfl) (V_lg 5 rfl) rfl k) ?_
      obtain ⟨e3, he4, hc5⟩ := h
      refine A_call (st := []) (pc2 := 499) (fun T Q Qc L hc k => V_callV (as := [_, _, _, _, _]) (st := []) (M' := MX13_controls) (ci := 13) (pc2 := 499) (dk D_X13_goesOn 221 rfl) ml_13_600 mv_X13_controls rfl rfl (by decide) rfl (Nat.le_of_ble_eq_true rfl) rfl he4 L.2.1 hc k) hc5 (aRV.k fun  s6 h => ?_)
      exact h
    · have hx : x6 = 11 := Int32.toInt_inj.mp (by rw [q1]; decide)
      have h := h.2.2.2.2.1 hx
      refine A_p (fun T Q _ _ k => V_aload_n (pc2 := 294) (dk D_X13_goesOn 112 rfl) rfl (V_lg 0 rfl) rfl k) ?_
      refine A_p (fun T Q _ _ k => V_iload_n (pc2 := 295) (dk D_X13_goesOn 113 rfl) rfl (V_lg 1 rfl) rfl k) ?_
      refine A_p (fun T Q _ _ k => V_aload_n (pc2 := 296) (dk D_X13_goesOn 114 rfl) rfl (V_lg 0 rfl) rfl k) ?_
      refine A_p (fun T Q _ _ k => V_iload_n (pc2 := 297) (dk D_X13_goesOn 115 rfl) rfl (V_lg 1 rfl) rfl k) ?_
      obtain ⟨e35, he36, hc37⟩ := h
      refine A_call (st := [_, _]) (pc2 := 300) (fun T Q Qc L hc k => V_callV (as := [_]) (st := [_, _]) (M' := MX13_pop) (ci := 13) (pc2 := 300) (dk D_X13_goesOn 116 rfl) ml_13_494 mv_X13_pop rfl rfl (by decide) rfl (Nat.le_of_ble_eq_true rfl) rfl he36 L.2.1 hc k) hc37 (aRI.k fun y38 s39 h => ?_)
      refine A_p (fun T Q _ _ k => V_ineg (pc2 := 301) (dk D_X13_goesOn 117 rfl) rfl k) ?_
      obtain ⟨e40, he41, hc42⟩ := h
      refine A_call (st := []) (pc2 := 304) (fun T Q Qc L hc k => V_callV (as := [_, _]) (st := []) (M' := MX13_push) (ci := 13) (pc2 := 304) (dk D_X13_goesOn 118 rfl) ml_13_497 mv_X13_push rfl rfl (by decide) rfl (Nat.le_of_ble_eq_true rfl) rfl he41 L.2.1 hc k) hc42 (aRV.k fun  s43 h => ?_)
      refine A_p (fun T Q _ _ k => V_goto (tgt := 499) (dk D_X13_goesOn 119 rfl) (by decide) k) ?_
      exact h
    · have hx : x6 = 12 := Int32.toInt_inj.mp (by rw [q1]; decide)
      have h := h.2.2.2.2.2.1 hx
      refine A_p (fun T Q _ _ k => V_aload_n (pc2 := 308) (dk D_X13_goesOn 120 rfl) rfl (V_lg 0 rfl) rfl k) ?_
      refine A_p (fun T Q _ _ k => V_iload_n (pc2 := 309) (dk D_X13_goesOn 121 rfl) rfl (V_lg 1 rfl) rfl k) ?_
      refine A_p (fun T Q _ _ k => V_aload_n (pc2 := 310) (dk D_X13_goesOn 122 rfl) rfl (V_lg 0 rfl) rfl k) ?_
      refine A_p (fun T Q _ _ k => V_iload_n (pc2 := 311) (dk D_X13_goesOn 123 rfl) rfl (V_lg 1 rfl) rfl k) ?_
      obtain ⟨e44, he45, hc46⟩ := h
      refine A_call (st := [_, _]) (pc2 := 314) (fun T Q Qc L hc k => V_callV (as := [_]) (st := [_, _]) (M' := MX13_pop) (ci := 13) (pc2 := 314) (dk D_X13_goesOn 124 rfl) ml_13_494 mv_X13_pop rfl rfl (by decide) rfl (Nat.le_of_ble_eq_true rfl) rfl he45 L.2.1 hc k) hc46 (aRI.k fun y47 s48 h => ?_)
      refine A_if (pa := 317) (pb := 321) (fun T Q k1 k2 => V_ifne (tgt := 321) (pc2 := 317) (dk D_X13_goesOn 125 rfl) (by decide) rfl (fun q => k2 q) (fun q => k1 q)) (fun q49 => ?_) (fun q49 => ?_)
      · have h := h.1 q49
        refine A_p (fun T Q _ _ k => V_iconst (x := 1) (pc2 := 318) (dk D_X13_goesOn 126 rfl) (by decide) rfl k) ?_
        refine A_p (fun T Q _ _ k => V_goto (tgt := 322) (dk D_X13_goesOn 127 rfl) (by decide) k) ?_
        exact h
      · have h := h.2 q49
        refine A_p (fun T Q _ _ k => V_iconst (x := 0) (pc2 := 322) (dk D_X13_goesOn 128 rfl) (by decide) rfl k) ?_
        exact h
    · have hx : x6 = 13 := Int32.toInt_inj.mp (by rw [q1]; decide)
      have h := h.2.2.2.2.2.2.1 hx
      refine A_p (fun T Q _ _ k => V_aload_n (pc2 := 329) (dk D_X13_goesOn 131 rfl) rfl (V_lg 0 rfl) rfl k) ?_
      refine A_p (fun T Q _ _ k => V_iload_n (pc2 := 330) (dk D_X13_goesOn 132 rfl) rfl (V_lg 1 rfl) rfl k) ?_
      refine A_p (fun T Q _ _ k => V_iload_n (pc2 := 331) (dk D_X13_goesOn 133 rfl) rfl (V_lg 1 rfl) rfl k) ?_
      obtain ⟨e50, he51, hc52⟩ := h
      refine A_call (st := []) (pc2 := 334) (fun T Q Qc L hc k => V_callV (as := [_, _]) (st := []) (M' := MX13_push) (ci := 13) (pc2 := 334) (dk D_X13_goesOn 134 rfl) ml_13_497 mv_X13_push rfl rfl (by decide) rfl (Nat.le_of_ble_eq_true rfl) rfl he51 L.2.1 hc k) hc52 (aRV.k fun  s53 h => ?_)
      refine A_p (fun T Q _ _ k => V_goto (tgt := 499) (dk D_X13_goesOn 135 rfl) (by decide) k) ?_
      exact h
    · have hx : x6 = 14 := Int32.toInt_inj.mp (by rw [q1]; decide)
      have h := h.2.2.2.2.2.2.2.1 hx
      refine A_p (fun T Q _ _ k => V_aload_n (pc2 := 338) (dk D_X13_goesOn 136 rfl) rfl (V_lg 0 rfl) rfl k) ?_
      refine A_p (fun T Q _ _ k => V_iload_n (pc2 := 339) (dk D_X13_goesOn 137 rfl) rfl (V_lg 1 rfl) rfl k) ?_
      obtain ⟨e54, he55, hc56⟩ := h
      refine A_call (st := []) (pc2 := 342) (fun T Q Qc L hc k => V_callV (as := [_]) (st := []) (M' := MX13_pop) (ci := 13) (pc2 := 342) (dk D_X13_goesOn 138 rfl) ml_13_494 mv_X13_pop rfl rfl (by decide) rfl (Nat.le_of_ble_eq_true rfl) rfl he55 L.2.1 hc k) hc56 (aRI.k fun y57 s58 h => ?_)
      refine A_p (fun T Q _ _ k => V_istore (pc2 := 344) (lv2 := [(0, _), (1, _), (2, _), (3, _), (4, _), (5, _), (6, _), (7, _)]) (dk D_X13_goesOn 139 rfl) (by decide) rfl rfl k) ?_
      refine A_p (fun T Q _ _ k => V_aload_n (pc2 := 345) (dk D_X13_goesOn 140 rfl) rfl (V_lg 0 rfl) rfl k) ?_
      refine A_p (fun T Q _ _ k => V_iload_n (pc2 := 346) (dk D_X13_goesOn 141 rfl) rfl (V_lg 1 rfl) rfl k) ?_
      refine A_p (fun T Q _ _ k => V_aload_n (pc2 := 347) (dk D_X13_goesOn 142 rfl) rfl (V_lg 0 rfl) rfl k) ?_
      refine A_p (fun T Q _ _ k => V_iload (pc2 := 349) (dk D_X13_goesOn 143 rfl) (V_lg 7 rfl) rfl k) ?_
      obtain ⟨e59, he60, hc61⟩ := h
      refine A_call (st := [_, _]) (pc2 := 352) (fun T Q Qc L hc k => V_callV (as := [_]) (st := [_, _]) (M' := MX13_isVoice) (ci := 13) (pc2 := 352) (dk D_X13_goesOn 144 rfl) ml_13_554 mv_X13_isVoice rfl rfl (by decide) rfl (Nat.le_of_ble_eq_true rfl) rfl he60 L.2.1 hc k) hc61 (aRI.k fun y62 s63 h => ?_)
      refine A_if (pa := 365) (pb := 355) (fun T Q k1 k2 => V_ifeq (tgt := 365) (pc2 := 355) (dk D_X13_goesOn 145 rfl) (by decide) rfl (fun q => k1 q) (fun q => k2 q)) (fun q64 => ?_) (fun q64 => ?_)
      · have h := h.1 q64
        refine A_p (fun T Q _ _ k => V_bipush (x := 9) (pc2 := 367) (dk D_X13_goesOn 151 rfl) (by decide) rfl k) ?_
        exact h
      · have h := h.2 q64
        refine A_p (fun T Q _ _ k => V_aload_n (pc2 := 356) (dk D_X13_goesOn 146 rfl) rfl (V_lg 0 rfl) rfl k) ?_
        refine A_ar (pc2 := 359) (a := 33) 49 (dk D_X13_goesOn 147 rfl) fl_13_161 (by decide) (by decide) rfl (fun _ => rfl) rfl ?_
        refine A_p (fun T Q _ _ k => V_iload (pc2 := 361) (dk D_X13_goesOn 148 rfl) (V_lg 7 rfl) rfl k) ?_
        obtain ⟨h65, h⟩ := h
        refine A_ild (pc2 := 362) 49 (dk D_X13_goesOn 149 rfl) rfl (by decide) rfl (by decide) rfl rfl h65 ?_
        refine A_p (fun T Q _ _ k => V_goto (tgt := 367) (dk D_X13_goesOn 150 rfl) (by decide) k) ?_
        exact h
    · have hx : x6 = 15 := Int32.toInt_inj.mp (by rw [q1]; decide)
      have h := h.2.2.2.2.2.2.2.2.1 hx
      refine A_p (fun T Q _ _ k => V_aload_n (pc2 := 374) (dk D_X13_goesOn 154 rfl) rfl (V_lg 0 rfl) rfl k) ?_
      refine A_p (fun T Q _ _ k => V_iload_n (pc2 := 375) (dk D_X13_goesOn 155 rfl) rfl (V_lg 1 rfl) rfl k) ?_
      refine A_p (fun T Q _ _ k => V_aload_n (pc2 := 376) (dk D_X13_goesOn 156 rfl) rfl (V_lg 0 rfl) rfl k) ?_
      refine A_p (fun T Q _ _ k => V_iload_n (pc2 := 377) (dk D_X13_goesOn 157 rfl) rfl (V_lg 1 rfl) rfl k) ?_
      obtain ⟨e66, he67, hc68⟩ := h
      refine A_call (st := [_, _]) (pc2 := 380) (fun T Q Qc L hc k => V_callV (as := [_]) (st := [_, _]) (M' := MX13_pop) (ci := 13) (pc2 := 380) (dk D_X13_goesOn 158 rfl) ml_13_494 mv_X13_pop rfl rfl (by decide) rfl (Nat.le_of_ble_eq_true rfl) rfl he67 L.2.1 hc k) hc68 (aRI.k fun y69 s70 h => ?_)
      obtain ⟨e71, he72, hc73⟩ := h
      refine A_call (st := []) (pc2 := 383) (fun T Q Qc L hc k => V_callV (as := [_, _]) (st := []) (M' := MX13_yields) (ci := 13) (pc2 := 383) (dk D_X13_goesOn 159 rfl) ml_13_582 mv_X13_yields rfl rfl (by decide) rfl (Nat.le_of_ble_eq_true rfl) rfl he72 L.2.1 hc k) hc73 (aRV.k fun  s74 h => ?_)
      refine A_p (fun T Q _ _ k => V_goto (tgt := 499) (dk D_X13_goesOn 160 rfl) (by decide) k) ?_
      exact h
    · have hx : x6 = 16 := Int32.toInt_inj.mp (by rw [q1]; decide)
      have h := h.2.2.2.2.2.2.2.2.2.1 hx
      refine A_p (fun T Q _ _ k => V_aload_n (pc2 := 387) (dk D_X13_goesOn 161 rfl) rfl (V_lg 0 rfl) rfl k) ?_
      refine A_p (fun T Q _ _ k => V_iload_n (pc2 := 388) (dk D_X13_goesOn 162 rfl) rfl (V_lg 1 rfl) rfl k) ?_
      refine A_p (fun T Q _ _ k => V_iload (pc2 := 390) (dk D_X13_goesOn 163 rfl) (V_lg 4 rfl) rfl k) ?_
      refine A_p (fun T Q _ _ k => V_iload (pc2 := 392) (dk D_X13_goesOn 164 rfl) (V_lg 5 rfl) rfl k) ?_
      obtain ⟨e75, he76, hc77⟩ := h
      refine A_call (st := []) (pc2 := 395) (fun T Q Qc L hc k => V_callV (as := [_, _, _]) (st := []) (M' := MX13_makes) (ci := 13) (pc2 := 395) (dk D_X13_goesOn 165 rfl) ml_13_585 mv_X13_makes rfl rfl (by decide) rfl (Nat.le_of_ble_eq_true rfl) rfl he76 L.2.1 hc k) hc77 (aRV.k fun  s78 h => ?_)
      refine A_p (fun T Q _ _ k => V_goto (tgt := 499) (dk D_X13_goesOn 166 rfl) (by decide) k) ?_
      exact h
    · have hx : x6 = 17 := Int32.toInt_inj.mp (by rw [q1]; decide)
      have h := h.2.2.2.2.2.2.2.2.2.2.1 hx
      refine A_p (fun T Q _ _ k => V_aload_n (pc2 := 399) (dk D_X13_goesOn 167 rfl) rfl (V_lg 0 rfl) rfl k) ?_
      refine A_p (fun T Q _ _ k => V_iload_n (pc2 := 400) (dk D_X13_goesOn 168 rfl) rfl (V_lg 1 rfl) rfl k) ?_
      obtain ⟨e79, he80, hc81⟩ := h
      refine A_call (st := []) (pc2 := 403) (fun T Q Qc L hc k => V_callV (as := [_]) (st := []) (M' := MX13_pop) (ci := 13) (pc2 := 403) (dk D_X13_goesOn 169 rfl) ml_13_494 mv_X13_pop rfl rfl (by decide) rfl (Nat.le_of_ble_eq_true rfl) rfl he80 L.2.1 hc k) hc81 (aRI.k fun y82 s83 h => ?_)
      refine A_p (fun T Q _ _ k => V_istore (pc2 := 405) (lv2 := [(0, _), (1, _), (2, _), (3, _), (4, _), (5, _), (6, _), (8, _)]) (dk D_X13_goesOn 170 rfl) (by decide) rfl rfl k) ?_
      refine A_p (fun T Q _ _ k => V_aload_n (pc2 := 406) (dk D_X13_goesOn 171 rfl) rfl (V_lg 0 rfl) rfl k) ?_
      refine A_p (fun T Q _ _ k => V_iload_n (pc2 := 407) (dk D_X13_goesOn 172 rfl) rfl (V_lg 1 rfl) rfl k) ?_
      refine A_p (fun T Q _ _ k => V_aload_n (pc2 := 408) (dk D_X13_goesOn 173 rfl) rfl (V_lg 0 rfl) rfl k) ?_
      refine A_p (fun T Q _ _ k => V_iload_n (pc2 := 409) (dk D_X13_goesOn 174 rfl) rfl (V_lg 1 rfl) rfl k) ?_
      obtain ⟨e84, he85, hc86⟩ := h
      refine A_call (st := [_, _]) (pc2 := 412) (fun T Q Qc L hc k => V_callV (as := [_]) (st := [_, _]) (M' := MX13_pop) (ci := 13) (pc2 := 412) (dk D_X13_goesOn 175 rfl) ml_13_494 mv_X13_pop rfl rfl (by decide) rfl (Nat.le_of_ble_eq_true rfl) rfl he85 L.2.1 hc k) hc86 (aRI.k fun y87 s88 h => ?_)
      refine A_p (fun T Q _ _ k => V_iload (pc2 := 414) (dk D_X13_goesOn 176 rfl) (V_lg 7 rfl) rfl k) ?_
      refine A_p (fun T Q _ _ k => V_iconst (x := 1) (pc2 := 415) (dk D_X13_goesOn 177 rfl) (by decide) rfl k) ?_
      obtain ⟨e89, he90, hc91⟩ := h
      refine A_call (st := []) (pc2 := 418) (fun T Q Qc L hc k => V_callV (as := [_, _, _, _]) (st := []) (M' := MX13_resumes) (ci := 13) (pc2 := 418) (dk D_X13_goesOn 178 rfl) ml_13_588 mv_X13_resumes rfl rfl (by decide) rfl (Nat.le_of_ble_eq_true rfl) rfl he90 L.2.1 hc k) hc91 (aRV.k fun  s92 h => ?_)
      refine A_p (fun T Q _ _ k => V_goto (tgt := 499) (dk D_X13_goesOn 179 rfl) (by decide) k) ?_
      refine A_p (fun T Q _ _ k => V_pick [0, 1, 2, 3, 4, 5, 6] (lv2 := [(0, _), (1, _), (2, _), (3, _), (4, _), (5, _), (6, _)]) rfl k) ?_
      exact h
    · have hx : x6 = 18 := Int32.toInt_inj.mp (by rw [q1]; decide)
      have h := h.2.2.2.2.2.2.2.2.2.2.2.1 hx
      refine A_p (fun T Q _ _ k => V_aload_n (pc2 := 422) (dk D_X13_goesOn 180 rfl) rfl (V_lg 0 rfl) rfl k) ?_
      refine A_p (fun T Q _ _ k => V_iload_n (pc2 := 423) (dk D_X13_goesOn 181 rfl) rfl (V_lg 1 rfl) rfl k) ?_
      obtain ⟨e93, he94, hc95⟩ := h
      refine A_call (st := []) (pc2 := 426) (fun T Q Qc L hc k => V_callV (as := [_]) (st := []) (M' := MX13_pop) (ci := 13) (pc2 := 426) (dk D_X13_goesOn 182 rfl) ml_13_494 mv_X13_pop rfl rfl (by decide) rfl (Nat.le_of_ble_eq_true rfl) rfl he94 L.2.1 hc k) hc95 (aRI.k fun y96 s97 h => ?_)
      refine A_p (fun T Q _ _ k => V_istore (pc2 := 428) (lv2 := [(0, _), (1, _), (2, _), (3, _), (4, _), (5, _), (6, _), (9, _)]) (dk D_X13_goesOn 183 rfl) (by decide) rfl rfl k) ?_
      refine A_p (fun T Q _ _ k => V_aload_n (pc2 := 429) (dk D_X13_goesOn 184 rfl) rfl (V_lg 0 rfl) rfl k) ?_
      refine A_p (fun T Q _ _ k => V_iload_n (pc2 := 430) (dk D_X13_goesOn 185 rfl) rfl (V_lg 1 rfl) rfl k) ?_
      refine A_p (fun T Q _ _ k => V_aload_n (pc2 := 431) (dk D_X13_goesOn 186 rfl) rfl (V_lg 0 rfl) rfl k) ?_
      refine A_p (fun T Q _ _ k => V_iload_n (pc2 := 432) (dk D_X13_goesOn 187 rfl) rfl (V_lg 1 rfl) rfl k) ?_
      obtain ⟨e98, he99, hc100⟩ := h
      refine A_call (st := [_, _]) (pc2 := 435) (fun T Q Qc L hc k => V_callV (as := [_]) (st := [_, _]) (M' := MX13_pop) (ci := 13) (pc2 := 435) (dk D_X13_goesOn 188 rfl) ml_13_494 mv_X13_pop rfl rfl (by decide) rfl (Nat.le_of_ble_eq_true rfl) rfl he99 L.2.1 hc k) hc100 (aRI.k fun y101 s102 h => ?_)
      refine A_p (fun T Q _ _ k => V_iload (pc2 := 437) (dk D_X13_goesOn 189 rfl) (V_lg 4 rfl) rfl k) ?_
      refine A_p (fun T Q _ _ k => V_iload (pc2 := 439) (dk D_X13_goesOn 190 rfl) (V_lg 7 rfl) rfl k) ?_
      obtain ⟨e103, he104, hc105⟩ := h
      refine A_call (st := []) (pc2 := 442) (fun T Q Qc L hc k => V_callV (as := [_, _, _, _]) (st := []) (M' := MX13_injects) (ci := 13) (pc2 := 442) (dk D_X13_goesOn 191 rfl) ml_13_591 mv_X13_injects rfl rfl (by decide) rfl (Nat.le_of_ble_eq_true rfl) rfl he104 L.2.1 hc k) hc105 (aRV.k fun  s106 h => ?_)
      refine A_p (fun T Q _ _ k => V_goto (tgt := 499) (dk D_X13_goesOn 192 rfl) (by decide) k) ?_
      refine A_p (fun T Q _ _ k => V_pick [0, 1, 2, 3, 4, 5, 6] (lv2 := [(0, _), (1, _), (2, _), (3, _), (4, _), (5, _), (6, _)]) rfl k) ?_
      exact h
    · have hx : x6 = 19 := Int32.toInt_inj.mp (by rw [q1]; decide)
      have h := h.2.2.2.2.2.2.2.2.2.2.2.2.1 hx
      refine A_p (fun T Q _ _ k => V_aload_n (pc2 := 446) (dk D_X13_goesOn 193 rfl) rfl (V_lg 0 rfl) rfl k) ?_
      refine A_p (fun T Q _ _ k => V_iload_n (pc2 := 447) (dk D_X13_goesOn 194 rfl) rfl (V_lg 1 rfl) rfl k) ?_
      obtain ⟨e107, he108, hc109⟩ := h
      refine A_call (st := []) (pc2 := 450) (fun T Q Qc L hc k => V_callV (as := [_]) (st := []) (M' := MX13_pop) (ci := 13) (pc2 := 450) (dk D_X13_goesOn 195 rfl) ml_13_494 mv_X13_pop rfl rfl (by decide) rfl (Nat.le_of_ble_eq_true rfl) rfl he108 L.2.1 hc k) hc109 (aRI.k fun y110 s111 h => ?_)
      refine A_p (fun T Q _ _ k => V_istore (pc2 := 452) (lv2 := [(0, _), (1, _), (2, _), (3, _), (4, _), (5, _), (6, _), (10, _)]) (dk D_X13_goesOn 196 rfl) (by decide) rfl rfl k) ?_
      refine A_p (fun T Q _ _ k => V_aload_n (pc2 := 453) (dk D_X13_goesOn 197 rfl) rfl (V_lg 0 rfl) rfl k) ?_
      refine A_p (fun T Q _ _ k => V_iload_n (pc2 := 454) (dk D_X13_goesOn 198 rfl) rfl (V_lg 1 rfl) rfl k) ?_
      refine A_p (fun T Q _ _ k => V_aload_n (pc2 := 455) (dk D_X13_goesOn 199 rfl) rfl (V_lg 0 rfl) rfl k) ?_
      refine A_p (fun T Q _ _ k => V_iload_n (pc2 := 456) (dk D_X13_goesOn 200 rfl) rfl (V_lg 1 rfl) rfl k) ?_
      obtain ⟨e112, he113, hc114⟩ := h
      refine A_call (st := [_, _]) (pc2 := 459) (fun T Q Qc L hc k => V_callV (as := [_]) (st := [_, _]) (M' := MX13_pop) (ci := 13) (pc2 := 459) (dk D_X13_goesOn 201 rfl) ml_13_494 mv_X13_pop rfl rfl (by decide) rfl (Nat.le_of_ble_eq_true rfl) rfl he113 L.2.1 hc k) hc114 (aRI.k fun y115 s116 h => ?_)
      refine A_p (fun T Q _ _ k => V_iload (pc2 := 461) (dk D_X13_goesOn 202 rfl) (V_lg 7 rfl) rfl k) ?_
      obtain ⟨e117, he118, hc119⟩ := h
      refine A_call (st := []) (pc2 := 464) (fun T Q Qc L hc k => V_callV (as := [_, _, _]) (st := []) (M' := MX13_handsOn) (ci := 13) (pc2 := 464) (dk D_X13_goesOn 203 rfl) ml_13_594 mv_X13_handsOn rfl rfl (by decide) rfl (Nat.le_of_ble_eq_true rfl) rfl he118 L.2.1 hc k) hc119 (aRV.k fun  s120 h => ?_)
      refine A_p (fun T Q _ _ k => V_goto (tgt := 499) (dk D_X13_goesOn 204 rfl) (by decide) k) ?_
      refine A_p (fun T Q _ _ k => V_pick [0, 1, 2, 3, 4, 5, 6] (lv2 := [(0, _), (1, _), (2, _), (3, _), (4, _), (5, _), (6, _)]) rfl k) ?_
      exact h
    · have hx : x6 = 20 := Int32.toInt_inj.mp (by rw [q1]; decide)
      have h := h.2.2.2.2.2.2.2.2.2.2.2.2.2.1 hx
      refine A_p (fun T Q _ _ k => V_aload_n (pc2 := 468) (dk D_X13_goesOn 205 rfl) rfl (V_lg 0 rfl) rfl k) ?_
      refine A_p (fun T Q _ _ k => V_iload_n (pc2 := 469) (dk D_X13_goesOn 206 rfl) rfl (V_lg 1 rfl) rfl k) ?_
      obtain ⟨e121, he122, hc123⟩ := h
      refine A_call (st := []) (pc2 := 472) (fun T Q Qc L hc k => V_callV (as := [_]) (st := []) (M' := MX13_step) (ci := 13) (pc2 := 472) (dk D_X13_goesOn 207 rfl) ml_13_579 mv_X13_step rfl rfl (by decide) rfl (Nat.le_of_ble_eq_true rfl) rfl he122 L.2.1 hc k) hc123 (aRI.k fun y124 s125 h => ?_)
      refine A_if (pa := 499) (pb := 475) (fun T Q k1 k2 => V_ifeq (tgt := 499) (pc2 := 475) (dk D_X13_goesOn 208 rfl) (by decide) rfl (fun q => k1 q) (fun q => k2 q)) (fun q126 => ?_) (fun q126 => ?_)
      · have h := h.1 q126
        exact h
      · have h := h.2 q126
        refine A_p (fun T Q _ _ k => V_aload_n (pc2 := 476) (dk D_X13_goesOn 209 rfl) rfl (V_lg 0 rfl) rfl k) ?_
        refine A_p (fun T Q _ _ k => V_iload_n (pc2 := 477) (dk D_X13_goesOn 210 rfl) rfl (V_lg 1 rfl) rfl k) ?_
        refine A_p (fun T Q _ _ k => V_iload (pc2 := 479) (dk D_X13_goesOn 211 rfl) (V_lg 4 rfl) rfl k) ?_
        refine A_p (fun T Q _ _ k => V_iload (pc2 := 481) (dk D_X13_goesOn 212 rfl) (V_lg 5 rfl) rfl k) ?_
        obtain ⟨e127, he128, hc129⟩ := h
        refine A_call (st := []) (pc2 := 484) (fun T Q Qc L hc k => V_callV (as := [_, _, _]) (st := []) (M' := MX13_calls) (ci := 13) (pc2 := 484) (dk D_X13_goesOn 213 rfl) ml_13_597 mv_X13_calls rfl rfl (by decide) rfl (Nat.le_of_ble_eq_true rfl) rfl he128 L.2.1 hc k) hc129 (aRV.k fun  s130 h => ?_)
        refine A_p (fun T Q _ _ k => V_goto (tgt := 499) (dk D_X13_goesOn 214 rfl) (by decide) k) ?_
        exact h
theorem a_goesOn_322 {X : Cx} {b d : Nat} {σ : Rm} {Q : Res → Rm → Prop} (x1 : Int32) (x2 : Int32) (x3 : Int32) (x4 : Int32) (x5 : Int32) (x6 : Int32) (t1 : Int32) (t2 : Int32) (h : ∃ e1 : Nat, e1 + 1 ≤ d ∧ AC X b e1 MX13_push [vR b, vI t1, vI t2] σ (aRV fun  s4 => A X b d MX13_goesOn 499 [(0, vR b), (1, vI x1), (2, vI x2), (3, vI x3), (4, vI x4), (5, vI x5), (6, vI x6)] [] s4 Q)) : A X b d MX13_goesOn 322 [(0, vR b), (1, vI x1), (2, vI x2), (3, vI x3), (4, vI x4), (5, vI x5), (6, vI x6)] [vI t2, vI t1, vR b] σ Q := by
  obtain ⟨e1, he2, hc3⟩ := h
  refine A_call (st := []) (pc2 := 325) (fun T Q Qc L hc k => V_callV (as := [_, _]) (st := []) (M' := MX13_push) (ci := 13) (pc2 := 325) (dk D_X13_goesOn 129 rfl) ml_13_497 mv_X13_push rfl rfl (by decide) rfl (Nat.le_of_ble_eq_true rfl) rfl he2 L.2.1 hc k) hc3 (aRV.k fun  s4 h => ?_)
  refine A_p (fun T Q _ _ k => V_goto (tgt := 499) (dk D_X13_goesOn 130 rfl) (by decide) k) ?_
  exact h
theorem a_goesOn_367 {X : Cx} {b d : Nat} {σ : Rm} {Q : Res → Rm → Prop} (x1 : Int32) (x2 : Int32) (x3 : Int32) (x4 : Int32) (x5 : Int32) (x6 : Int32) (x7 : Int32) (t1 : Int32) (t2 : Int32) (h : ∃ e1 : Nat, e1 + 1 ≤ d ∧ AC X b e1 MX13_push [vR b, vI t1, vI t2] σ (aRV fun  s4 => A X b d MX13_goesOn 499 [(0, vR b), (1, vI x1), (2, vI x2), (3, vI x3), (4, vI x4), (5, vI x5), (6, vI x6)] [] s4 Q)) : A X b d MX13_goesOn 367 [(0, vR b), (1, vI x1), (2, vI x2), (3, vI x3), (4, vI x4), (5, vI x5), (6, vI x6), (7, vI x7)] [vI t2, vI t1, vR b] σ Q := by
  obtain ⟨e1, he2, hc3⟩ := h
  refine A_call (st := []) (pc2 := 370) (fun T Q Qc L hc k => V_callV (as := [_, _]) (st := []) (M' := MX13_push) (ci := 13) (pc2 := 370) (dk D_X13_goesOn 152 rfl) ml_13_497 mv_X13_push rfl rfl (by decide) rfl (Nat.le_of_ble_eq_true rfl) rfl he2 L.2.1 hc k) hc3 (aRV.k fun  s4 h => ?_)
  refine A_p (fun T Q _ _ k => V_goto (tgt := 499) (dk D_X13_goesOn 153 rfl) (by decide) k) ?_
  refine A_p (fun T Q _ _ k => V_pick [0, 1, 2, 3, 4, 5, 6] (lv2 := [(0, _), (1, _), (2, _), (3, _), (4, _), (5, _), (6, _)]) rfl k) ?_
  exact h
theorem a_goesOn_499 {X : Cx} {b d : Nat} {σ : Rm} {Q : Res → Rm → Prop} (x1 : Int32) (x2 : Int32) (x3 : Int32) (x4 : Int32) (x5 : Int32) (x6 : Int32) (h : Q (.inl none) σ) : A X b d MX13_goesOn 499 [(0, vR b), (1, vI x1), (2, vI x2), (3, vI x3), (4, vI x4), (5, vI x5), (6, vI x6)] [] σ Q := by
  exact A_ret (fun T Q _ k => V_return (dk D_X13_goesOn 222 rfl) rfl k) h
theorem a_makes_0 {X : Cx} {b d : Nat} {σ : Rm} {Q : Res → Rm → Prop} (x1 : Int32) (x2 : Int32) (x3 : Int32) (h : ((x3 ≤ 0 → A X b d MX13_makes 13 [(0, vR b), (1, vI x1), (2, vI x2), (3, vI x3)] [vI 0] σ Q) ∧ (¬ x3 ≤ 0 → ∃ e2 : Nat, e2 + 1 ≤ d ∧ AC X b e2 MX13_pop [vR b, vI x1] σ (aRI fun y5 s6 => A X b d MX13_makes 13 [(0, vR b), (1, vI x1), (2, vI x2), (3, vI x3)] [vI y5] s6 Q)))) : A X b d MX13_makes 0 [(0, vR b), (1, vI x1), (2, vI x2), (3, vI x3)] [] σ Q := by
  refine A_p (fun T Q _ _ k => V_iload_n (pc2 := 1) (dk D_X13_makes 0 rfl) rfl (V_lg 3 rfl) rfl k) ?_
  refine A_if (pa := 12) (pb := 4) (fun T Q k1 k2 => V_ifle (tgt := 12) (pc2 := 4) (dk D_X13_makes 1 rfl) (by decide) rfl (fun q => k1 q) (fun q => k2 q)) (fun q1 => ?_) (fun q1 => ?_)
  · have h := h.1 q1
    refine A_p (fun T Q _ _ k => V_iconst (x := 0) (pc2 := 13) (dk D_X13_makes 6 rfl) (by decide) rfl k) ?_
    exact h
  · have h := h.2 q1
    refine A_p (fun T Q _ _ k => V_aload_n (pc2 := 5) (dk D_X13_makes 2 rfl) rfl (V_lg 0 rfl) rfl k) ?_
    refine A_p (fun T Q _ _ k => V_iload_n (pc2 := 6) (dk D_X13_makes 3 rfl) rfl (V_lg 1 rfl) rfl k) ?_
    obtain ⟨e2, he3, hc4⟩ := h
    refine A_call (st := []) (pc2 := 9) (fun T Q Qc L hc k => V_callV (as := [_]) (st := []) (M' := MX13_pop) (ci := 13) (pc2 := 9) (dk D_X13_makes 4 rfl) ml_13_494 mv_X13_pop rfl rfl (by decide) rfl (Nat.le_of_ble_eq_true rfl) rfl he3 L.2.1 hc k) hc4 (aRI.k fun y5 s6 h => ?_)
    refine A_p (fun T Q _ _ k => V_goto (tgt := 13) (dk D_X13_makes 5 rfl) (by decide) k) ?_
    exact h
theorem a_makes_13 {X : Cx} {b d : Nat} {σ : Rm} {Q : Res → Rm → Prop} (x1 : Int32) (x2 : Int32) (x3 : Int32) (t0 : Int32) (h : (((sI σ 47) = 60 → A X b d MX13_makes 33 [(0, vR b), (1, vI x1), (2, vI x2), (3, vI x3), (4, vI t0)] [] σ Q) ∧ (¬ (sI σ 47) = 60 → (((sI σ 48) = 12 → A X b d MX13_makes 33 [(0, vR b), (1, vI x1), (2, vI x2), (3, vI x3), (4, vI t0)] [] σ Q) ∧ (¬ (sI σ 48) = 12 → ∃ e3 : Nat, e3 + 1 ≤ d ∧ AC X b e3 MX13_made [vR b, vI x2, vI t0, vI x1] σ (aRI fun y6 s7 => ∃ e8 : Nat, e8 + 1 ≤ d ∧ AC X b e8 MX13_push [vR b, vI x1, vI y6] s7 (aRV fun  s11 => A X b d MX13_makes 56 [(0, vR b), (1, vI x1), (2, vI x2), (3, vI x3), (4, vI t0)] [] s11 Q))))))) : A X b d MX13_makes 13 [(0, vR b), (1, vI x1), (2, vI x2), (3, vI x3)] [vI t0] σ Q := by
  refine A_p (fun T Q _ _ k => V_istore (pc2 := 15) (lv2 := [(0, _), (1, _), (2, _), (3, _), (4, _)]) (dk D_X13_makes 7 rfl) (by decide) rfl rfl k) ?_
  refine A_p (fun T Q _ _ k => V_aload_n (pc2 := 16) (dk D_X13_makes 8 rfl) rfl (V_lg 0 rfl) rfl k) ?_
  refine A_sc (pc2 := 19) 47 (dk D_X13_makes 9 rfl) fl_13_461 (by decide) rfl (fun _ => rfl) rfl ?_
  refine A_p (fun T Q _ _ k => V_bipush (x := 60) (pc2 := 21) (dk D_X13_makes 10 rfl) (by decide) rfl k) ?_
  refine A_if (pa := 33) (pb := 24) (fun T Q k1 k2 => V_cmpeq (tgt := 33) (pc2 := 24) (dk D_X13_makes 11 rfl) (by decide) rfl (fun q => k1 q) (fun q => k2 q)) (fun q1 => ?_) (fun q1 => ?_)
  · have h := h.1 q1
    exact h
  · have h := h.2 q1
    refine A_p (fun T Q _ _ k => V_aload_n (pc2 := 25) (dk D_X13_makes 12 rfl) rfl (V_lg 0 rfl) rfl k) ?_
    refine A_sc (pc2 := 28) 48 (dk D_X13_makes 13 rfl) fl_13_464 (by decide) rfl (fun _ => rfl) rfl ?_
    refine A_p (fun T Q _ _ k => V_bipush (x := 12) (pc2 := 30) (dk D_X13_makes 14 rfl) (by decide) rfl k) ?_
    refine A_if (pa := 33) (pb := 43) (fun T Q k1 k2 => V_cmpne (tgt := 43) (pc2 := 33) (dk D_X13_makes 15 rfl) (by decide) rfl (fun q => k2 q) (fun q => k1 q)) (fun q2 => ?_) (fun q2 => ?_)
    · have h := h.1 q2
      exact h
    · have h := h.2 q2
      refine A_p (fun T Q _ _ k => V_aload_n (pc2 := 44) (dk D_X13_makes 21 rfl) rfl (V_lg 0 rfl) rfl k) ?_
      refine A_p (fun T Q _ _ k => V_iload_n (pc2 := 45) (dk D_X13_makes 22 rfl) rfl (V_lg 1 rfl) rfl k) ?_
      refine A_p (fun T Q _ _ k => V_aload_n (pc2 := 46) (dk D_X13_makes 23 rfl) rfl (V_lg 0 rfl) rfl k) ?_
      refine A_p (fun T Q _ _ k => V_iload_n (pc2 := 47) (dk D_X13_makes 24 rfl) rfl (V_lg 2 rfl) rfl k) ?_
      refine A_p (fun T Q _ _ k => V_iload (pc2 := 49) (dk D_X13_makes 25 rfl) (V_lg 4 rfl) rfl k) ?_
      refine A_p (fun T Q _ _ k => V_iload_n (pc2 := 50) (dk D_X13_makes 26 rfl) rfl (V_lg 1 rfl) rfl k) ?_
      obtain ⟨e3, he4, hc5⟩ := h
      refine A_call (st := [_, _]) (pc2 := 53) (fun T Q Qc L hc k => V_callV (as := [_, _, _]) (st := [_, _]) (M' := MX13_made) (ci := 13) (pc2 := 53) (dk D_X13_makes 27 rfl) ml_13_604 mv_X13_made rfl rfl (by decide) rfl (Nat.le_of_ble_eq_true rfl) rfl he4 L.2.1 hc k) hc5 (aRI.k fun y6 s7 h => ?_)
      obtain ⟨e8, he9, hc10⟩ := h
      refine A_call (st := []) (pc2 := 56) (fun T Q Qc L hc k => V_callV (as := [_, _]) (st := []) (M' := MX13_push) (ci := 13) (pc2 := 56) (dk D_X13_makes 28 rfl) ml_13_497 mv_X13_push rfl rfl (by decide) rfl (Nat.le_of_ble_eq_true rfl) rfl he9 L.2.1 hc k) hc10 (aRV.k fun  s11 h => ?_)
      exact h
theorem a_makes_33 {X : Cx} {b d : Nat} {σ : Rm} {Q : Res → Rm → Prop} (x1 : Int32) (x2 : Int32) (x3 : Int32) (x4 : Int32) (h : ∃ e1 : Nat, e1 + 1 ≤ d ∧ AC X b e1 MX13_arises [vR b, vI x1, vI 13] σ (aRV fun  s4 => A X b d MX13_makes 56 [(0, vR b), (1, vI x1), (2, vI x2), (3, vI x3), (4, vI x4)] [] s4 Q)) : A X b d MX13_makes 33 [(0, vR b), (1, vI x1), (2, vI x2), (3, vI x3), (4, vI x4)] [] σ Q := by
  refine A_p (fun T Q _ _ k => V_aload_n (pc2 := 34) (dk D_X13_makes 16 rfl) rfl (V_lg 0 rfl) rfl k) ?_
  refine A_p (fun T Q _ _ k => V_iload_n (pc2 := 35) (dk D_X13_makes 17 rfl) rfl (V_lg 1 rfl) rfl k) ?_
  refine A_p (fun T Q _ _ k => V_bipush (x := 13) (pc2 := 37) (dk D_X13_makes 18 rfl) (by decide) rfl k) ?_
  obtain ⟨e1, he2, hc3⟩ := h
  refine A_call (st := []) (pc2 := 40) (fun T Q Qc L hc k => V_callV (as := [_, _]) (st := []) (M' := MX13_arises) (ci := 13) (pc2 := 40) (dk D_X13_makes 19 rfl) ml_13_567 mv_X13_arises rfl rfl (by decide) rfl (Nat.le_of_ble_eq_true rfl) rfl he2 L.2.1 hc k) hc3 (aRV.k fun  s4 h => ?_)
  refine A_p (fun T Q _ _ k => V_goto (tgt := 56) (dk D_X13_makes 20 rfl) (by decide) k) ?_
  exact h
theorem a_makes_56 {X : Cx} {b d : Nat} {σ : Rm} {Q : Res → Rm → Prop} (x1 : Int32) (x2 : Int32) (x3 : Int32) (x4 : Int32) (h : Q (.inl none) σ) : A X b d MX13_makes 56 [(0, vR b), (1, vI x1), (2, vI x2), (3, vI x3), (4, vI x4)] [] σ Q := by
  exact A_ret (fun T Q _ k => V_return (dk D_X13_makes 29 rfl) rfl k) h
theorem a_calls_0 {X : Cx} {b d : Nat} {σ : Rm} {Q : Res → Rm → Prop} (x1 : Int32) (x2 : Int32) (x3 : Int32) (h : (vp_in x1 61) ∧ (vp_in (aI σ 58 (x1 : Int32).toNatClampNeg) 12) ∧ (((aI σ 60 ((aI σ 58 (x1 : Int32).toNatClampNeg) : Int32).toNatClampNeg) = 60 → ∃ e4 : Nat, e4 + 1 ≤ d ∧ AC X b e4 MX13_arises [vR b, vI x1, vI 12] σ (aRV fun  s7 => A X b d MX13_calls 33 [(0, vR b), (1, vI x1), (2, vI x2), (3, vI x3)] [] s7 Q)) ∧ (¬ (aI σ 60 ((aI σ 58 (x1 : Int32).toNatClampNeg) : Int32).toNatClampNeg) = 60 → ∃ e8 : Nat, e8 + 1 ≤ d ∧ AC X b e8 MX13_enter [vR b, vI x1, vI x2, vI x3] σ (aRV fun  s11 => A X b d MX13_calls 33 [(0, vR b), (1, vI x1), (2, vI x2), (3, vI x3)] [] s11 Q)))) : A X b d MX13_calls 0 [(0, vR b), (1, vI x1), (2, vI x2), (3, vI x3)] [] σ Q := by
  refine A_p (fun T Q _ _ k => V_aload_n (pc2 := 1) (dk D_X13_calls 0 rfl) rfl (V_lg 0 rfl) rfl k) ?_
  refine A_ar (pc2 := 4) (a := 44) 60 (dk D_X13_calls 1 rfl) fl_13_195 (by decide) (by decide) rfl (fun _ => rfl) rfl ?_
  refine A_p (fun T Q _ _ k => V_aload_n (pc2 := 5) (dk D_X13_calls 2 rfl) rfl (V_lg 0 rfl) rfl k) ?_
  refine A_ar (pc2 := 8) (a := 42) 58 (dk D_X13_calls 3 rfl) fl_13_189 (by decide) (by decide) rfl (fun _ => rfl) rfl ?_
  refine A_p (fun T Q _ _ k => V_iload_n (pc2 := 9) (dk D_X13_calls 4 rfl) rfl (V_lg 1 rfl) rfl k) ?_
  obtain ⟨h1, h⟩ := h
  refine A_ild (pc2 := 10) 58 (dk D_X13_calls 5 rfl) rfl (by decide) rfl (by decide) rfl rfl h1 ?_
  obtain ⟨h2, h⟩ := h
  refine A_ild (pc2 := 11) 60 (dk D_X13_calls 6 rfl) rfl (by decide) rfl (by decide) rfl rfl h2 ?_
  refine A_p (fun T Q _ _ k => V_bipush (x := 60) (pc2 := 13) (dk D_X13_calls 7 rfl) (by decide) rfl k) ?_
  refine A_if (pa := 16) (pb := 26) (fun T Q k1 k2 => V_cmpne (tgt := 26) (pc2 := 16) (dk D_X13_calls 8 rfl) (by decide) rfl (fun q => k2 q) (fun q => k1 q)) (fun q3 => ?_) (fun q3 => ?_)
  · have h := h.1 q3
    refine A_p (fun T Q _ _ k => V_aload_n (pc2 := 17) (dk D_X13_calls 9 rfl) rfl (V_lg 0 rfl) rfl k) ?_
    refine A_p (fun T Q _ _ k => V_iload_n (pc2 := 18) (dk D_X13_calls 10 rfl) rfl (V_lg 1 rfl) rfl k) ?_
    refine A_p (fun T Q _ _ k => V_bipush (x := 12) (pc2 := 20) (dk D_X13_calls 11 rfl) (by decide) rfl k) ?_
    obtain ⟨e4, he5, hc6⟩ := h
    refine A_call (st := []) (pc2 := 23) (fun T Q Qc L hc k => V_callV (as := [_, _]) (st := []) (M' := MX13_arises) (ci := 13) (pc2 := 23) (dk D_X13_calls 12 rfl) ml_13_567 mv_X13_arises rfl rfl (by decide) rfl (Nat.le_of_ble_eq_true rfl) rfl he5 L.2.1 hc k) hc6 (aRV.k fun  s7 h => ?_)
    refine A_p (fun T Q _ _ k => V_goto (tgt := 33) (dk D_X13_calls 13 rfl) (by decide) k) ?_
    exact h
  · have h := h.2 q3
    refine A_p (fun T Q _ _ k => V_aload_n (pc2 := 27) (dk D_X13_calls 14 rfl) rfl (V_lg 0 rfl) rfl k) ?_
    refine A_p (fun T Q _ _ k => V_iload_n (pc2 := 28) (dk D_X13_calls 15 rfl) rfl (V_lg 1 rfl) rfl k) ?_
    refine A_p (fun T Q _ _ k => V_iload_n (pc2 := 29) (dk D_X13_calls 16 rfl) rfl (V_lg 2 rfl) rfl k) ?_
    refine A_p (fun T Q _ _ k => V_iload_n (pc2 := 30) (dk D_X13_calls 17 rfl) rfl (V_lg 3 rfl) rfl k) ?_
    obtain ⟨e8, he9, hc10⟩ := h
    refine A_call (st := []) (pc2 := 33) (fun T Q Qc L hc k => V_callV (as := [_, _, _]) (st := []) (M' := MX13_enter) (ci := 13) (pc2 := 33) (dk D_X13_calls 18 rfl) ml_13_501 mv_X13_enter rfl rfl (by decide) rfl (Nat.le_of_ble_eq_true rfl) rfl he9 L.2.1 hc k) hc10 (aRV.k fun  s11 h => ?_)
    exact h
theorem a_calls_33 {X : Cx} {b d : Nat} {σ : Rm} {Q : Res → Rm → Prop} (x1 : Int32) (x2 : Int32) (x3 : Int32) (h : Q (.inl none) σ) : A X b d MX13_calls 33 [(0, vR b), (1, vI x1), (2, vI x2), (3, vI x3)] [] σ Q := by
  exact A_ret (fun T Q _ k => V_return (dk D_X13_calls 19 rfl) rfl k) h
set_option maxRecDepth 100000 in
theorem a_controls_0 {X : Cx} {b d : Nat} {σ : Rm} {Q : Res → Rm → Prop} (x1 : Int32) (x2 : Int32) (x3 : Int32) (x4 : Int32) (x5 : Int32) (h : (vp_in x1 61) ∧ ((x3 = 21 → ∃ e14 : Nat, e14 + 1 ≤ d ∧ AC X b e14 MX13_pop [vR b, vI x1] σ (aRI fun y17 s18 => ∃ e19 : Nat, e19 + 1 ≤ d ∧ AC X b e19 MX13_tells [vR b, vI x1, vI y17] s18 (aRV fun  s22 => A X b d MX13_controls 449 [(0, vR b), (1, vI x1), (2, vI x2), (3, vI x3), (4, vI x4), (5, vI x5), (6, vI (aI σ 58 (x1 : Int32).toNatClampNeg))] [] s22 Q))) ∧ (x3 = 22 → ∃ e23 : Nat, e23 + 1 ≤ d ∧ AC X b e23 MX13_pop [vR b, vI x1] σ (aRI fun y26 s27 => A X b d MX13_controls 449 [(0, vR b), (1, vI x1), (2, vI x2), (3, vI x3), (4, vI x4), (5, vI x5), (6, vI (aI σ 58 (x1 : Int32).toNatClampNeg))] [] s27 Q)) ∧ (x3 = 23 → (vp_in x2 720) ∧ ∀ s29 : Rm, s29 = wI σ 62 ((x2 : Int32).toNatClampNeg) x4 → A X b d MX13_controls 449 [(0, vR b), (1, vI x1), (2, vI x2), (3, vI x3), (4, vI x4), (5, vI x5), (6, vI (aI σ 58 (x1 : Int32).toNatClampNeg))] [] s29 Q) ∧ (x3 = 24 → ∃ e30 : Nat, e30 + 1 ≤ d ∧ AC X b e30 MX13_pop [vR b, vI x1] σ (aRI fun y33 s34 => ((y33 = 0 → A X b d MX13_controls 126 [(0, vR b), (1, vI x1), (2, vI x2), (3, vI x3), (4, vI x4), (5, vI x5), (6, vI (aI σ 58 (x1 : Int32).toNatClampNeg))] [vI x4, vI x2, vR (b + 46)] s34 Q) ∧ (¬ y33 = 0 → (vp_in x2 720) ∧ A X b d MX13_controls 126 [(0, vR b), (1, vI x1), (2, vI x2), (3, vI x3), (4, vI x4), (5, vI x5), (6, vI (aI σ 58 (x1 : Int32).toNatClampNeg))] [vI (aI s34 62 (x2 : Int32).toNatClampNeg), vI x2, vR (b + 46)] s34 Q)))) ∧ (x3 = 25 → ∃ e37 : Nat, e37 + 1 ≤ d ∧ AC X b e37 MX13_pop [vR b, vI x1] σ (aRI fun y40 s41 => (vp_in x2 720) ∧ ((0 ≤ x5 → (vp_in ((25 * x2) + x5) 18000) ∧ A X b d MX13_controls 169 [(0, vR b), (1, vI x1), (2, vI x2), (3, vI x3), (4, vI x4), (5, vI x5), (6, vI (aI σ 58 (x1 : Int32).toNatClampNeg))] [vI (aI s41 67 (((25 * x2) + x5) : Int32).toNatClampNeg), vI (aI s41 63 (x2 : Int32).toNatClampNeg), vI x1, vI y40, vI x4, vR b, vI x1, vR b] s41 Q) ∧ (¬ 0 ≤ x5 → A X b d MX13_controls 169 [(0, vR b), (1, vI x1), (2, vI x2), (3, vI x3), (4, vI x4), (5, vI x5), (6, vI (aI σ 58 (x1 : Int32).toNatClampNeg))] [vI (-9), vI (aI s41 63 (x2 : Int32).toNatClampNeg), vI x1, vI y40, vI x4, vR b, vI x1, vR b] s41 Q)))) ∧ (x3 = 26 → ∃ e45 : Nat, e45 + 1 ≤ d ∧ AC X b e45 MX13_pop [vR b, vI x1] σ (aRI fun y48 s49 => ∃ e50 : Nat, e50 + 1 ≤ d ∧ AC X b e50 MX13_gives [vR b, vI x1, vI y48] s49 (aRV fun  s53 => A X b d MX13_controls 449 [(0, vR b), (1, vI x1), (2, vI x2), (3, vI x3), (4, vI x4), (5, vI x5), (6, vI (aI σ 58 (x1 : Int32).toNatClampNeg))] [] s53 Q))) ∧ (x3 = 27 → ∃ e54 : Nat, e54 + 1 ≤ d ∧ AC X b e54 MX13_pop [vR b, vI x1] σ (aRI fun y57 s58 => ∃ e59 : Nat, e59 + 1 ≤ d ∧ AC X b e59 MX13_shuts [vR b, vI x1, vI y57] s58 (aRV fun  s62 => A X b d MX13_controls 449 [(0, vR b), (1, vI x1), (2, vI x2), (3, vI x3), (4, vI x4), (5, vI x5), (6, vI (aI σ 58 (x1 : Int32).toNatClampNeg))] [] s62 Q))) ∧ (x3 = 28 → (vp_in (aI σ 58 (x1 : Int32).toNatClampNeg) 12) ∧ (vp_in (aI σ 58 (x1 : Int32).toNatClampNeg) 12) ∧ (vp_in (aI σ 58 (x1 : Int32).toNatClampNeg) 12) ∧ ∀ s66 : Rm, s66 = wI σ 68 (((aI σ 58 (x1 : Int32).toNatClampNeg) : Int32).toNatClampNeg) ((aI σ 68 ((aI σ 58 (x1 : Int32).toNatClampNeg) : Int32).toNatClampNeg) + 1) → (vp_in ((1500 * (aI σ 58 (x1 : Int32).toNatClampNeg)) + (aI σ 68 ((aI σ 58 (x1 : Int32).toNatClampNeg) : Int32).toNatClampNeg)) 18000) ∧ ∀ s68 : Rm, s68 = wI s66 69 ((((1500 * (aI σ 58 (x1 : Int32).toNatClampNeg)) + (aI σ 68 ((aI σ 58 (x1 : Int32).toNatClampNeg) : Int32).toNatClampNeg)) : Int32).toNatClampNeg) x4 → (vp_in ((1500 * (aI σ 58 (x1 : Int32).toNatClampNeg)) + (aI σ 68 ((aI σ 58 (x1 : Int32).toNatClampNeg) : Int32).toNatClampNeg)) 18000) ∧ ∀ s70 : Rm, s70 = wI s68 70 ((((1500 * (aI σ 58 (x1 : Int32).toNatClampNeg)) + (aI σ 68 ((aI σ 58 (x1 : Int32).toNatClampNeg) : Int32).toNatClampNeg)) : Int32).toNatClampNeg) 0 → A X b d MX13_controls 449 [(0, vR b), (1, vI x1), (2, vI x2), (3, vI x3), (4, vI x4), (5, vI x5), (6, vI (aI σ 58 (x1 : Int32).toNatClampNeg))] [] s70 Q) ∧ (x3 = 29 → (vp_in (aI σ 58 (x1 : Int32).toNatClampNeg) 12) ∧ (vp_in x4 1000) ∧ (((aI σ 27 (x4 : Int32).toNatClampNeg) < 0 → (vp_in (aI σ 58 (x1 : Int32).toNatClampNeg) 12) ∧ (vp_in (aI σ 58 (x1 : Int32).toNatClampNeg) 12) ∧ ∀ s76 : Rm, s76 = wI σ 68 (((aI σ 58 (x1 : Int32).toNatClampNeg) : Int32).toNatClampNeg) ((aI σ 68 ((aI σ 58 (x1 : Int32).toNatClampNeg) : Int32).toNatClampNeg) - 1) → (vp_in x4 1000) ∧ (vp_in x2 720) ∧ ∀ s79 : Rm, s79 = wI s76 62 ((x2 : Int32).toNatClampNeg) (aI s76 28 (x4 : Int32).toNatClampNeg) → A X b d MX13_controls 449 [(0, vR b), (1, vI x1), (2, vI x2), (3, vI x3), (4, vI x4), (5, vI x5), (6, vI (aI σ 58 (x1 : Int32).toNatClampNeg))] [] s79 Q) ∧ (¬ (aI σ 27 (x4 : Int32).toNatClampNeg) < 0 → ∃ e80 : Nat, e80 + 1 ≤ d ∧ AC X b e80 MX13_finishes [vR b, vI x1, vI (((1500 * (aI σ 58 (x1 : Int32).toNatClampNeg)) + (aI σ 68 ((aI σ 58 (x1 : Int32).toNatClampNeg) : Int32).toNatClampNeg)) - 1), vI 0, vI 0] σ (aRV fun  s83 => A X b d MX13_controls 449 [(0, vR b), (1, vI x1), (2, vI x2), (3, vI x3), (4, vI x4), (5, vI x5), (6, vI (aI σ 58 (x1 : Int32).toNatClampNeg))] [] s83 Q)))) ∧ (x3 = 30 → (vp_in (aI σ 58 (x1 : Int32).toNatClampNeg) 12) ∧ (vp_in (((1500 * (aI σ 58 (x1 : Int32).toNatClampNeg)) + (aI σ 68 ((aI σ 58 (x1 : Int32).toNatClampNeg) : Int32).toNatClampNeg)) - 1) 18000) ∧ (vp_in (((1500 * (aI σ 58 (x1 : Int32).toNatClampNeg)) + (aI σ 68 ((aI σ 58 (x1 : Int32).toNatClampNeg) : Int32).toNatClampNeg)) - 1) 18000) ∧ (vp_in (aI σ 58 (x1 : Int32).toNatClampNeg) 12) ∧ (vp_in (aI σ 58 (x1 : Int32).toNatClampNeg) 12) ∧ ∀ s89 : Rm, s89 = wI σ 68 (((aI σ 58 (x1 : Int32).toNatClampNeg) : Int32).toNatClampNeg) ((aI σ 68 ((aI σ 58 (x1 : Int32).toNatClampNeg) : Int32).toNatClampNeg) - 1) → (vp_in x4 1000) ∧ (vp_in x2 720) ∧ ∀ s92 : Rm, s92 = wI s89 62 ((x2 : Int32).toNatClampNeg) (aI s89 28 (x4 : Int32).toNatClampNeg) → (((aI σ 71 ((((1500 * (aI σ 58 (x1 : Int32).toNatClampNeg)) + (aI σ 68 ((aI σ 58 (x1 : Int32).toNatClampNeg) : Int32).toNatClampNeg)) - 1) : Int32).toNatClampNeg) = 1 → ∃ e94 : Nat, e94 + 1 ≤ d ∧ AC X b e94 MX13_raise [vR b, vI x1, vI (aI σ 72 ((((1500 * (aI σ 58 (x1 : Int32).toNatClampNeg)) + (aI σ 68 ((aI σ 58 (x1 : Int32).toNatClampNeg) : Int32).toNatClampNeg)) - 1) : Int32).toNatClampNeg)] s92 (aRV fun  s97 => A X b d MX13_controls 449 [(0, vR b), (1, vI x1), (2, vI x2), (3, vI x3), (4, vI x4), (5, vI x5), (6, vI (aI σ 58 (x1 : Int32).toNatClampNeg))] [] s97 Q)) ∧ (¬ (aI σ 71 ((((1500 * (aI σ 58 (x1 : Int32).toNatClampNeg)) + (aI σ 68 ((aI σ 58 (x1 : Int32).toNatClampNeg) : Int32).toNatClampNeg)) - 1) : Int32).toNatClampNeg) = 1 → (((aI σ 71 ((((1500 * (aI σ 58 (x1 : Int32).toNatClampNeg)) + (aI σ 68 ((aI σ 58 (x1 : Int32).toNatClampNeg) : Int32).toNatClampNeg)) - 1) : Int32).toNatClampNeg) = 2 → ∃ e99 : Nat, e99 + 1 ≤ d ∧ AC X b e99 MX13_gives [vR b, vI x1, vI (aI σ 72 ((((1500 * (aI σ 58 (x1 : Int32).toNatClampNeg)) + (aI σ 68 ((aI σ 58 (x1 : Int32).toNatClampNeg) : Int32).toNatClampNeg)) - 1) : Int32).toNatClampNeg)] s92 (aRV fun  s102 => A X b d MX13_controls 449 [(0, vR b), (1, vI x1), (2, vI x2), (3, vI x3), (4, vI x4), (5, vI x5), (6, vI (aI σ 58 (x1 : Int32).toNatClampNeg))] [] s102 Q)) ∧ (¬ (aI σ 71 ((((1500 * (aI σ 58 (x1 : Int32).toNatClampNeg)) + (aI σ 68 ((aI σ 58 (x1 : Int32).toNatClampNeg) : Int32).toNatClampNeg)) - 1) : Int32).toNatClampNeg) = 2 → A X b d MX13_controls 449 [(0, vR b), (1, vI x1), (2, vI x2), (3, vI x3), (4, vI x4), (5, vI x5), (6, vI (aI σ 58 (x1 : Int32).toNatClampNeg))] [] s92 Q))))) ∧ (x3 = 31 → ∃ e103 : Nat, e103 + 1 ≤ d ∧ AC X b e103 MX13_pop [vR b, vI x1] σ (aRI fun y106 s107 => (vp_in ((40 * x2) + x4) 28800) ∧ ∀ s109 : Rm, s109 = wI s107 66 ((((40 * x2) + x4) : Int32).toNatClampNeg) y106 → A X b d MX13_controls 449 [(0, vR b), (1, vI x1), (2, vI x2), (3, vI x3), (4, vI x4), (5, vI x5), (6, vI (aI σ 58 (x1 : Int32).toNatClampNeg))] [] s109 Q)) ∧ (¬ (x3 = 21 ∨ x3 = 22 ∨ x3 = 23 ∨ x3 = 24 ∨ x3 = 25 ∨ x3 = 26 ∨ x3 = 27 ∨ x3 = 28 ∨ x3 = 29 ∨ x3 = 30 ∨ x3 = 31) → (vp_in ((40 * x2) + x5) 28800) ∧ ∃ e5 : Nat, e5 + 1 ≤ d ∧ AC X b e5 MX13_resumes [vR b, vI x1, vI (aI σ 66 (((40 * x2) + x5) : Int32).toNatClampNeg), vI 0, vI 2] σ (aRV fun  s8 => A X b d MX13_controls 449 [(0, vR b), (1, vI x1), (2, vI x2), (3, vI x3), (4, vI x4), (5, vI x5), (6, vI (aI σ 58 (x1 : Int32).toNatClampNeg))] [] s8 Q)))) : A X b d MX13_controls 0 [(0, vR b), (1, vI x1), (2, vI x2), (3, vI x3), (4, vI x4), (5, vI x5)] [] σ Q := by
  refine A_p (fun T Q _ _ k => V_aload_n (pc2 := 1) (dk D_X13_controls 0 rfl) rfl (V_lg 0 rfl) rfl k) ?_
  refine A_ar (pc2 := 4) (a := 42) 58 (dk D_X13_controls 1 rfl) fl_13_189 (by decide) (by decide) rfl (fun _ => rfl) rfl ?_
  refine A_p (fun T Q _ _ k => V_iload_n (pc2 := 5) (dk D_X13_controls 2 rfl) rfl (V_lg 1 rfl) rfl k) ?_
  obtain ⟨h1, h⟩ := h
  refine A_ild (pc2 := 6) 58 (dk D_X13_controls 3 rfl) rfl (by decide) rfl (by decide) rfl rfl h1 ?_
  refine A_p (fun T Q _ _ k => V_istore (pc2 := 8) (lv2 := [(0, _), (1, _), (2, _), (3, _), (4, _), (5, _), (6, _)]) (dk D_X13_controls 4 rfl) (by decide) rfl rfl k) ?_
  refine A_p (fun T Q _ _ k => V_iload_n (pc2 := 9) (dk D_X13_controls 5 rfl) rfl (V_lg 3 rfl) rfl k) ?_
  refine A_table (dk D_X13_controls 6 rfl) [68, 81, 91, 102, 130, 178, 191, 204, 251, 318, 410] 430 (by decide) (by decide) rfl (by decide) (fun q2 => ?_) (fun j3 hj q2 => ?_)
  · have h := h.2.2.2.2.2.2.2.2.2.2.2 (by rintro (hk | hk | hk | hk | hk | hk | hk | hk | hk | hk | hk) <;> (rw [hk] at q2; revert q2; decide))
    refine A_p (fun T Q _ _ k => V_aload_n (pc2 := 431) (dk D_X13_controls 214 rfl) rfl (V_lg 0 rfl) rfl k) ?_
    refine A_p (fun T Q _ _ k => V_iload_n (pc2 := 432) (dk D_X13_controls 215 rfl) rfl (V_lg 1 rfl) rfl k) ?_
    refine A_p (fun T Q _ _ k => V_aload_n (pc2 := 433) (dk D_X13_controls 216 rfl) rfl (V_lg 0 rfl) rfl k) ?_
    refine A_ar (pc2 := 436) (a := 50) 66 (dk D_X13_controls 217 rfl) fl_13_213 (by decide) (by decide) rfl (fun _ => rfl) rfl ?_
    refine A_p (fun T Q _ _ k => V_bipush (x := 40) (pc2 := 438) (dk D_X13_controls 218 rfl) (by decide) rfl k) ?_
    refine A_p (fun T Q _ _ k => V_iload_n (pc2 := 439) (dk D_X13_controls 219 rfl) rfl (V_lg 2 rfl) rfl k) ?_
    refine A_p (fun T Q _ _ k => V_imul (pc2 := 440) (dk D_X13_controls 220 rfl) rfl k) ?_
    refine A_p (fun T Q _ _ k => V_iload (pc2 := 442) (dk D_X13_controls 221 rfl) (V_lg 5 rfl) rfl k) ?_
    refine A_p (fun T Q _ _ k => V_iadd (pc2 := 443) (dk D_X13_controls 222 rfl) rfl k) ?_
    obtain ⟨h9, h⟩ := h
    refine A_ild (pc2 := 444) 66 (dk D_X13_controls 223 rfl) rfl (by decide) rfl (by decide) rfl rfl h9 ?_
    refine A_p (fun T Q _ _ k => V_iconst (x := 0) (pc2 := 445) (dk D_X13_controls 224 rfl) (by decide) rfl k) ?_
    refine A_p (fun T Q _ _ k => V_iconst (x := 2) (pc2 := 446) (dk D_X13_controls 225 rfl) (by decide) rfl k) ?_
    obtain ⟨e10, he11, hc12⟩ := h
    refine A_call (st := []) (pc2 := 449) (fun T Q Qc L hc k => V_callV (as := [_, _, _, _]) (st := []) (M' := MX13_resumes) (ci := 13) (pc2 := 449) (dk D_X13_controls 226 rfl) ml_13_588 mv_X13_resumes rfl rfl (by decide) rfl (Nat.le_of_ble_eq_true rfl) rfl he11 L.2.1 hc k) hc12 (aRV.k fun  s13 h => ?_)
    exact h
  · have hj2 : j3 = 0 ∨ j3 = 1 ∨ j3 = 2 ∨ j3 = 3 ∨ j3 = 4 ∨ j3 = 5 ∨ j3 = 6 ∨ j3 = 7 ∨ j3 = 8 ∨ j3 = 9 ∨ j3 = 10 := by simp at hj; omega
    clear hj
    rcases hj2 with rfl | rfl | rfl | rfl | rfl | rfl | rfl | rfl | rfl | rfl | rfl
    · have hx : x3 = 21 := Int32.toInt_inj.mp (by rw [q2]; decide)
      have h := h.1 hx
      refine A_p (fun T Q _ _ k => V_aload_n (pc2 := 69) (dk D_X13_controls 7 rfl) rfl (V_lg 0 rfl) rfl k) ?_
      refine A_p (fun T Q _ _ k => V_iload_n (pc2 := 70) (dk D_X13_controls 8 rfl) rfl (V_lg 1 rfl) rfl k) ?_
      refine A_p (fun T Q _ _ k => V_aload_n (pc2 := 71) (dk D_X13_controls 9 rfl) rfl (V_lg 0 rfl) rfl k) ?_
      refine A_p (fun T Q _ _ k => V_iload_n (pc2 := 72) (dk D_X13_controls 10 rfl) rfl (V_lg 1 rfl) rfl k) ?_
      obtain ⟨e14, he15, hc16⟩ := h
      refine A_call (st := [_, _]) (pc2 := 75) (fun T Q Qc L hc k => V_callV (as := [_]) (st := [_, _]) (M' := MX13_pop) (ci := 13) (pc2 := 75) (dk D_X13_controls 11 rfl) ml_13_494 mv_X13_pop rfl rfl (by decide) rfl (Nat.le_of_ble_eq_true rfl) rfl he15 L.2.1 hc k) hc16 (aRI.k fun y17 s18 h => ?_)
      obtain ⟨e19, he20, hc21⟩ := h
      refine A_call (st := []) (pc2 := 78) (fun T Q Qc L hc k => V_callV (as := [_, _]) (st := []) (M' := MX13_tells) (ci := 13) (pc2 := 78) (dk D_X13_controls 12 rfl) ml_13_607 mv_X13_tells rfl rfl (by decide) rfl (Nat.le_of_ble_eq_true rfl) rfl he20 L.2.1 hc k) hc21 (aRV.k fun  s22 h => ?_)
      refine A_p (fun T Q _ _ k => V_goto (tgt := 449) (dk D_X13_controls 13 rfl) (by decide) k) ?_
      exact h
    · have hx : x3 = 22 := Int32.toInt_inj.mp (by rw [q2]; decide)
      have h := h.2.1 hx
      refine A_p (fun T Q _ _ k => V_aload_n (pc2 := 82) (dk D_X13_controls 14 rfl) rfl (V_lg 0 rfl) rfl k) ?_
      refine A_p (fun T Q _ _ k => V_iload_n (pc2 := 83) (dk D_X13_controls 15 rfl) rfl (V_lg 1 rfl) rfl k) ?_
      obtain ⟨e23, he24, hc25⟩ := h
      refine A_call (st := []) (pc2 := 86) (fun T Q Qc L hc k => V_callV (as := [_]) (st := []) (M' := MX13_pop) (ci := 13) (pc2 := 86) (dk D_X13_controls 16 rfl) ml_13_494 mv_X13_pop rfl rfl (by decide) rfl (Nat.le_of_ble_eq_true rfl) rfl he24 L.2.1 hc k) hc25 (aRI.k fun y26 s27 h => ?_)
      refine A_p (fun T Q _ _ k => V_istore (pc2 := 88) (lv2 := [(0, _), (1, _), (2, _), (3, _), (4, _), (5, _), (6, _), (7, _)]) (dk D_X13_controls 17 rfl) (by decide) rfl rfl k) ?_
      refine A_p (fun T Q _ _ k => V_goto (tgt := 449) (dk D_X13_controls 18 rfl) (by decide) k) ?_
      refine A_p (fun T Q _ _ k => V_pick [0, 1, 2, 3, 4, 5, 6] (lv2 := [(0, _), (1, _), (2, _), (3, _), (4, _), (5, _), (6, _)]) rfl k) ?_
      exact h
    · have hx : x3 = 23 := Int32.toInt_inj.mp (by rw [q2]; decide)
      have h := h.2.2.1 hx
      refine A_p (fun T Q _ _ k => V_aload_n (pc2 := 92) (dk D_X13_controls 19 rfl) rfl (V_lg 0 rfl) rfl k) ?_
      refine A_ar (pc2 := 95) (a := 46) 62 (dk D_X13_controls 20 rfl) fl_13_201 (by decide) (by decide) rfl (fun _ => rfl) rfl ?_
      refine A_p (fun T Q _ _ k => V_iload_n (pc2 := 96) (dk D_X13_controls 21 rfl) rfl (V_lg 2 rfl) rfl k) ?_
      refine A_p (fun T Q _ _ k => V_iload (pc2 := 98) (dk D_X13_controls 22 rfl) (V_lg 4 rfl) rfl k) ?_
      obtain ⟨h28, h⟩ := h
      refine A_ist (pc2 := 99) 62 (dk D_X13_controls 23 rfl) rfl (by decide) rfl (by decide) rfl rfl h28 ?_
      have h := h _ rfl
      refine A_p (fun T Q _ _ k => V_goto (tgt := 449) (dk D_X13_controls 24 rfl) (by decide) k) ?_
      exact h
    · have hx : x3 = 24 := Int32.toInt_inj.mp (by rw [q2]; decide)
      have h := h.2.2.2.1 hx
      refine A_p (fun T Q _ _ k => V_aload_n (pc2 := 103) (dk D_X13_controls 25 rfl) rfl (V_lg 0 rfl) rfl k) ?_
      refine A_ar (pc2 := 106) (a := 46) 62 (dk D_X13_controls 26 rfl) fl_13_201 (by decide) (by decide) rfl (fun _ => rfl) rfl ?_
      refine A_p (fun T Q _ _ k => V_iload_n (pc2 := 107) (dk D_X13_controls 27 rfl) rfl (V_lg 2 rfl) rfl k) ?_
      refine A_p (fun T Q _ _ k => V_aload_n (pc2 := 108) (dk D_X13_controls 28 rfl) rfl (V_lg 0 rfl) rfl k) ?_
      refine A_p (fun T Q _ _ k => V_iload_n (pc2 := 109) (dk D_X13_controls 29 rfl) rfl (V_lg 1 rfl) rfl k) ?_
      obtain ⟨e30, he31, hc32⟩ := h
      refine A_call (st := [_, _]) (pc2 := 112) (fun T Q Qc L hc k => V_callV (as := [_]) (st := [_, _]) (M' := MX13_pop) (ci := 13) (pc2 := 112) (dk D_X13_controls 30 rfl) ml_13_494 mv_X13_pop rfl rfl (by decide) rfl (Nat.le_of_ble_eq_true rfl) rfl he31 L.2.1 hc k) hc32 (aRI.k fun y33 s34 h => ?_)
      refine A_if (pa := 115) (pb := 120) (fun T Q k1 k2 => V_ifne (tgt := 120) (pc2 := 115) (dk D_X13_controls 31 rfl) (by decide) rfl (fun q => k2 q) (fun q => k1 q)) (fun q35 => ?_) (fun q35 => ?_)
      · have h := h.1 q35
        refine A_p (fun T Q _ _ k => V_iload (pc2 := 117) (dk D_X13_controls 32 rfl) (V_lg 4 rfl) rfl k) ?_
        refine A_p (fun T Q _ _ k => V_goto (tgt := 126) (dk D_X13_controls 33 rfl) (by decide) k) ?_
        exact h
      · have h := h.2 q35
        refine A_p (fun T Q _ _ k => V_aload_n (pc2 := 121) (dk D_X13_controls 34 rfl) rfl (V_lg 0 rfl) rfl k) ?_
        refine A_ar (pc2 := 124) (a := 46) 62 (dk D_X13_controls 35 rfl) fl_13_201 (by decide) (by decide) rfl (fun _ => rfl) rfl ?_
        refine A_p (fun T Q _ _ k => V_iload_n (pc2 := 125) (dk D_X13_controls 36 rfl) rfl (V_lg 2 rfl) rfl k) ?_
        obtain ⟨h36, h⟩ := h
        refine A_ild (pc2 := 126) 62 (dk D_X13_controls 37 rfl) rfl (by decide) rfl (by decide) rfl rfl h36 ?_
        exact h
    · have hx : x3 = 25 := Int32.toInt_inj.mp (by rw [q2]; decide)
      have h := h.2.2.2.2.1 hx
      refine A_p (fun T Q _ _ k => V_aload_n (pc2 := 131) (dk D_X13_controls 40 rfl) rfl (V_lg 0 rfl) rfl k) ?_
      refine A_p (fun T Q _ _ k => V_iload_n (pc2 := 132) (dk D_X13_controls 41 rfl) rfl (V_lg 1 rfl) rfl k) ?_
      refine A_p (fun T Q _ _ k => V_aload_n (pc2 := 133) (dk D_X13_controls 42 rfl) rfl (V_lg 0 rfl) rfl k) ?_
      refine A_p (fun T Q _ _ k => V_iload (pc2 := 135) (dk D_X13_controls 43 rfl) (V_lg 4 rfl) rfl k) ?_
      refine A_p (fun T Q _ _ k => V_aload_n (pc2 := 136) (dk D_X13_controls 44 rfl) rfl (V_lg 0 rfl) rfl k) ?_
      refine A_p (fun T Q _ _ k => V_iload_n (pc2 := 137) (dk D_X13_controls 45 rfl) rfl (V_lg 1 rfl) rfl k) ?_
      obtain ⟨e37, he38, hc39⟩ := h
      refine A_call (st := [_, _, _, _]) (pc2 := 140) (fun T Q Qc L hc k => V_callV (as := [_]) (st := [_, _, _, _]) (M' := MX13_pop) (ci := 13) (pc2 := 140) (dk D_X13_controls 46 rfl) ml_13_494 mv_X13_pop rfl rfl (by decide) rfl (Nat.le_of_ble_eq_true rfl) rfl he38 L.2.1 hc k) hc39 (aRI.k fun y40 s41 h => ?_)
      refine A_p (fun T Q _ _ k => V_iload_n (pc2 := 141) (dk D_X13_controls 47 rfl) rfl (V_lg 1 rfl) rfl k) ?_
      refine A_p (fun T Q _ _ k => V_aload_n (pc2 := 142) (dk D_X13_controls 48 rfl) rfl (V_lg 0 rfl) rfl k) ?_
      refine A_ar (pc2 := 145) (a := 47) 63 (dk D_X13_controls 49 rfl) fl_13_204 (by decide) (by decide) rfl (fun _ => rfl) rfl ?_
      refine A_p (fun T Q _ _ k => V_iload_n (pc2 := 146) (dk D_X13_controls 50 rfl) rfl (V_lg 2 rfl) rfl k) ?_
      obtain ⟨h42, h⟩ := h
      refine A_ild (pc2 := 147) 63 (dk D_X13_controls 51 rfl) rfl (by decide) rfl (by decide) rfl rfl h42 ?_
      refine A_p (fun T Q _ _ k => V_iload (pc2 := 149) (dk D_X13_controls 52 rfl) (V_lg 5 rfl) rfl k) ?_
      refine A_if (pa := 157) (pb := 152) (fun T Q k1 k2 => V_ifge (tgt := 157) (pc2 := 152) (dk D_X13_controls 53 rfl) (by decide) rfl (fun q => k1 q) (fun q => k2 q)) (fun q43 => ?_) (fun q43 => ?_)
      · have h := h.1 q43
        refine A_p (fun T Q _ _ k => V_aload_n (pc2 := 158) (dk D_X13_controls 56 rfl) rfl (V_lg 0 rfl) rfl k) ?_
        refine A_ar (pc2 := 161) (a := 51) 67 (dk D_X13_controls 57 rfl) fl_13_216 (by decide) (by decide) rfl (fun _ => rfl) rfl ?_
        refine A_p (fun T Q _ _ k => V_bipush (x := 25) (pc2 := 163) (dk D_X13_controls 58 rfl) (by decide) rfl k) ?_
        refine A_p (fun T Q _ _ k => V_iload_n (pc2 := 164) (dk D_X13_controls 59 rfl) rfl (V_lg 2 rfl) rfl k) ?_
        refine A_p (fun T Q _ _ k => V_imul (pc2 := 165) (dk D_X13_controls 60 rfl) rfl k) ?_
        refine A_p (fun T Q _ _ k => V_iload (pc2 := 167) (dk D_X13_controls 61 rfl) (V_lg 5 rfl) rfl k) ?_
        refine A_p (fun T Q _ _ k => V_iadd (pc2 := 168) (dk D_X13_controls 62 rfl) rfl k) ?_
        obtain ⟨h44, h⟩ := h
        refine A_ild (pc2 := 169) 67 (dk D_X13_controls 63 rfl) rfl (by decide) rfl (by decide) rfl rfl h44 ?_
        exact h
      · have h := h.2 q43
        refine A_p (fun T Q _ _ k => V_bipush (x := (-9)) (pc2 := 154) (dk D_X13_controls 54 rfl) (by decide) rfl k) ?_
        refine A_p (fun T Q _ _ k => V_goto (tgt := 169) (dk D_X13_controls 55 rfl) (by decide) k) ?_
        exact h
    · have hx : x3 = 26 := Int32.toInt_inj.mp (by rw [q2]; decide)
      have h := h.2.2.2.2.2.1 hx
      refine A_p (fun T Q _ _ k => V_aload_n (pc2 := 179) (dk D_X13_controls 67 rfl) rfl (V_lg 0 rfl) rfl k) ?_
      refine A_p (fun T Q _ _ k => V_iload_n (pc2 := 180) (dk D_X13_controls 68 rfl) rfl (V_lg 1 rfl) rfl k) ?_
      refine A_p (fun T Q _ _ k => V_aload_n (pc2 := 181) (dk D_X13_controls 69 rfl) rfl (V_lg 0 rfl) rfl k) ?_
      refine A_p (fun T Q _ _ k => V_iload_n (pc2 := 182) (dk D_X13_controls 70 rfl) rfl (V_lg 1 rfl) rfl k) ?_
      obtain ⟨e45, he46, hc47⟩ := h
      refine A_call (st := [_, _]) (pc2 := 185) (fun T Q Qc L hc k => V_callV (as := [_]) (st := [_, _]) (M' := MX13_pop) (ci := 13) (pc2 := 185) (dk D_X13_controls 71 rfl) ml_13_494 mv_X13_pop rfl rfl (by decide) rfl (Nat.le_of_ble_eq_true rfl) rfl he46 L.2.1 hc k) hc47 (aRI.k fun y48 s49 h => ?_)
      obtain ⟨e50, he51, hc52⟩ := h
      refine A_call (st := []) (pc2 := 188) (fun T Q Qc L hc k => V_callS (as := [_, _, _]) (st := []) (M' := MX13_gives) (pc2 := 188) (dk D_X13_controls 72 rfl) ml_13_610 mv_X13_gives rfl rfl (Nat.le_of_ble_eq_true rfl) rfl he51 hc k) hc52 (aRV.k fun  s53 h => ?_)
      refine A_p (fun T Q _ _ k => V_goto (tgt := 449) (dk D_X13_controls 73 rfl) (by decide) k) ?_
      exact h
    · have hx : x3 = 27 := Int32.toInt_inj.mp (by rw [q2]; decide)
      have h := h.2.2.2.2.2.2.1 hx
      refine A_p (fun T Q _ _ k => V_aload_n (pc2 := 192) (dk D_X13_controls 74 rfl) rfl (V_lg 0 rfl) rfl k) ?_
      refine A_p (fun T Q _ _ k => V_iload_n (pc2 := 193) (dk D_X13_controls 75 rfl) rfl (V_lg 1 rfl) rfl k) ?_
      refine A_p (fun T Q _ _ k => V_aload_n (pc2 := 194) (dk D_X13_controls 76 rfl) rfl (V_lg 0 rfl) rfl k) ?_
      refine A_p (fun T Q _ _ k => V_iload_n (pc2 := 195) (dk D_X13_controls 77 rfl) rfl (V_lg 1 rfl) rfl k) ?_
      obtain ⟨e54, he55, hc56⟩ := h
      refine A_call (st := [_, _]) (pc2 := 198) (fun T Q Qc L hc k => V_callV (as := [_]) (st := [_, _]) (M' := MX13_pop) (ci := 13) (pc2 := 198) (dk D_X13_controls 78 rfl) ml_13_494 mv_X13_pop rfl rfl (by decide) rfl (Nat.le_of_ble_eq_true rfl) rfl he55 L.2.1 hc k) hc56 (aRI.k fun y57 s58 h => ?_)
      obtain ⟨e59, he60, hc61⟩ := h
      refine A_call (st := []) (pc2 := 201) (fun T Q Qc L hc k => V_callV (as := [_, _]) (st := []) (M' := MX13_shuts) (ci := 13) (pc2 := 201) (dk D_X13_controls 79 rfl) ml_13_613 mv_X13_shuts rfl rfl (by decide) rfl (Nat.le_of_ble_eq_true rfl) rfl he60 L.2.1 hc k) hc61 (aRV.k fun  s62 h => ?_)
      refine A_p (fun T Q _ _ k => V_goto (tgt := 449) (dk D_X13_controls 80 rfl) (by decide) k) ?_
      exact h
    · have hx : x3 = 28 := Int32.toInt_inj.mp (by rw [q2]; decide)
      have h := h.2.2.2.2.2.2.2.1 hx
      refine A_p (fun T Q _ _ k => V_sipush (x := 1500) (pc2 := 207) (dk D_X13_controls 81 rfl) (by decide) rfl k) ?_
      refine A_p (fun T Q _ _ k => V_iload (pc2 := 209) (dk D_X13_controls 82 rfl) (V_lg 6 rfl) rfl k) ?_
      refine A_p (fun T Q _ _ k => V_imul (pc2 := 210) (dk D_X13_controls 83 rfl) rfl k) ?_
      refine A_p (fun T Q _ _ k => V_aload_n (pc2 := 211) (dk D_X13_controls 84 rfl) rfl (V_lg 0 rfl) rfl k) ?_
      refine A_ar (pc2 := 214) (a := 52) 68 (dk D_X13_controls 85 rfl) fl_13_219 (by decide) (by decide) rfl (fun _ => rfl) rfl ?_
      refine A_p (fun T Q _ _ k => V_iload (pc2 := 216) (dk D_X13_controls 86 rfl) (V_lg 6 rfl) rfl k) ?_
      obtain ⟨h63, h⟩ := h
      refine A_ild (pc2 := 217) 68 (dk D_X13_controls 87 rfl) rfl (by decide) rfl (by decide) rfl rfl h63 ?_
      refine A_p (fun T Q _ _ k => V_iadd (pc2 := 218) (dk D_X13_controls 88 rfl) rfl k) ?_
      refine A_p (fun T Q _ _ k => V_istore (pc2 := 220) (lv2 := [(0, _), (1, _), (2, _), (3, _), (4, _), (5, _), (6, _), (8, _)]) (dk D_X13_controls 89 rfl) (by decide) rfl rfl k) ?_
      refine A_p (fun T Q _ _ k => V_aload_n (pc2 := 221) (dk D_X13_controls 90 rfl) rfl (V_lg 0 rfl) rfl k) ?_
      refine A_ar (pc2 := 224) (a := 52) 68 (dk D_X13_controls 91 rfl) fl_13_219 (by decide) (by decide) rfl (fun _ => rfl) rfl ?_
      refine A_p (fun T Q _ _ k => V_iload (pc2 := 226) (dk D_X13_controls 92 rfl) (V_lg 6 rfl) rfl k) ?_
      refine A_p (fun T Q _ _ k => V_dup2 (pc2 := 227) (dk D_X13_controls 93 rfl) rfl rfl rfl k) ?_
      obtain ⟨h64, h⟩ := h
      refine A_ild (pc2 := 228) 68 (dk D_X13_controls 94 rfl) rfl (by decide) rfl (by decide) rfl rfl h64 ?_
      refine A_p (fun T Q _ _ k => V_iconst (x := 1) (pc2 := 229) (dk D_X13_controls 95 rfl) (by decide) rfl k) ?_
      refine A_p (fun T Q _ _ k => V_iadd (pc2 := 230) (dk D_X13_controls 96 rfl) rfl k) ?_
      obtain ⟨h65, h⟩ := h
      refine A_ist (pc2 := 231) 68 (dk D_X13_controls 97 rfl) rfl (by decide) rfl (by decide) rfl rfl h65 ?_
      have h := h _ rfl
      refine A_p (fun T Q _ _ k => V_aload_n (pc2 := 232) (dk D_X13_controls 98 rfl) rfl (V_lg 0 rfl) rfl k) ?_
      refine A_ar (pc2 := 235) (a := 53) 69 (dk D_X13_controls 99 rfl) fl_13_222 (by decide) (by decide) rfl (fun _ => rfl) rfl ?_
      refine A_p (fun T Q _ _ k => V_iload (pc2 := 237) (dk D_X13_controls 100 rfl) (V_lg 7 rfl) rfl k) ?_
      refine A_p (fun T Q _ _ k => V_iload (pc2 := 239) (dk D_X13_controls 101 rfl) (V_lg 4 rfl) rfl k) ?_
      obtain ⟨h67, h⟩ := h
      refine A_ist (pc2 := 240) 69 (dk D_X13_controls 102 rfl) rfl (by decide) rfl (by decide) rfl rfl h67 ?_
      have h := h _ rfl
      refine A_p (fun T Q _ _ k => V_aload_n (pc2 := 241) (dk D_X13_controls 103 rfl) rfl (V_lg 0 rfl) rfl k) ?_
      refine A_ar (pc2 := 244) (a := 54) 70 (dk D_X13_controls 104 rfl) fl_13_225 (by decide) (by decide) rfl (fun _ => rfl) rfl ?_
      refine A_p (fun T Q _ _ k => V_iload (pc2 := 246) (dk D_X13_controls 105 rfl) (V_lg 7 rfl) rfl k) ?_
      refine A_p (fun T Q _ _ k => V_iconst (x := 0) (pc2 := 247) (dk D_X13_controls 106 rfl) (by decide) rfl k) ?_
      obtain ⟨h69, h⟩ := h
      refine A_ist (pc2 := 248) 70 (dk D_X13_controls 107 rfl) rfl (by decide) rfl (by decide) rfl rfl h69 ?_
      have h := h _ rfl
      refine A_p (fun T Q _ _ k => V_goto (tgt := 449) (dk D_X13_controls 108 rfl) (by decide) k) ?_
      refine A_p (fun T Q _ _ k => V_pick [0, 1, 2, 3, 4, 5, 6] (lv2 := [(0, _), (1, _), (2, _), (3, _), (4, _), (5, _), (6, _)]) rfl k) ?_
      exact h
    · have hx : x3 = 29 := Int32.toInt_inj.mp (by rw [q2]; decide)
      have h := h.2.2.2.2.2.2.2.2.1 hx
      refine A_p (fun T Q _ _ k => V_sipush (x := 1500) (pc2 := 254) (dk D_X13_controls 109 rfl) (by decide) rfl k) ?_
      refine A_p (fun T Q _ _ k => V_iload (pc2 := 256) (dk D_X13_controls 110 rfl) (V_lg 6 rfl) rfl k) ?_
      refine A_p (fun T Q _ _ k => V_imul (pc2 := 257) (dk D_X13_controls 111 rfl) rfl k) ?_
      refine A_p (fun T Q _ _ k => V_aload_n (pc2 := 258) (dk D_X13_controls 112 rfl) rfl (V_lg 0 rfl) rfl k) ?_
      refine A_ar (pc2 := 261) (a := 52) 68 (dk D_X13_controls 113 rfl) fl_13_219 (by decide) (by decide) rfl (fun _ => rfl) rfl ?_
      refine A_p (fun T Q _ _ k => V_iload (pc2 := 263) (dk D_X13_controls 114 rfl) (V_lg 6 rfl) rfl k) ?_
      obtain ⟨h71, h⟩ := h
      refine A_ild (pc2 := 264) 68 (dk D_X13_controls 115 rfl) rfl (by decide) rfl (by decide) rfl rfl h71 ?_
      refine A_p (fun T Q _ _ k => V_iadd (pc2 := 265) (dk D_X13_controls 116 rfl) rfl k) ?_
      refine A_p (fun T Q _ _ k => V_iconst (x := 1) (pc2 := 266) (dk D_X13_controls 117 rfl) (by decide) rfl k) ?_
      refine A_p (fun T Q _ _ k => V_isub (pc2 := 267) (dk D_X13_controls 118 rfl) rfl k) ?_
      refine A_p (fun T Q _ _ k => V_istore (pc2 := 269) (lv2 := [(0, _), (1, _), (2, _), (3, _), (4, _), (5, _), (6, _), (9, _)]) (dk D_X13_controls 119 rfl) (by decide) rfl rfl k) ?_
      refine A_p (fun T Q _ _ k => V_aload_n (pc2 := 270) (dk D_X13_controls 120 rfl) rfl (V_lg 0 rfl) rfl k) ?_
      refine A_ar (pc2 := 273) (a := 21) 27 (dk D_X13_controls 121 rfl) fl_13_125 (by decide) (by decide) rfl (fun _ => rfl) rfl ?_
      refine A_p (fun T Q _ _ k => V_iload (pc2 := 275) (dk D_X13_controls 122 rfl) (V_lg 4 rfl) rfl k) ?_
      obtain ⟨h72, h⟩ := h
      refine A_ild (pc2 := 276) 27 (dk D_X13_controls 123 rfl) rfl (by decide) rfl (by decide) rfl rfl h72 ?_
      refine A_if (pa := 291) (pb := 279) (fun T Q k1 k2 => V_iflt (tgt := 291) (pc2 := 279) (dk D_X13_controls 124 rfl) (by decide) rfl (fun q => k1 q) (fun q => k2 q)) (fun q73 => ?_) (fun q73 => ?_)
      · have h := h.1 q73
        refine A_p (fun T Q _ _ k => V_aload_n (pc2 := 292) (dk D_X13_controls 132 rfl) rfl (V_lg 0 rfl) rfl k) ?_
        refine A_ar (pc2 := 295) (a := 52) 68 (dk D_X13_controls 133 rfl) fl_13_219 (by decide) (by decide) rfl (fun _ => rfl) rfl ?_
        refine A_p (fun T Q _ _ k => V_iload (pc2 := 297) (dk D_X13_controls 134 rfl) (V_lg 6 rfl) rfl k) ?_
        refine A_p (fun T Q _ _ k => V_dup2 (pc2 := 298) (dk D_X13_controls 135 rfl) rfl rfl rfl k) ?_
        obtain ⟨h74, h⟩ := h
        refine A_ild (pc2 := 299) 68 (dk D_X13_controls 136 rfl) rfl (by decide) rfl (by decide) rfl rfl h74 ?_
        refine A_p (fun T Q _ _ k => V_iconst (x := 1) (pc2 := 300) (dk D_X13_controls 137 rfl) (by decide) rfl k) ?_
        refine A_p (fun T Q _ _ k => V_isub (pc2 := 301) (dk D_X13_controls 138 rfl) rfl k) ?_
        obtain ⟨h75, h⟩ := h
        refine A_ist (pc2 := 302) 68 (dk D_X13_controls 139 rfl) rfl (by decide) rfl (by decide) rfl rfl h75 ?_
        have h := h _ rfl
        refine A_p (fun T Q _ _ k => V_aload_n (pc2 := 303) (dk D_X13_controls 140 rfl) rfl (V_lg 0 rfl) rfl k) ?_
        refine A_ar (pc2 := 306) (a := 46) 62 (dk D_X13_controls 141 rfl) fl_13_201 (by decide) (by decide) rfl (fun _ => rfl) rfl ?_
        refine A_p (fun T Q _ _ k => V_iload_n (pc2 := 307) (dk D_X13_controls 142 rfl) rfl (V_lg 2 rfl) rfl k) ?_
        refine A_p (fun T Q _ _ k => V_aload_n (pc2 := 308) (dk D_X13_controls 143 rfl) rfl (V_lg 0 rfl) rfl k) ?_
        refine A_ar (pc2 := 311) (a := 22) 28 (dk D_X13_controls 144 rfl) fl_13_128 (by decide) (by decide) rfl (fun _ => rfl) rfl ?_
        refine A_p (fun T Q _ _ k => V_iload (pc2 := 313) (dk D_X13_controls 145 rfl) (V_lg 4 rfl) rfl k) ?_
        obtain ⟨h77, h⟩ := h
        refine A_ild (pc2 := 314) 28 (dk D_X13_controls 146 rfl) rfl (by decide) rfl (by decide) rfl rfl h77 ?_
        obtain ⟨h78, h⟩ := h
        refine A_ist (pc2 := 315) 62 (dk D_X13_controls 147 rfl) rfl (by decide) rfl (by decide) rfl rfl h78 ?_
        have h := h _ rfl
        refine A_p (fun T Q _ _ k => V_goto (tgt := 449) (dk D_X13_controls 148 rfl) (by decide) k) ?_
        refine A_p (fun T Q _ _ k => V_pick [0, 1, 2, 3, 4, 5, 6] (lv2 := [(0, _), (1, _), (2, _), (3, _), (4, _), (5, _), (6, _)]) rfl k) ?_
        exact h
      · have h := h.2 q73
        refine A_p (fun T Q _ _ k => V_aload_n (pc2 := 280) (dk D_X13_controls 125 rfl) rfl (V_lg 0 rfl) rfl k) ?_
        refine A_p (fun T Q _ _ k => V_iload_n (pc2 := 281) (dk D_X13_controls 126 rfl) rfl (V_lg 1 rfl) rfl k) ?_
        refine A_p (fun T Q _ _ k => V_iload (pc2 := 283) (dk D_X13_controls 127 rfl) (V_lg 7 rfl) rfl k) ?_
        refine A_p (fun T Q _ _ k => V_iconst (x := 0) (pc2 := 284) (dk D_X13_controls 128 rfl) (by decide) rfl k) ?_
        refine A_p (fun T Q _ _ k => V_iconst (x := 0) (pc2 := 285) (dk D_X13_controls 129 rfl) (by decide) rfl k) ?_
        obtain ⟨e80, he81, hc82⟩ := h
        refine A_call (st := []) (pc2 := 288) (fun T Q Qc L hc k => V_callV (as := [_, _, _, _]) (st := []) (M' := MX13_finishes) (ci := 13) (pc2 := 288) (dk D_X13_controls 130 rfl) ml_13_539 mv_X13_finishes rfl rfl (by decide) rfl (Nat.le_of_ble_eq_true rfl) rfl he81 L.2.1 hc k) hc82 (aRV.k fun  s83 h => ?_)
        refine A_p (fun T Q _ _ k => V_goto (tgt := 449) (dk D_X13_controls 131 rfl) (by decide) k) ?_
        refine A_p (fun T Q _ _ k => V_pick [0, 1, 2, 3, 4, 5, 6] (lv2 := [(0, _), (1, _), (2, _), (3, _), (4, _), (5, _), (6, _)]) rfl k) ?_
        exact h
    · have hx : x3 = 30 := Int32.toInt_inj.mp (by rw [q2]; decide)
      have h := h.2.2.2.2.2.2.2.2.2.1 hx
      refine A_p (fun T Q _ _ k => V_sipush (x := 1500) (pc2 := 321) (dk D_X13_controls 149 rfl) (by decide) rfl k) ?_
      refine A_p (fun T Q _ _ k => V_iload (pc2 := 323) (dk D_X13_controls 150 rfl) (V_lg 6 rfl) rfl k) ?_
      refine A_p (fun T Q _ _ k => V_imul (pc2 := 324) (dk D_X13_controls 151 rfl) rfl k) ?_
      refine A_p (fun T Q _ _ k => V_aload_n (pc2 := 325) (dk D_X13_controls 152 rfl) rfl (V_lg 0 rfl) rfl k) ?_
      refine A_ar (pc2 := 328) (a := 52) 68 (dk D_X13_controls 153 rfl) fl_13_219 (by decide) (by decide) rfl (fun _ => rfl) rfl ?_
      refine A_p (fun T Q _ _ k => V_iload (pc2 := 330) (dk D_X13_controls 154 rfl) (V_lg 6 rfl) rfl k) ?_
      obtain ⟨h84, h⟩ := h
      refine A_ild (pc2 := 331) 68 (dk D_X13_controls 155 rfl) rfl (by decide) rfl (by decide) rfl rfl h84 ?_
      refine A_p (fun T Q _ _ k => V_iadd (pc2 := 332) (dk D_X13_controls 156 rfl) rfl k) ?_
      refine A_p (fun T Q _ _ k => V_iconst (x := 1) (pc2 := 333) (dk D_X13_controls 157 rfl) (by decide) rfl k) ?_
      refine A_p (fun T Q _ _ k => V_isub (pc2 := 334) (dk D_X13_controls 158 rfl) rfl k) ?_
      refine A_p (fun T Q _ _ k => V_istore (pc2 := 336) (lv2 := [(0, _), (1, _), (2, _), (3, _), (4, _), (5, _), (6, _), (10, _)]) (dk D_X13_controls 159 rfl) (by decide) rfl rfl k) ?_
      refine A_p (fun T Q _ _ k => V_aload_n (pc2 := 337) (dk D_X13_controls 160 rfl) rfl (V_lg 0 rfl) rfl k) ?_
      refine A_ar (pc2 := 340) (a := 55) 71 (dk D_X13_controls 161 rfl) fl_13_228 (by decide) (by decide) rfl (fun _ => rfl) rfl ?_
      refine A_p (fun T Q _ _ k => V_iload (pc2 := 342) (dk D_X13_controls 162 rfl) (V_lg 7 rfl) rfl k) ?_
      obtain ⟨h85, h⟩ := h
      refine A_ild (pc2 := 343) 71 (dk D_X13_controls 163 rfl) rfl (by decide) rfl (by decide) rfl rfl h85 ?_
      refine A_p (fun T Q _ _ k => V_istore (pc2 := 345) (lv2 := [(0, _), (1, _), (2, _), (3, _), (4, _), (5, _), (6, _), (10, _), (11, _)]) (dk D_X13_controls 164 rfl) (by decide) rfl rfl k) ?_
      refine A_p (fun T Q _ _ k => V_aload_n (pc2 := 346) (dk D_X13_controls 165 rfl) rfl (V_lg 0 rfl) rfl k) ?_
      refine A_ar (pc2 := 349) (a := 56) 72 (dk D_X13_controls 166 rfl) fl_13_231 (by decide) (by decide) rfl (fun _ => rfl) rfl ?_
      refine A_p (fun T Q _ _ k => V_iload (pc2 := 351) (dk D_X13_controls 167 rfl) (V_lg 7 rfl) rfl k) ?_
      obtain ⟨h86, h⟩ := h
      refine A_ild (pc2 := 352) 72 (dk D_X13_controls 168 rfl) rfl (by decide) rfl (by decide) rfl rfl h86 ?_
      refine A_p (fun T Q _ _ k => V_istore (pc2 := 354) (lv2 := [(0, _), (1, _), (2, _), (3, _), (4, _), (5, _), (6, _), (10, _), (11, _), (12, _)]) (dk D_X13_controls 169 rfl) (by decide) rfl rfl k) ?_
      refine A_p (fun T Q _ _ k => V_aload_n (pc2 := 355) (dk D_X13_controls 170 rfl) rfl (V_lg 0 rfl) rfl k) ?_
      refine A_ar (pc2 := 358) (a := 52) 68 (dk D_X13_controls 171 rfl) fl_13_219 (by decide) (by decide) rfl (fun _ => rfl) rfl ?_
      refine A_p (fun T Q _ _ k => V_iload (pc2 := 360) (dk D_X13_controls 172 rfl) (V_lg 6 rfl) rfl k) ?_
      refine A_p (fun T Q _ _ k => V_dup2 (pc2 := 361) (dk D_X13_controls 173 rfl) rfl rfl rfl k) ?_
      obtain ⟨h87, h⟩ := h
      refine A_ild (pc2 := 362) 68 (dk D_X13_controls 174 rfl) rfl (by decide) rfl (by decide) rfl rfl h87 ?_
      refine A_p (fun T Q _ _ k => V_iconst (x := 1) (pc2 := 363) (dk D_X13_controls 175 rfl) (by decide) rfl k) ?_
      refine A_p (fun T Q _ _ k => V_isub (pc2 := 364) (dk D_X13_controls 176 rfl) rfl k) ?_
      obtain ⟨h88, h⟩ := h
      refine A_ist (pc2 := 365) 68 (dk D_X13_controls 177 rfl) rfl (by decide) rfl (by decide) rfl rfl h88 ?_
      have h := h _ rfl
      refine A_p (fun T Q _ _ k => V_aload_n (pc2 := 366) (dk D_X13_controls 178 rfl) rfl (V_lg 0 rfl) rfl k) ?_
      refine A_ar (pc2 := 369) (a := 46) 62 (dk D_X13_controls 179 rfl) fl_13_201 (by decide) (by decide) rfl (fun _ => rfl) rfl ?_
      refine A_p (fun T Q _ _ k => V_iload_n (pc2 := 370) (dk D_X13_controls 180 rfl) rfl (V_lg 2 rfl) rfl k) ?_
      refine A_p (fun T Q _ _ k => V_aload_n (pc2 := 371) (dk D_X13_controls 181 rfl) rfl (V_lg 0 rfl) rfl k) ?_
      refine A_ar (pc2 := 374) (a := 22) 28 (dk D_X13_controls 182 rfl) fl_13_128 (by decide) (by decide) rfl (fun _ => rfl) rfl ?_
      refine A_p (fun T Q _ _ k => V_iload (pc2 := 376) (dk D_X13_controls 183 rfl) (V_lg 4 rfl) rfl k) ?_
      obtain ⟨h90, h⟩ := h
      refine A_ild (pc2 := 377) 28 (dk D_X13_controls 184 rfl) rfl (by decide) rfl (by decide) rfl rfl h90 ?_
      obtain ⟨h91, h⟩ := h
      refine A_ist (pc2 := 378) 62 (dk D_X13_controls 185 rfl) rfl (by decide) rfl (by decide) rfl rfl h91 ?_
      have h := h _ rfl
      refine A_p (fun T Q _ _ k => V_iload (pc2 := 380) (dk D_X13_controls 186 rfl) (V_lg 8 rfl) rfl k) ?_
      refine A_p (fun T Q _ _ k => V_iconst (x := 1) (pc2 := 381) (dk D_X13_controls 187 rfl) (by decide) rfl k) ?_
      refine A_if (pa := 384) (pb := 394) (fun T Q k1 k2 => V_cmpne (tgt := 394) (pc2 := 384) (dk D_X13_controls 188 rfl) (by decide) rfl (fun q => k2 q) (fun q => k1 q)) (fun q93 => ?_) (fun q93 => ?_)
      · have h := h.1 q93
        refine A_p (fun T Q _ _ k => V_aload_n (pc2 := 385) (dk D_X13_controls 189 rfl) rfl (V_lg 0 rfl) rfl k) ?_
        refine A_p (fun T Q _ _ k => V_iload_n (pc2 := 386) (dk D_X13_controls 190 rfl) rfl (V_lg 1 rfl) rfl k) ?_
        refine A_p (fun T Q _ _ k => V_iload (pc2 := 388) (dk D_X13_controls 191 rfl) (V_lg 9 rfl) rfl k) ?_
        obtain ⟨e94, he95, hc96⟩ := h
        refine A_call (st := []) (pc2 := 391) (fun T Q Qc L hc k => V_callV (as := [_, _]) (st := []) (M' := MX13_raise) (ci := 13) (pc2 := 391) (dk D_X13_controls 192 rfl) ml_13_529 mv_X13_raise rfl rfl (by decide) rfl (Nat.le_of_ble_eq_true rfl) rfl he95 L.2.1 hc k) hc96 (aRV.k fun  s97 h => ?_)
        refine A_p (fun T Q _ _ k => V_goto (tgt := 449) (dk D_X13_controls 193 rfl) (by decide) k) ?_
        refine A_p (fun T Q _ _ k => V_pick [0, 1, 2, 3, 4, 5, 6] (lv2 := [(0, _), (1, _), (2, _), (3, _), (4, _), (5, _), (6, _)]) rfl k) ?_
        exact h
      · have h := h.2 q93
        refine A_p (fun T Q _ _ k => V_iload (pc2 := 396) (dk D_X13_controls 194 rfl) (V_lg 8 rfl) rfl k) ?_
        refine A_p (fun T Q _ _ k => V_iconst (x := 2) (pc2 := 397) (dk D_X13_controls 195 rfl) (by decide) rfl k) ?_
        refine A_if (pa := 400) (pb := 449) (fun T Q k1 k2 => V_cmpne (tgt := 449) (pc2 := 400) (dk D_X13_controls 196 rfl) (by decide) rfl (fun q => k2 q) (fun q => k1 q)) (fun q98 => ?_) (fun q98 => ?_)
        · have h := h.1 q98
          refine A_p (fun T Q _ _ k => V_aload_n (pc2 := 401) (dk D_X13_controls 197 rfl) rfl (V_lg 0 rfl) rfl k) ?_
          refine A_p (fun T Q _ _ k => V_iload_n (pc2 := 402) (dk D_X13_controls 198 rfl) rfl (V_lg 1 rfl) rfl k) ?_
          refine A_p (fun T Q _ _ k => V_iload (pc2 := 404) (dk D_X13_controls 199 rfl) (V_lg 9 rfl) rfl k) ?_
          obtain ⟨e99, he100, hc101⟩ := h
          refine A_call (st := []) (pc2 := 407) (fun T Q Qc L hc k => V_callS (as := [_, _, _]) (st := []) (M' := MX13_gives) (pc2 := 407) (dk D_X13_controls 200 rfl) ml_13_610 mv_X13_gives rfl rfl (Nat.le_of_ble_eq_true rfl) rfl he100 hc k) hc101 (aRV.k fun  s102 h => ?_)
          refine A_p (fun T Q _ _ k => V_goto (tgt := 449) (dk D_X13_controls 201 rfl) (by decide) k) ?_
          refine A_p (fun T Q _ _ k => V_pick [0, 1, 2, 3, 4, 5, 6] (lv2 := [(0, _), (1, _), (2, _), (3, _), (4, _), (5, _), (6, _)]) rfl k) ?_
          exact h
        · have h := h.2 q98
          refine A_p (fun T Q _ _ k => V_pick [0, 1, 2, 3, 4, 5, 6] (lv2 := [(0, _), (1, _), (2, _), (3, _), (4, _), (5, _), (6, _)]) rfl k) ?_
          exact h
    · have hx : x3 = 31 := Int32.toInt_inj.mp (by rw [q2]; decide)
      have h := h.2.2.2.2.2.2.2.2.2.2.1 hx
      refine A_p (fun T Q _ _ k => V_aload_n (pc2 := 411) (dk D_X13_controls 202 rfl) rfl (V_lg 0 rfl) rfl k) ?_
      refine A_ar (pc2 := 414) (a := 50) 66 (dk D_X13_controls 203 rfl) fl_13_213 (by decide) (by decide) rfl (fun _ => rfl) rfl ?_
      refine A_p (fun T Q _ _ k => V_bipush (x := 40) (pc2 := 416) (dk D_X13_controls 204 rfl) (by decide) rfl k) ?_
      refine A_p (fun T Q _ _ k => V_iload_n (pc2 := 417) (dk D_X13_controls 205 rfl) rfl (V_lg 2 rfl) rfl k) ?_
      refine A_p (fun T Q _ _ k => V_imul (pc2 := 418) (dk D_X13_controls 206 rfl) rfl k) ?_
      refine A_p (fun T Q _ _ k => V_iload (pc2 := 420) (dk D_X13_controls 207 rfl) (V_lg 4 rfl) rfl k) ?_
      refine A_p (fun T Q _ _ k => V_iadd (pc2 := 421) (dk D_X13_controls 208 rfl) rfl k) ?_
      refine A_p (fun T Q _ _ k => V_aload_n (pc2 := 422) (dk D_X13_controls 209 rfl) rfl (V_lg 0 rfl) rfl k) ?_
      refine A_p (fun T Q _ _ k => V_iload_n (pc2 := 423) (dk D_X13_controls 210 rfl) rfl (V_lg 1 rfl) rfl k) ?_
      obtain ⟨e103, he104, hc105⟩ := h
      refine A_call (st := [_, _]) (pc2 := 426) (fun T Q Qc L hc k => V_callV (as := [_]) (st := [_, _]) (M' := MX13_pop) (ci := 13) (pc2 := 426) (dk D_X13_controls 211 rfl) ml_13_494 mv_X13_pop rfl rfl (by decide) rfl (Nat.le_of_ble_eq_true rfl) rfl he104 L.2.1 hc k) hc105 (aRI.k fun y106 s107 h => ?_)
      obtain ⟨h108, h⟩ := h
      refine A_ist (pc2 := 427) 66 (dk D_X13_controls 212 rfl) rfl (by decide) rfl (by decide) rfl rfl h108 ?_
      have h := h _ rfl
      refine A_p (fun T Q _ _ k => V_goto (tgt := 449) (dk D_X13_controls 213 rfl) (by decide) k) ?_
      exact h
theorem a_controls_126 {X : Cx} {b d : Nat} {σ : Rm} {Q : Res → Rm → Prop} (x1 : Int32) (x2 : Int32) (x3 : Int32) (x4 : Int32) (x5 : Int32) (x6 : Int32) (t1 : Int32) (t2 : Int32) (h : (vp_in t1 720) ∧ ∀ s2 : Rm, s2 = wI σ 62 ((t1 : Int32).toNatClampNeg) t2 → A X b d MX13_controls 449 [(0, vR b), (1, vI x1), (2, vI x2), (3, vI x3), (4, vI x4), (5, vI x5), (6, vI x6)] [] s2 Q) : A X b d MX13_controls 126 [(0, vR b), (1, vI x1), (2, vI x2), (3, vI x3), (4, vI x4), (5, vI x5), (6, vI x6)] [vI t2, vI t1, vR (b + 46)] σ Q := by
  obtain ⟨h1, h⟩ := h
  refine A_ist (pc2 := 127) 62 (dk D_X13_controls 38 rfl) rfl (by decide) rfl (by decide) rfl rfl h1 ?_
  have h := h _ rfl
  refine A_p (fun T Q _ _ k => V_goto (tgt := 449) (dk D_X13_controls 39 rfl) (by decide) k) ?_
  exact h
theorem a_controls_169 {X : Cx} {b d : Nat} {σ : Rm} {Q : Res → Rm → Prop} (x1 : Int32) (x2 : Int32) (x3 : Int32) (x4 : Int32) (x5 : Int32) (x6 : Int32) (t1 : Int32) (t3 : Int32) (t4 : Int32) (t5 : Int32) (t6 : Int32) (t7 : Int32) (h : ∃ e1 : Nat, e1 + 1 ≤ d ∧ AC X b e1 MX13_failure [vR b, vI t3, vI t4, vI t5, vI t6, vI t7] σ (aRI fun y4 s5 => ∃ e6 : Nat, e6 + 1 ≤ d ∧ AC X b e6 MX13_raise [vR b, vI t1, vI y4] s5 (aRV fun  s9 => A X b d MX13_controls 449 [(0, vR b), (1, vI x1), (2, vI x2), (3, vI x3), (4, vI x4), (5, vI x5), (6, vI x6)] [] s9 Q))) : A X b d MX13_controls 169 [(0, vR b), (1, vI x1), (2, vI x2), (3, vI x3), (4, vI x4), (5, vI x5), (6, vI x6)] [vI t7, vI t6, vI t5, vI t4, vI t3, vR b, vI t1, vR b] σ Q := by
  obtain ⟨e1, he2, hc3⟩ := h
  refine A_call (st := [_, _]) (pc2 := 172) (fun T Q Qc L hc k => V_callV (as := [_, _, _, _, _]) (st := [_, _]) (M' := MX13_failure) (ci := 13) (pc2 := 172) (dk D_X13_controls 64 rfl) ml_13_525 mv_X13_failure rfl rfl (by decide) rfl (Nat.le_of_ble_eq_true rfl) rfl he2 L.2.1 hc k) hc3 (aRI.k fun y4 s5 h => ?_)
  obtain ⟨e6, he7, hc8⟩ := h
  refine A_call (st := []) (pc2 := 175) (fun T Q Qc L hc k => V_callV (as := [_, _]) (st := []) (M' := MX13_raise) (ci := 13) (pc2 := 175) (dk D_X13_controls 65 rfl) ml_13_529 mv_X13_raise rfl rfl (by decide) rfl (Nat.le_of_ble_eq_true rfl) rfl he7 L.2.1 hc k) hc8 (aRV.k fun  s9 h => ?_)
  refine A_p (fun T Q _ _ k => V_goto (tgt := 449) (dk D_X13_controls 66 rfl) (by decide) k) ?_
  exact h
theorem a_controls_449 {X : Cx} {b d : Nat} {σ : Rm} {Q : Res → Rm → Prop} (x1 : Int32) (x2 : Int32) (x3 : Int32) (x4 : Int32) (x5 : Int32) (x6 : Int32) (h : Q (.inl none) σ) : A X b d MX13_controls 449 [(0, vR b), (1, vI x1), (2, vI x2), (3, vI x3), (4, vI x4), (5, vI x5), (6, vI x6)] [] σ Q := by
  exact A_ret (fun T Q _ k => V_return (dk D_X13_controls 227 rfl) rfl k) h
theorem a_tells_0 {X : Cx} {b d : Nat} {σ : Rm} {Q : Res → Rm → Prop} (x1 : Int32) (x2 : Int32) (h : ((300 ≤ (sI σ 80) → A X b d MX13_tells 30 [(0, vR b), (1, vI x1), (2, vI x2)] [] σ Q) ∧ (¬ 300 ≤ (sI σ 80) → (vp_in (sI σ 80) 300) ∧ ∀ s3 : Rm, s3 = wI σ 81 (((sI σ 80) : Int32).toNatClampNeg) x1 → (vp_in (sI s3 80) 300) ∧ ∀ s5 : Rm, s5 = wI s3 82 (((sI s3 80) : Int32).toNatClampNeg) x2 → A X b d MX13_tells 30 [(0, vR b), (1, vI x1), (2, vI x2)] [] s5 Q))) : A X b d MX13_tells 0 [(0, vR b), (1, vI x1), (2, vI x2)] [] σ Q := by
  refine A_p (fun T Q _ _ k => V_aload_n (pc2 := 1) (dk D_X13_tells 0 rfl) rfl (V_lg 0 rfl) rfl k) ?_
  refine A_sc (pc2 := 4) 80 (dk D_X13_tells 1 rfl) fl_13_479 (by decide) rfl (fun _ => rfl) rfl ?_
  refine A_p (fun T Q _ _ k => V_sipush (x := 300) (pc2 := 7) (dk D_X13_tells 2 rfl) (by decide) rfl k) ?_
  refine A_if (pa := 30) (pb := 10) (fun T Q k1 k2 => V_cmpge (tgt := 30) (pc2 := 10) (dk D_X13_tells 3 rfl) (by decide) rfl (fun q => k1 q) (fun q => k2 q)) (fun q1 => ?_) (fun q1 => ?_)
  · have h := h.1 q1
    exact h
  · have h := h.2 q1
    refine A_p (fun T Q _ _ k => V_aload_n (pc2 := 11) (dk D_X13_tells 4 rfl) rfl (V_lg 0 rfl) rfl k) ?_
    refine A_ar (pc2 := 14) (a := 59) 81 (dk D_X13_tells 5 rfl) fl_13_241 (by decide) (by decide) rfl (fun _ => rfl) rfl ?_
    refine A_p (fun T Q _ _ k => V_aload_n (pc2 := 15) (dk D_X13_tells 6 rfl) rfl (V_lg 0 rfl) rfl k) ?_
    refine A_sc (pc2 := 18) 80 (dk D_X13_tells 7 rfl) fl_13_479 (by decide) rfl (fun _ => rfl) rfl ?_
    refine A_p (fun T Q _ _ k => V_iload_n (pc2 := 19) (dk D_X13_tells 8 rfl) rfl (V_lg 1 rfl) rfl k) ?_
    obtain ⟨h2, h⟩ := h
    refine A_ist (pc2 := 20) 81 (dk D_X13_tells 9 rfl) rfl (by decide) rfl (by decide) rfl rfl h2 ?_
    have h := h _ rfl
    refine A_p (fun T Q _ _ k => V_aload_n (pc2 := 21) (dk D_X13_tells 10 rfl) rfl (V_lg 0 rfl) rfl k) ?_
    refine A_ar (pc2 := 24) (a := 60) 82 (dk D_X13_tells 11 rfl) fl_13_244 (by decide) (by decide) rfl (fun _ => rfl) rfl ?_
    refine A_p (fun T Q _ _ k => V_aload_n (pc2 := 25) (dk D_X13_tells 12 rfl) rfl (V_lg 0 rfl) rfl k) ?_
    refine A_sc (pc2 := 28) 80 (dk D_X13_tells 13 rfl) fl_13_479 (by decide) rfl (fun _ => rfl) rfl ?_
    refine A_p (fun T Q _ _ k => V_iload_n (pc2 := 29) (dk D_X13_tells 14 rfl) rfl (V_lg 2 rfl) rfl k) ?_
    obtain ⟨h4, h⟩ := h
    refine A_ist (pc2 := 30) 82 (dk D_X13_tells 15 rfl) rfl (by decide) rfl (by decide) rfl rfl h4 ?_
    have h := h _ rfl
    exact h
theorem a_tells_30 {X : Cx} {b d : Nat} {σ : Rm} {Q : Res → Rm → Prop} (x1 : Int32) (x2 : Int32) (h : ∀ s1 : Rm, s1 = wS σ 80 ((sI σ 80) + 1) → Q (.inl none) s1) : A X b d MX13_tells 30 [(0, vR b), (1, vI x1), (2, vI x2)] [] σ Q := by
  refine A_p (fun T Q _ _ k => V_aload_n (pc2 := 31) (dk D_X13_tells 16 rfl) rfl (V_lg 0 rfl) rfl k) ?_
  refine A_p (fun T Q _ _ k => V_dup (pc2 := 32) (dk D_X13_tells 17 rfl) rfl rfl k) ?_
  refine A_sc (pc2 := 35) 80 (dk D_X13_tells 18 rfl) fl_13_479 (by decide) rfl (fun _ => rfl) rfl ?_
  refine A_p (fun T Q _ _ k => V_iconst (x := 1) (pc2 := 36) (dk D_X13_tells 19 rfl) (by decide) rfl k) ?_
  refine A_p (fun T Q _ _ k => V_iadd (pc2 := 37) (dk D_X13_tells 20 rfl) rfl k) ?_
  refine A_put (pc2 := 40) 80 (dk D_X13_tells 21 rfl) fl_13_479 (by decide) rfl rfl rfl rfl ?_
  have h := h _ rfl
  exact A_ret (fun T Q _ k => V_return (dk D_X13_tells 22 rfl) rfl k) h
theorem a_goes_0 {X : Cx} {b d : Nat} {σ : Rm} {Q : Res → Rm → Prop}  (h : (((sI σ 77) ≤ 0 → Q (.inl (some (vI (sI σ 78)))) σ) ∧ (¬ (sI σ 77) ≤ 0 → ∃ e2 : Nat, e2 + 1 ≤ d ∧ AC X b e2 MX13_goesOn [vR b] σ (aRV fun  s5 => A X b d MX13_goes 0 [(0, vR b)] [] s5 Q)))) : A X b d MX13_goes 0 [(0, vR b)] [] σ Q := by
  refine A_p (fun T Q _ _ k => V_aload_n (pc2 := 1) (dk D_X13_goes 0 rfl) rfl (V_lg 0 rfl) rfl k) ?_
  refine A_sc (pc2 := 4) 77 (dk D_X13_goes 1 rfl) fl_13_473 (by decide) rfl (fun _ => rfl) rfl ?_
  refine A_if (pa := 14) (pb := 7) (fun T Q k1 k2 => V_ifle (tgt := 14) (pc2 := 7) (dk D_X13_goes 2 rfl) (by decide) rfl (fun q => k1 q) (fun q => k2 q)) (fun q1 => ?_) (fun q1 => ?_)
  · have h := h.1 q1
    refine A_p (fun T Q _ _ k => V_aload_n (pc2 := 15) (dk D_X13_goes 6 rfl) rfl (V_lg 0 rfl) rfl k) ?_
    refine A_sc (pc2 := 18) 78 (dk D_X13_goes 7 rfl) fl_13_519 (by decide) rfl (fun _ => rfl) rfl ?_
    exact A_ret (fun T Q _ k => V_ireturn (dk D_X13_goes 8 rfl) rfl k) h
  · have h := h.2 q1
    refine A_p (fun T Q _ _ k => V_aload_n (pc2 := 8) (dk D_X13_goes 3 rfl) rfl (V_lg 0 rfl) rfl k) ?_
    obtain ⟨e2, he3, hc4⟩ := h
    refine A_call (st := []) (pc2 := 11) (fun T Q Qc L hc k => V_callV (as := []) (st := []) (M' := MX13_goesOn) (ci := 13) (pc2 := 11) (dk D_X13_goes 4 rfl) ml_13_616 mv_X13_goesOn rfl rfl (by decide) rfl (Nat.le_of_ble_eq_true rfl) rfl he3 L.2.1 hc k) hc4 (aRV.k fun  s5 h => ?_)
    refine A_p (fun T Q _ _ k => V_goto (tgt := 0) (dk D_X13_goes 5 rfl) (by decide) k) ?_
    exact h
theorem a_isSilent_0 {X : Cx} {b d : Nat} {σ : Rm} {Q : Res → Rm → Prop}  (h : (((sI σ 46) = 0 → A X b d MX13_isSilent 14 [(0, vR b)] [] σ Q) ∧ (¬ (sI σ 46) = 0 → (((sI σ 76) = 0 → A X b d MX13_isSilent 19 [(0, vR b)] [vI 0] σ Q) ∧ (¬ (sI σ 76) = 0 → A X b d MX13_isSilent 14 [(0, vR b)] [] σ Q))))) : A X b d MX13_isSilent 0 [(0, vR b)] [] σ Q := by
  refine A_p (fun T Q _ _ k => V_aload_n (pc2 := 1) (dk D_X13_isSilent 0 rfl) rfl (V_lg 0 rfl) rfl k) ?_
  refine A_sc (pc2 := 4) 46 (dk D_X13_isSilent 1 rfl) fl_13_448 (by decide) rfl (fun _ => rfl) rfl ?_
  refine A_if (pa := 14) (pb := 7) (fun T Q k1 k2 => V_ifeq (tgt := 14) (pc2 := 7) (dk D_X13_isSilent 2 rfl) (by decide) rfl (fun q => k1 q) (fun q => k2 q)) (fun q1 => ?_) (fun q1 => ?_)
  · have h := h.1 q1
    exact h
  · have h := h.2 q1
    refine A_p (fun T Q _ _ k => V_aload_n (pc2 := 8) (dk D_X13_isSilent 3 rfl) rfl (V_lg 0 rfl) rfl k) ?_
    refine A_sc (pc2 := 11) 76 (dk D_X13_isSilent 4 rfl) fl_13_470 (by decide) rfl (fun _ => rfl) rfl ?_
    refine A_if (pa := 18) (pb := 14) (fun T Q k1 k2 => V_ifeq (tgt := 18) (pc2 := 14) (dk D_X13_isSilent 5 rfl) (by decide) rfl (fun q => k1 q) (fun q => k2 q)) (fun q2 => ?_) (fun q2 => ?_)
    · have h := h.1 q2
      refine A_p (fun T Q _ _ k => V_iconst (x := 0) (pc2 := 19) (dk D_X13_isSilent 8 rfl) (by decide) rfl k) ?_
      exact h
    · have h := h.2 q2
      exact h
theorem a_isSilent_14 {X : Cx} {b d : Nat} {σ : Rm} {Q : Res → Rm → Prop}  (h : A X b d MX13_isSilent 19 [(0, vR b)] [vI 1] σ Q) : A X b d MX13_isSilent 14 [(0, vR b)] [] σ Q := by
  refine A_p (fun T Q _ _ k => V_iconst (x := 1) (pc2 := 15) (dk D_X13_isSilent 6 rfl) (by decide) rfl k) ?_
  refine A_p (fun T Q _ _ k => V_goto (tgt := 19) (dk D_X13_isSilent 7 rfl) (by decide) k) ?_
  exact h
theorem a_isSilent_19 {X : Cx} {b d : Nat} {σ : Rm} {Q : Res → Rm → Prop} (t0 : Int32) (h : (t0 = 0 ∨ t0 = 1) ∧ Q (.inl (some (vI t0))) σ) : A X b d MX13_isSilent 19 [(0, vR b)] [vI t0] σ Q := by
  obtain ⟨h1, h⟩ := h
  exact A_ret (fun T Q _ k => V_zreturn (dk D_X13_isSilent 9 rfl) rfl h1 k) h
theorem a_voice_0 {X : Cx} {b d : Nat} {σ : Rm} {Q : Res → Rm → Prop} (x1 : Int32) (x2 : Int32) (h : ∃ e1 : Nat, e1 + 1 ≤ d ∧ AC X b e1 MX13_isSilent [vR b] σ (aRI fun y4 s5 => ((y4 = 0 → ∃ e7 : Nat, e7 + 1 ≤ d ∧ AC X b e7 MX13_in [vI x1, vI 0, vI ((sI s5 18) - 1)] s5 (aRI fun y10 s11 => ((y10 = 0 → A X b d MX13_voice 33 [(0, vR b), (1, vI x1), (2, vI x2)] [] s11 Q) ∧ (¬ y10 = 0 → (vp_in x1 12) ∧ (((aI s11 19 (x1 : Int32).toNatClampNeg) = 0 → A X b d MX13_voice 33 [(0, vR b), (1, vI x1), (2, vI x2)] [] s11 Q) ∧ (¬ (aI s11 19 (x1 : Int32).toNatClampNeg) = 0 → (((sI s11 47) = 60 → A X b d MX13_voice 53 [(0, vR b), (1, vI x1), (2, vI x2)] [] s11 Q) ∧ (¬ (sI s11 47) = 60 → (((sI s11 48) = 12 → A X b d MX13_voice 53 [(0, vR b), (1, vI x1), (2, vI x2)] [] s11 Q) ∧ (¬ (sI s11 48) = 12 → ∃ e17 : Nat, e17 + 1 ≤ d ∧ AC X b e17 MX13_made [vR b, vI x1, vI x2, vI 0] s11 (aRI fun y20 s21 => A X b d MX13_voice 65 [(0, vR b), (1, vI x1), (2, vI x2)] [vI y20] s21 Q))))))))))) ∧ (¬ y4 = 0 → Q (.inl (some (vI (-2)))) s5)))) : A X b d MX13_voice 0 [(0, vR b), (1, vI x1), (2, vI x2)] [] σ Q := by
  refine A_p (fun T Q _ _ k => V_aload_n (pc2 := 1) (dk D_X13_voice 0 rfl) rfl (V_lg 0 rfl) rfl k) ?_
  obtain ⟨e1, he2, hc3⟩ := h
  refine A_call (st := []) (pc2 := 4) (fun T Q Qc L hc k => V_callV (as := []) (st := []) (M' := MX13_isSilent) (ci := 13) (pc2 := 4) (dk D_X13_voice 1 rfl) ml_13_619 mv_X13_isSilent rfl rfl (by decide) rfl (Nat.le_of_ble_eq_true rfl) rfl he2 L.2.1 hc k) hc3 (aRI.k fun y4 s5 h => ?_)
  refine A_if (pa := 10) (pb := 7) (fun T Q k1 k2 => V_ifeq (tgt := 10) (pc2 := 7) (dk D_X13_voice 2 rfl) (by decide) rfl (fun q => k1 q) (fun q => k2 q)) (fun q6 => ?_) (fun q6 => ?_)
  · have h := h.1 q6
    refine A_p (fun T Q _ _ k => V_iload_n (pc2 := 11) (dk D_X13_voice 5 rfl) rfl (V_lg 1 rfl) rfl k) ?_
    refine A_p (fun T Q _ _ k => V_iconst (x := 0) (pc2 := 12) (dk D_X13_voice 6 rfl) (by decide) rfl k) ?_
    refine A_p (fun T Q _ _ k => V_aload_n (pc2 := 13) (dk D_X13_voice 7 rfl) rfl (V_lg 0 rfl) rfl k) ?_
    refine A_sc (pc2 := 16) 18 (dk D_X13_voice 8 rfl) fl_13_445 (by decide) rfl (fun _ => rfl) rfl ?_
    refine A_p (fun T Q _ _ k => V_iconst (x := 1) (pc2 := 17) (dk D_X13_voice 9 rfl) (by decide) rfl k) ?_
    refine A_p (fun T Q _ _ k => V_isub (pc2 := 18) (dk D_X13_voice 10 rfl) rfl k) ?_
    obtain ⟨e7, he8, hc9⟩ := h
    refine A_call (st := []) (pc2 := 21) (fun T Q Qc L hc k => V_callS (as := [_, _, _]) (st := []) (M' := MX13_in) (pc2 := 21) (dk D_X13_voice 11 rfl) ml_13_292 mv_X13_in rfl rfl (Nat.le_of_ble_eq_true rfl) rfl he8 hc k) hc9 (aRI.k fun y10 s11 h => ?_)
    refine A_if (pa := 33) (pb := 24) (fun T Q k1 k2 => V_ifeq (tgt := 33) (pc2 := 24) (dk D_X13_voice 12 rfl) (by decide) rfl (fun q => k1 q) (fun q => k2 q)) (fun q12 => ?_) (fun q12 => ?_)
    · have h := h.1 q12
      exact h
    · have h := h.2 q12
      refine A_p (fun T Q _ _ k => V_aload_n (pc2 := 25) (dk D_X13_voice 13 rfl) rfl (V_lg 0 rfl) rfl k) ?_
      refine A_ar (pc2 := 28) (a := 14) 19 (dk D_X13_voice 14 rfl) fl_13_104 (by decide) (by decide) rfl (fun _ => rfl) rfl ?_
      refine A_p (fun T Q _ _ k => V_iload_n (pc2 := 29) (dk D_X13_voice 15 rfl) rfl (V_lg 1 rfl) rfl k) ?_
      obtain ⟨h13, h⟩ := h
      refine A_ild (pc2 := 30) 19 (dk D_X13_voice 16 rfl) rfl (by decide) rfl (by decide) rfl rfl h13 ?_
      refine A_if (pa := 33) (pb := 35) (fun T Q k1 k2 => V_ifne (tgt := 35) (pc2 := 33) (dk D_X13_voice 17 rfl) (by decide) rfl (fun q => k2 q) (fun q => k1 q)) (fun q14 => ?_) (fun q14 => ?_)
      · have h := h.1 q14
        exact h
      · have h := h.2 q14
        refine A_p (fun T Q _ _ k => V_aload_n (pc2 := 36) (dk D_X13_voice 20 rfl) rfl (V_lg 0 rfl) rfl k) ?_
        refine A_sc (pc2 := 39) 47 (dk D_X13_voice 21 rfl) fl_13_461 (by decide) rfl (fun _ => rfl) rfl ?_
        refine A_p (fun T Q _ _ k => V_bipush (x := 60) (pc2 := 41) (dk D_X13_voice 22 rfl) (by decide) rfl k) ?_
        refine A_if (pa := 53) (pb := 44) (fun T Q k1 k2 => V_cmpeq (tgt := 53) (pc2 := 44) (dk D_X13_voice 23 rfl) (by decide) rfl (fun q => k1 q) (fun q => k2 q)) (fun q15 => ?_) (fun q15 => ?_)
        · have h := h.1 q15
          exact h
        · have h := h.2 q15
          refine A_p (fun T Q _ _ k => V_aload_n (pc2 := 45) (dk D_X13_voice 24 rfl) rfl (V_lg 0 rfl) rfl k) ?_
          refine A_sc (pc2 := 48) 48 (dk D_X13_voice 25 rfl) fl_13_464 (by decide) rfl (fun _ => rfl) rfl ?_
          refine A_p (fun T Q _ _ k => V_bipush (x := 12) (pc2 := 50) (dk D_X13_voice 26 rfl) (by decide) rfl k) ?_
          refine A_if (pa := 53) (pb := 58) (fun T Q k1 k2 => V_cmpne (tgt := 58) (pc2 := 53) (dk D_X13_voice 27 rfl) (by decide) rfl (fun q => k2 q) (fun q => k1 q)) (fun q16 => ?_) (fun q16 => ?_)
          · have h := h.1 q16
            exact h
          · have h := h.2 q16
            refine A_p (fun T Q _ _ k => V_aload_n (pc2 := 59) (dk D_X13_voice 30 rfl) rfl (V_lg 0 rfl) rfl k) ?_
            refine A_p (fun T Q _ _ k => V_iload_n (pc2 := 60) (dk D_X13_voice 31 rfl) rfl (V_lg 1 rfl) rfl k) ?_
            refine A_p (fun T Q _ _ k => V_iload_n (pc2 := 61) (dk D_X13_voice 32 rfl) rfl (V_lg 2 rfl) rfl k) ?_
            refine A_p (fun T Q _ _ k => V_iconst (x := 0) (pc2 := 62) (dk D_X13_voice 33 rfl) (by decide) rfl k) ?_
            obtain ⟨e17, he18, hc19⟩ := h
            refine A_call (st := []) (pc2 := 65) (fun T Q Qc L hc k => V_callV (as := [_, _, _]) (st := []) (M' := MX13_made) (ci := 13) (pc2 := 65) (dk D_X13_voice 34 rfl) ml_13_604 mv_X13_made rfl rfl (by decide) rfl (Nat.le_of_ble_eq_true rfl) rfl he18 L.2.1 hc k) hc19 (aRI.k fun y20 s21 h => ?_)
            exact h
  · have h := h.2 q6
    refine A_p (fun T Q _ _ k => V_bipush (x := (-2)) (pc2 := 9) (dk D_X13_voice 3 rfl) (by decide) rfl k) ?_
    exact A_ret (fun T Q _ k => V_ireturn (dk D_X13_voice 4 rfl) rfl k) h
theorem a_voice_33 {X : Cx} {b d : Nat} {σ : Rm} {Q : Res → Rm → Prop} (x1 : Int32) (x2 : Int32) (h : Q (.inl (some (vI (-1)))) σ) : A X b d MX13_voice 33 [(0, vR b), (1, vI x1), (2, vI x2)] [] σ Q := by
  refine A_p (fun T Q _ _ k => V_iconst (x := (-1)) (pc2 := 34) (dk D_X13_voice 18 rfl) (by decide) rfl k) ?_
  exact A_ret (fun T Q _ k => V_ireturn (dk D_X13_voice 19 rfl) rfl k) h
theorem a_voice_53 {X : Cx} {b d : Nat} {σ : Rm} {Q : Res → Rm → Prop} (x1 : Int32) (x2 : Int32) (h : A X b d MX13_voice 65 [(0, vR b), (1, vI x1), (2, vI x2)] [vI (-3)] σ Q) : A X b d MX13_voice 53 [(0, vR b), (1, vI x1), (2, vI x2)] [] σ Q := by
  refine A_p (fun T Q _ _ k => V_bipush (x := (-3)) (pc2 := 55) (dk D_X13_voice 28 rfl) (by decide) rfl k) ?_
  refine A_p (fun T Q _ _ k => V_goto (tgt := 65) (dk D_X13_voice 29 rfl) (by decide) k) ?_
  exact h
theorem a_voice_65 {X : Cx} {b d : Nat} {σ : Rm} {Q : Res → Rm → Prop} (x1 : Int32) (x2 : Int32) (t0 : Int32) (h : Q (.inl (some (vI t0))) σ) : A X b d MX13_voice 65 [(0, vR b), (1, vI x1), (2, vI x2)] [vI t0] σ Q := by
  exact A_ret (fun T Q _ k => V_ireturn (dk D_X13_voice 35 rfl) rfl k) h
theorem a_resume_0 {X : Cx} {b d : Nat} {σ : Rm} {Q : Res → Rm → Prop} (x1 : Int32) (x2 : Int32) (h : ∃ e1 : Nat, e1 + 1 ≤ d ∧ AC X b e1 MX13_isSilent [vR b] σ (aRI fun y4 s5 => ((y4 = 0 → ∃ e7 : Nat, e7 + 1 ≤ d ∧ AC X b e7 MX13_isVoice [vR b, vI x1] s5 (aRI fun y10 s11 => ((y10 = 0 → Q (.inl (some (vI (-1)))) s11) ∧ (¬ y10 = 0 → ∃ e13 : Nat, e13 + 1 ≤ d ∧ AC X b e13 MX13_isOver [vR b, vI x1] s11 (aRI fun y16 s17 => ((y16 = 0 → (vp_in x1 61) ∧ ∀ s20 : Rm, s20 = wI s17 54 ((x1 : Int32).toNatClampNeg) 0 → ∃ e21 : Nat, e21 + 1 ≤ d ∧ AC X b e21 MX13_goesTo [vR b, vI 0, vI x1, vI x2] s20 (aRV fun  s24 => ∃ e25 : Nat, e25 + 1 ≤ d ∧ AC X b e25 MX13_goes [vR b] s24 (aRI fun y28 s29 => Q (.inl (some (vI y28))) s29))) ∧ (¬ y16 = 0 → Q (.inl (some (vI 3))) s17))))))) ∧ (¬ y4 = 0 → Q (.inl (some (vI (-2)))) s5)))) : A X b d MX13_resume 0 [(0, vR b), (1, vI x1), (2, vI x2)] [] σ Q := by
  refine A_p (fun T Q _ _ k => V_aload_n (pc2 := 1) (dk D_X13_resume 0 rfl) rfl (V_lg 0 rfl) rfl k) ?_
  obtain ⟨e1, he2, hc3⟩ := h
  refine A_call (st := []) (pc2 := 4) (fun T Q Qc L hc k => V_callV (as := []) (st := []) (M' := MX13_isSilent) (ci := 13) (pc2 := 4) (dk D_X13_resume 1 rfl) ml_13_619 mv_X13_isSilent rfl rfl (by decide) rfl (Nat.le_of_ble_eq_true rfl) rfl he2 L.2.1 hc k) hc3 (aRI.k fun y4 s5 h => ?_)
  refine A_if (pa := 10) (pb := 7) (fun T Q k1 k2 => V_ifeq (tgt := 10) (pc2 := 7) (dk D_X13_resume 2 rfl) (by decide) rfl (fun q => k1 q) (fun q => k2 q)) (fun q6 => ?_) (fun q6 => ?_)
  · have h := h.1 q6
    refine A_p (fun T Q _ _ k => V_aload_n (pc2 := 11) (dk D_X13_resume 5 rfl) rfl (V_lg 0 rfl) rfl k) ?_
    refine A_p (fun T Q _ _ k => V_iload_n (pc2 := 12) (dk D_X13_resume 6 rfl) rfl (V_lg 1 rfl) rfl k) ?_
    obtain ⟨e7, he8, hc9⟩ := h
    refine A_call (st := []) (pc2 := 15) (fun T Q Qc L hc k => V_callV (as := [_]) (st := []) (M' := MX13_isVoice) (ci := 13) (pc2 := 15) (dk D_X13_resume 7 rfl) ml_13_554 mv_X13_isVoice rfl rfl (by decide) rfl (Nat.le_of_ble_eq_true rfl) rfl he8 L.2.1 hc k) hc9 (aRI.k fun y10 s11 h => ?_)
    refine A_if (pa := 18) (pb := 20) (fun T Q k1 k2 => V_ifne (tgt := 20) (pc2 := 18) (dk D_X13_resume 8 rfl) (by decide) rfl (fun q => k2 q) (fun q => k1 q)) (fun q12 => ?_) (fun q12 => ?_)
    · have h := h.1 q12
      refine A_p (fun T Q _ _ k => V_iconst (x := (-1)) (pc2 := 19) (dk D_X13_resume 9 rfl) (by decide) rfl k) ?_
      exact A_ret (fun T Q _ k => V_ireturn (dk D_X13_resume 10 rfl) rfl k) h
    · have h := h.2 q12
      refine A_p (fun T Q _ _ k => V_aload_n (pc2 := 21) (dk D_X13_resume 11 rfl) rfl (V_lg 0 rfl) rfl k) ?_
      refine A_p (fun T Q _ _ k => V_iload_n (pc2 := 22) (dk D_X13_resume 12 rfl) rfl (V_lg 1 rfl) rfl k) ?_
      obtain ⟨e13, he14, hc15⟩ := h
      refine A_call (st := []) (pc2 := 25) (fun T Q Qc L hc k => V_callV (as := [_]) (st := []) (M' := MX13_isOver) (ci := 13) (pc2 := 25) (dk D_X13_resume 13 rfl) ml_13_510 mv_X13_isOver rfl rfl (by decide) rfl (Nat.le_of_ble_eq_true rfl) rfl he14 L.2.1 hc k) hc15 (aRI.k fun y16 s17 h => ?_)
      refine A_if (pa := 30) (pb := 28) (fun T Q k1 k2 => V_ifeq (tgt := 30) (pc2 := 28) (dk D_X13_resume 14 rfl) (by decide) rfl (fun q => k1 q) (fun q => k2 q)) (fun q18 => ?_) (fun q18 => ?_)
      · have h := h.1 q18
        refine A_p (fun T Q _ _ k => V_aload_n (pc2 := 31) (dk D_X13_resume 17 rfl) rfl (V_lg 0 rfl) rfl k) ?_
        refine A_ar (pc2 := 34) (a := 38) 54 (dk D_X13_resume 18 rfl) fl_13_176 (by decide) (by decide) rfl (fun _ => rfl) rfl ?_
        refine A_p (fun T Q _ _ k => V_iload_n (pc2 := 35) (dk D_X13_resume 19 rfl) rfl (V_lg 1 rfl) rfl k) ?_
        refine A_p (fun T Q _ _ k => V_iconst (x := 0) (pc2 := 36) (dk D_X13_resume 20 rfl) (by decide) rfl k) ?_
        obtain ⟨h19, h⟩ := h
        refine A_ist (pc2 := 37) 54 (dk D_X13_resume 21 rfl) rfl (by decide) rfl (by decide) rfl rfl h19 ?_
        have h := h _ rfl
        refine A_p (fun T Q _ _ k => V_aload_n (pc2 := 38) (dk D_X13_resume 22 rfl) rfl (V_lg 0 rfl) rfl k) ?_
        refine A_p (fun T Q _ _ k => V_iconst (x := 0) (pc2 := 39) (dk D_X13_resume 23 rfl) (by decide) rfl k) ?_
        refine A_p (fun T Q _ _ k => V_iload_n (pc2 := 40) (dk D_X13_resume 24 rfl) rfl (V_lg 1 rfl) rfl k) ?_
        refine A_p (fun T Q _ _ k => V_iload_n (pc2 := 41) (dk D_X13_resume 25 rfl) rfl (V_lg 2 rfl) rfl k) ?_
        obtain ⟨e21, he22, hc23⟩ := h
        refine A_call (st := []) (pc2 := 44) (fun T Q Qc L hc k => V_callV (as := [_, _, _]) (st := []) (M' := MX13_goesTo) (ci := 13) (pc2 := 44) (dk D_X13_resume 26 rfl) ml_13_570 mv_X13_goesTo rfl rfl (by decide) rfl (Nat.le_of_ble_eq_true rfl) rfl he22 L.2.1 hc k) hc23 (aRV.k fun  s24 h => ?_)
        refine A_p (fun T Q _ _ k => V_aload_n (pc2 := 45) (dk D_X13_resume 27 rfl) rfl (V_lg 0 rfl) rfl k) ?_
        obtain ⟨e25, he26, hc27⟩ := h
        refine A_call (st := []) (pc2 := 48) (fun T Q Qc L hc k => V_callV (as := []) (st := []) (M' := MX13_goes) (ci := 13) (pc2 := 48) (dk D_X13_resume 28 rfl) ml_13_623 mv_X13_goes rfl rfl (by decide) rfl (Nat.le_of_ble_eq_true rfl) rfl he26 L.2.1 hc k) hc27 (aRI.k fun y28 s29 h => ?_)
        exact A_ret (fun T Q _ k => V_ireturn (dk D_X13_resume 29 rfl) rfl k) h
      · have h := h.2 q18
        refine A_p (fun T Q _ _ k => V_iconst (x := 3) (pc2 := 29) (dk D_X13_resume 15 rfl) (by decide) rfl k) ?_
        exact A_ret (fun T Q _ k => V_ireturn (dk D_X13_resume 16 rfl) rfl k) h
  · have h := h.2 q6
    refine A_p (fun T Q _ _ k => V_bipush (x := (-2)) (pc2 := 9) (dk D_X13_resume 3 rfl) (by decide) rfl k) ?_
    exact A_ret (fun T Q _ k => V_ireturn (dk D_X13_resume 4 rfl) rfl k) h
theorem a_inject_0 {X : Cx} {b d : Nat} {σ : Rm} {Q : Res → Rm → Prop} (x1 : Int32) (x2 : Int32) (x3 : Int32) (h : ∃ e1 : Nat, e1 + 1 ≤ d ∧ AC X b e1 MX13_isSilent [vR b] σ (aRI fun y4 s5 => ((y4 = 0 → ∃ e7 : Nat, e7 + 1 ≤ d ∧ AC X b e7 MX13_isVoice [vR b, vI x1] s5 (aRI fun y10 s11 => ((y10 = 0 → A X b d MX13_inject 28 [(0, vR b), (1, vI x1), (2, vI x2), (3, vI x3)] [] s11 Q) ∧ (¬ y10 = 0 → ∃ e13 : Nat, e13 + 1 ≤ d ∧ AC X b e13 MX13_in [vI x2, vI 0, vI 9] s11 (aRI fun y16 s17 => ((y16 = 0 → A X b d MX13_inject 28 [(0, vR b), (1, vI x1), (2, vI x2), (3, vI x3)] [] s17 Q) ∧ (¬ y16 = 0 → ∃ e19 : Nat, e19 + 1 ≤ d ∧ AC X b e19 MX13_isOver [vR b, vI x1] s17 (aRI fun y22 s23 => ((y22 = 0 → ∃ e25 : Nat, e25 + 1 ≤ d ∧ AC X b e25 MX13_failure [vR b, vI x2, vI x3, vI 0, vI (-9), vI (-9)] s23 (aRI fun y28 s29 => (vp_in x1 61) ∧ (((aI s29 49 (x1 : Int32).toNatClampNeg) = 0 → ∃ e32 : Nat, e32 + 1 ≤ d ∧ AC X b e32 MX13_over [vR b, vI x1, vI 5] s29 (aRV fun  s35 => ∀ s36 : Rm, s36 = wS s35 97 y28 → Q (.inl (some (vI 2))) s36)) ∧ (¬ (aI s29 49 (x1 : Int32).toNatClampNeg) = 0 → ∃ e37 : Nat, e37 + 1 ≤ d ∧ AC X b e37 MX13_thrownInto [vR b, vI 0, vI x1, vI y28] s29 (aRV fun  s40 => ∃ e41 : Nat, e41 + 1 ≤ d ∧ AC X b e41 MX13_goes [vR b] s40 (aRI fun y44 s45 => Q (.inl (some (vI y44))) s45)))))) ∧ (¬ y22 = 0 → Q (.inl (some (vI 3))) s23)))))))))) ∧ (¬ y4 = 0 → Q (.inl (some (vI (-2)))) s5)))) : A X b d MX13_inject 0 [(0, vR b), (1, vI x1), (2, vI x2), (3, vI x3)] [] σ Q := by
  refine A_p (fun T Q _ _ k => V_aload_n (pc2 := 1) (dk D_X13_inject 0 rfl) rfl (V_lg 0 rfl) rfl k) ?_
  obtain ⟨e1, he2, hc3⟩ := h
  refine A_call (st := []) (pc2 := 4) (fun T Q Qc L hc k => V_callV (as := []) (st := []) (M' := MX13_isSilent) (ci := 13) (pc2 := 4) (dk D_X13_inject 1 rfl) ml_13_619 mv_X13_isSilent rfl rfl (by decide) rfl (Nat.le_of_ble_eq_true rfl) rfl he2 L.2.1 hc k) hc3 (aRI.k fun y4 s5 h => ?_)
  refine A_if (pa := 10) (pb := 7) (fun T Q k1 k2 => V_ifeq (tgt := 10) (pc2 := 7) (dk D_X13_inject 2 rfl) (by decide) rfl (fun q => k1 q) (fun q => k2 q)) (fun q6 => ?_) (fun q6 => ?_)
  · have h := h.1 q6
    refine A_p (fun T Q _ _ k => V_aload_n (pc2 := 11) (dk D_X13_inject 5 rfl) rfl (V_lg 0 rfl) rfl k) ?_
    refine A_p (fun T Q _ _ k => V_iload_n (pc2 := 12) (dk D_X13_inject 6 rfl) rfl (V_lg 1 rfl) rfl k) ?_
    obtain ⟨e7, he8, hc9⟩ := h
    refine A_call (st := []) (pc2 := 15) (fun T Q Qc L hc k => V_callV (as := [_]) (st := []) (M' := MX13_isVoice) (ci := 13) (pc2 := 15) (dk D_X13_inject 7 rfl) ml_13_554 mv_X13_isVoice rfl rfl (by decide) rfl (Nat.le_of_ble_eq_true rfl) rfl he8 L.2.1 hc k) hc9 (aRI.k fun y10 s11 h => ?_)
    refine A_if (pa := 28) (pb := 18) (fun T Q k1 k2 => V_ifeq (tgt := 28) (pc2 := 18) (dk D_X13_inject 8 rfl) (by decide) rfl (fun q => k1 q) (fun q => k2 q)) (fun q12 => ?_) (fun q12 => ?_)
    · have h := h.1 q12
      exact h
    · have h := h.2 q12
      refine A_p (fun T Q _ _ k => V_iload_n (pc2 := 19) (dk D_X13_inject 9 rfl) rfl (V_lg 2 rfl) rfl k) ?_
      refine A_p (fun T Q _ _ k => V_iconst (x := 0) (pc2 := 20) (dk D_X13_inject 10 rfl) (by decide) rfl k) ?_
      refine A_p (fun T Q _ _ k => V_bipush (x := 9) (pc2 := 22) (dk D_X13_inject 11 rfl) (by decide) rfl k) ?_
      obtain ⟨e13, he14, hc15⟩ := h
      refine A_call (st := []) (pc2 := 25) (fun T Q Qc L hc k => V_callS (as := [_, _, _]) (st := []) (M' := MX13_in) (pc2 := 25) (dk D_X13_inject 12 rfl) ml_13_292 mv_X13_in rfl rfl (Nat.le_of_ble_eq_true rfl) rfl he14 hc k) hc15 (aRI.k fun y16 s17 h => ?_)
      refine A_if (pa := 28) (pb := 30) (fun T Q k1 k2 => V_ifne (tgt := 30) (pc2 := 28) (dk D_X13_inject 13 rfl) (by decide) rfl (fun q => k2 q) (fun q => k1 q)) (fun q18 => ?_) (fun q18 => ?_)
      · have h := h.1 q18
        exact h
      · have h := h.2 q18
        refine A_p (fun T Q _ _ k => V_aload_n (pc2 := 31) (dk D_X13_inject 16 rfl) rfl (V_lg 0 rfl) rfl k) ?_
        refine A_p (fun T Q _ _ k => V_iload_n (pc2 := 32) (dk D_X13_inject 17 rfl) rfl (V_lg 1 rfl) rfl k) ?_
        obtain ⟨e19, he20, hc21⟩ := h
        refine A_call (st := []) (pc2 := 35) (fun T Q Qc L hc k => V_callV (as := [_]) (st := []) (M' := MX13_isOver) (ci := 13) (pc2 := 35) (dk D_X13_inject 18 rfl) ml_13_510 mv_X13_isOver rfl rfl (by decide) rfl (Nat.le_of_ble_eq_true rfl) rfl he20 L.2.1 hc k) hc21 (aRI.k fun y22 s23 h => ?_)
        refine A_if (pa := 40) (pb := 38) (fun T Q k1 k2 => V_ifeq (tgt := 40) (pc2 := 38) (dk D_X13_inject 19 rfl) (by decide) rfl (fun q => k1 q) (fun q => k2 q)) (fun q24 => ?_) (fun q24 => ?_)
        · have h := h.1 q24
          refine A_p (fun T Q _ _ k => V_aload_n (pc2 := 41) (dk D_X13_inject 22 rfl) rfl (V_lg 0 rfl) rfl k) ?_
          refine A_p (fun T Q _ _ k => V_iload_n (pc2 := 42) (dk D_X13_inject 23 rfl) rfl (V_lg 2 rfl) rfl k) ?_
          refine A_p (fun T Q _ _ k => V_iload_n (pc2 := 43) (dk D_X13_inject 24 rfl) rfl (V_lg 3 rfl) rfl k) ?_
          refine A_p (fun T Q _ _ k => V_iconst (x := 0) (pc2 := 44) (dk D_X13_inject 25 rfl) (by decide) rfl k) ?_
          refine A_p (fun T Q _ _ k => V_bipush (x := (-9)) (pc2 := 46) (dk D_X13_inject 26 rfl) (by decide) rfl k) ?_
          refine A_p (fun T Q _ _ k => V_bipush (x := (-9)) (pc2 := 48) (dk D_X13_inject 27 rfl) (by decide) rfl k) ?_
          obtain ⟨e25, he26, hc27⟩ := h
          refine A_call (st := []) (pc2 := 51) (fun T Q Qc L hc k => V_callV (as := [_, _, _, _, _]) (st := []) (M' := MX13_failure) (ci := 13) (pc2 := 51) (dk D_X13_inject 28 rfl) ml_13_525 mv_X13_failure rfl rfl (by decide) rfl (Nat.le_of_ble_eq_true rfl) rfl he26 L.2.1 hc k) hc27 (aRI.k fun y28 s29 h => ?_)
          refine A_p (fun T Q _ _ k => V_istore (pc2 := 53) (lv2 := [(0, _), (1, _), (2, _), (3, _), (4, _)]) (dk D_X13_inject 29 rfl) (by decide) rfl rfl k) ?_
          refine A_p (fun T Q _ _ k => V_aload_n (pc2 := 54) (dk D_X13_inject 30 rfl) rfl (V_lg 0 rfl) rfl k) ?_
          refine A_ar (pc2 := 57) (a := 33) 49 (dk D_X13_inject 31 rfl) fl_13_161 (by decide) (by decide) rfl (fun _ => rfl) rfl ?_
          refine A_p (fun T Q _ _ k => V_iload_n (pc2 := 58) (dk D_X13_inject 32 rfl) rfl (V_lg 1 rfl) rfl k) ?_
          obtain ⟨h30, h⟩ := h
          refine A_ild (pc2 := 59) 49 (dk D_X13_inject 33 rfl) rfl (by decide) rfl (by decide) rfl rfl h30 ?_
          refine A_if (pa := 62) (pb := 76) (fun T Q k1 k2 => V_ifne (tgt := 76) (pc2 := 62) (dk D_X13_inject 34 rfl) (by decide) rfl (fun q => k2 q) (fun q => k1 q)) (fun q31 => ?_) (fun q31 => ?_)
          · have h := h.1 q31
            refine A_p (fun T Q _ _ k => V_aload_n (pc2 := 63) (dk D_X13_inject 35 rfl) rfl (V_lg 0 rfl) rfl k) ?_
            refine A_p (fun T Q _ _ k => V_iload_n (pc2 := 64) (dk D_X13_inject 36 rfl) rfl (V_lg 1 rfl) rfl k) ?_
            refine A_p (fun T Q _ _ k => V_iconst (x := 5) (pc2 := 65) (dk D_X13_inject 37 rfl) (by decide) rfl k) ?_
            obtain ⟨e32, he33, hc34⟩ := h
            refine A_call (st := []) (pc2 := 68) (fun T Q Qc L hc k => V_callV (as := [_, _]) (st := []) (M' := MX13_over) (ci := 13) (pc2 := 68) (dk D_X13_inject 38 rfl) ml_13_513 mv_X13_over rfl rfl (by decide) rfl (Nat.le_of_ble_eq_true rfl) rfl he33 L.2.1 hc k) hc34 (aRV.k fun  s35 h => ?_)
            refine A_p (fun T Q _ _ k => V_aload_n (pc2 := 69) (dk D_X13_inject 39 rfl) rfl (V_lg 0 rfl) rfl k) ?_
            refine A_p (fun T Q _ _ k => V_iload (pc2 := 71) (dk D_X13_inject 40 rfl) (V_lg 4 rfl) rfl k) ?_
            refine A_put (pc2 := 74) 97 (dk D_X13_inject 41 rfl) fl_13_491 (by decide) rfl rfl rfl rfl ?_
            have h := h _ rfl
            refine A_p (fun T Q _ _ k => V_iconst (x := 2) (pc2 := 75) (dk D_X13_inject 42 rfl) (by decide) rfl k) ?_
            exact A_ret (fun T Q _ k => V_ireturn (dk D_X13_inject 43 rfl) rfl k) h
          · have h := h.2 q31
            refine A_p (fun T Q _ _ k => V_aload_n (pc2 := 77) (dk D_X13_inject 44 rfl) rfl (V_lg 0 rfl) rfl k) ?_
            refine A_p (fun T Q _ _ k => V_iconst (x := 0) (pc2 := 78) (dk D_X13_inject 45 rfl) (by decide) rfl k) ?_
            refine A_p (fun T Q _ _ k => V_iload_n (pc2 := 79) (dk D_X13_inject 46 rfl) rfl (V_lg 1 rfl) rfl k) ?_
            refine A_p (fun T Q _ _ k => V_iload (pc2 := 81) (dk D_X13_inject 47 rfl) (V_lg 4 rfl) rfl k) ?_
            obtain ⟨e37, he38, hc39⟩ := h
            refine A_call (st := []) (pc2 := 84) (fun T Q Qc L hc k => V_callV (as := [_, _, _]) (st := []) (M' := MX13_thrownInto) (ci := 13) (pc2 := 84) (dk D_X13_inject 48 rfl) ml_13_573 mv_X13_thrownInto rfl rfl (by decide) rfl (Nat.le_of_ble_eq_true rfl) rfl he38 L.2.1 hc k) hc39 (aRV.k fun  s40 h => ?_)
            refine A_p (fun T Q _ _ k => V_aload_n (pc2 := 85) (dk D_X13_inject 49 rfl) rfl (V_lg 0 rfl) rfl k) ?_
            obtain ⟨e41, he42, hc43⟩ := h
            refine A_call (st := []) (pc2 := 88) (fun T Q Qc L hc k => V_callV (as := []) (st := []) (M' := MX13_goes) (ci := 13) (pc2 := 88) (dk D_X13_inject 50 rfl) ml_13_623 mv_X13_goes rfl rfl (by decide) rfl (Nat.le_of_ble_eq_true rfl) rfl he42 L.2.1 hc k) hc43 (aRI.k fun y44 s45 h => ?_)
            exact A_ret (fun T Q _ k => V_ireturn (dk D_X13_inject 51 rfl) rfl k) h
        · have h := h.2 q24
          refine A_p (fun T Q _ _ k => V_iconst (x := 3) (pc2 := 39) (dk D_X13_inject 20 rfl) (by decide) rfl k) ?_
          exact A_ret (fun T Q _ k => V_ireturn (dk D_X13_inject 21 rfl) rfl k) h
  · have h := h.2 q6
    refine A_p (fun T Q _ _ k => V_bipush (x := (-2)) (pc2 := 9) (dk D_X13_inject 3 rfl) (by decide) rfl k) ?_
    exact A_ret (fun T Q _ k => V_ireturn (dk D_X13_inject 4 rfl) rfl k) h
theorem a_inject_28 {X : Cx} {b d : Nat} {σ : Rm} {Q : Res → Rm → Prop} (x1 : Int32) (x2 : Int32) (x3 : Int32) (h : Q (.inl (some (vI (-1)))) σ) : A X b d MX13_inject 28 [(0, vR b), (1, vI x1), (2, vI x2), (3, vI x3)] [] σ Q := by
  refine A_p (fun T Q _ _ k => V_iconst (x := (-1)) (pc2 := 29) (dk D_X13_inject 14 rfl) (by decide) rfl k) ?_
  exact A_ret (fun T Q _ k => V_ireturn (dk D_X13_inject 15 rfl) rfl k) h
theorem a_closes__0 {X : Cx} {b d : Nat} {σ : Rm} {Q : Res → Rm → Prop} (x1 : Int32) (x2 : Int32) (h : ∃ e1 : Nat, e1 + 1 ≤ d ∧ AC X b e1 MX13_isOver [vR b, vI x1] σ (aRI fun y4 s5 => ((y4 = 0 → (vp_in x1 61) ∧ (((aI s5 49 (x1 : Int32).toNatClampNeg) = 0 → ∃ e9 : Nat, e9 + 1 ≤ d ∧ AC X b e9 MX13_over [vR b, vI x1, vI 6] s5 (aRV fun  s12 => Q (.inl (some (vI 1))) s12)) ∧ (¬ (aI s5 49 (x1 : Int32).toNatClampNeg) = 0 → (vp_in x1 61) ∧ ∀ s14 : Rm, s14 = wI s5 57 ((x1 : Int32).toNatClampNeg) 1 → ∃ e15 : Nat, e15 + 1 ≤ d ∧ AC X b e15 MX13_failure [vR b, vI 14, vI 0, vI 0, vI (-9), vI (-9)] s14 (aRI fun y18 s19 => ∃ e20 : Nat, e20 + 1 ≤ d ∧ AC X b e20 MX13_thrownInto [vR b, vI 0, vI x1, vI y18] s19 (aRV fun  s23 => ∃ e24 : Nat, e24 + 1 ≤ d ∧ AC X b e24 MX13_goes [vR b] s23 (aRI fun y27 s28 => Q (.inl (some (vI y27))) s28)))))) ∧ (¬ y4 = 0 → Q (.inl (some (vI 0))) s5)))) : A X b d MX13_closes_ 0 [(0, vR b), (1, vI x1), (2, vI x2)] [] σ Q := by
  refine A_p (fun T Q _ _ k => V_aload_n (pc2 := 1) (dk D_X13_closes_ 0 rfl) rfl (V_lg 0 rfl) rfl k) ?_
  refine A_p (fun T Q _ _ k => V_iload_n (pc2 := 2) (dk D_X13_closes_ 1 rfl) rfl (V_lg 1 rfl) rfl k) ?_
  obtain ⟨e1, he2, hc3⟩ := h
  refine A_call (st := []) (pc2 := 5) (fun T Q Qc L hc k => V_callV (as := [_]) (st := []) (M' := MX13_isOver) (ci := 13) (pc2 := 5) (dk D_X13_closes_ 2 rfl) ml_13_510 mv_X13_isOver rfl rfl (by decide) rfl (Nat.le_of_ble_eq_true rfl) rfl he2 L.2.1 hc k) hc3 (aRI.k fun y4 s5 h => ?_)
  refine A_if (pa := 10) (pb := 8) (fun T Q k1 k2 => V_ifeq (tgt := 10) (pc2 := 8) (dk D_X13_closes_ 3 rfl) (by decide) rfl (fun q => k1 q) (fun q => k2 q)) (fun q6 => ?_) (fun q6 => ?_)
  · have h := h.1 q6
    refine A_p (fun T Q _ _ k => V_aload_n (pc2 := 11) (dk D_X13_closes_ 6 rfl) rfl (V_lg 0 rfl) rfl k) ?_
    refine A_ar (pc2 := 14) (a := 33) 49 (dk D_X13_closes_ 7 rfl) fl_13_161 (by decide) (by decide) rfl (fun _ => rfl) rfl ?_
    refine A_p (fun T Q _ _ k => V_iload_n (pc2 := 15) (dk D_X13_closes_ 8 rfl) rfl (V_lg 1 rfl) rfl k) ?_
    obtain ⟨h7, h⟩ := h
    refine A_ild (pc2 := 16) 49 (dk D_X13_closes_ 9 rfl) rfl (by decide) rfl (by decide) rfl rfl h7 ?_
    refine A_if (pa := 19) (pb := 28) (fun T Q k1 k2 => V_ifne (tgt := 28) (pc2 := 19) (dk D_X13_closes_ 10 rfl) (by decide) rfl (fun q => k2 q) (fun q => k1 q)) (fun q8 => ?_) (fun q8 => ?_)
    · have h := h.1 q8
      refine A_p (fun T Q _ _ k => V_aload_n (pc2 := 20) (dk D_X13_closes_ 11 rfl) rfl (V_lg 0 rfl) rfl k) ?_
      refine A_p (fun T Q _ _ k => V_iload_n (pc2 := 21) (dk D_X13_closes_ 12 rfl) rfl (V_lg 1 rfl) rfl k) ?_
      refine A_p (fun T Q _ _ k => V_bipush (x := 6) (pc2 := 23) (dk D_X13_closes_ 13 rfl) (by decide) rfl k) ?_
      obtain ⟨e9, he10, hc11⟩ := h
      refine A_call (st := []) (pc2 := 26) (fun T Q Qc L hc k => V_callV (as := [_, _]) (st := []) (M' := MX13_over) (ci := 13) (pc2 := 26) (dk D_X13_closes_ 14 rfl) ml_13_513 mv_X13_over rfl rfl (by decide) rfl (Nat.le_of_ble_eq_true rfl) rfl he10 L.2.1 hc k) hc11 (aRV.k fun  s12 h => ?_)
      refine A_p (fun T Q _ _ k => V_iconst (x := 1) (pc2 := 27) (dk D_X13_closes_ 15 rfl) (by decide) rfl k) ?_
      exact A_ret (fun T Q _ k => V_ireturn (dk D_X13_closes_ 16 rfl) rfl k) h
    · have h := h.2 q8
      refine A_p (fun T Q _ _ k => V_aload_n (pc2 := 29) (dk D_X13_closes_ 17 rfl) rfl (V_lg 0 rfl) rfl k) ?_
      refine A_ar (pc2 := 32) (a := 41) 57 (dk D_X13_closes_ 18 rfl) fl_13_185 (by decide) (by decide) rfl (fun _ => rfl) rfl ?_
      refine A_p (fun T Q _ _ k => V_iload_n (pc2 := 33) (dk D_X13_closes_ 19 rfl) rfl (V_lg 1 rfl) rfl k) ?_
      refine A_p (fun T Q _ _ k => V_iconst (x := 1) (pc2 := 34) (dk D_X13_closes_ 20 rfl) (by decide) rfl k) ?_
      obtain ⟨h13, h⟩ := h
      refine A_zst (pc2 := 35) 57 (dk D_X13_closes_ 21 rfl) rfl (by decide) rfl (by decide) rfl rfl h13 (Or.inr rfl) ?_
      have h := h _ rfl
      refine A_p (fun T Q _ _ k => V_aload_n (pc2 := 36) (dk D_X13_closes_ 22 rfl) rfl (V_lg 0 rfl) rfl k) ?_
      refine A_p (fun T Q _ _ k => V_iconst (x := 0) (pc2 := 37) (dk D_X13_closes_ 23 rfl) (by decide) rfl k) ?_
      refine A_p (fun T Q _ _ k => V_iload_n (pc2 := 38) (dk D_X13_closes_ 24 rfl) rfl (V_lg 1 rfl) rfl k) ?_
      refine A_p (fun T Q _ _ k => V_aload_n (pc2 := 39) (dk D_X13_closes_ 25 rfl) rfl (V_lg 0 rfl) rfl k) ?_
      refine A_p (fun T Q _ _ k => V_bipush (x := 14) (pc2 := 41) (dk D_X13_closes_ 26 rfl) (by decide) rfl k) ?_
      refine A_p (fun T Q _ _ k => V_iconst (x := 0) (pc2 := 42) (dk D_X13_closes_ 27 rfl) (by decide) rfl k) ?_
      refine A_p (fun T Q _ _ k => V_iconst (x := 0) (pc2 := 43) (dk D_X13_closes_ 28 rfl) (by decide) rfl k) ?_
      refine A_p (fun T Q _ _ k => V_bipush (x := (-9)) (pc2 := 45) (dk D_X13_closes_ 29 rfl) (by decide) rfl k) ?_
      refine A_p (fun T Q _ _ k => V_bipush (x := (-9)) (pc2 := 47) (dk D_X13_closes_ 30 rfl) (by decide) rfl k) ?_
      obtain ⟨e15, he16, hc17⟩ := h
      refine A_call (st := [_, _, _]) (pc2 := 50) (fun T Q Qc L hc k => V_callV (as := [_, _, _, _, _]) (st := [_, _, _]) (M' := MX13_failure) (ci := 13) (pc2 := 50) (dk D_X13_closes_ 31 rfl) ml_13_525 mv_X13_failure rfl rfl (by decide) rfl (Nat.le_of_ble_eq_true rfl) rfl he16 L.2.1 hc k) hc17 (aRI.k fun y18 s19 h => ?_)
      obtain ⟨e20, he21, hc22⟩ := h
      refine A_call (st := []) (pc2 := 53) (fun T Q Qc L hc k => V_callV (as := [_, _, _]) (st := []) (M' := MX13_thrownInto) (ci := 13) (pc2 := 53) (dk D_X13_closes_ 32 rfl) ml_13_573 mv_X13_thrownInto rfl rfl (by decide) rfl (Nat.le_of_ble_eq_true rfl) rfl he21 L.2.1 hc k) hc22 (aRV.k fun  s23 h => ?_)
      refine A_p (fun T Q _ _ k => V_aload_n (pc2 := 54) (dk D_X13_closes_ 33 rfl) rfl (V_lg 0 rfl) rfl k) ?_
      obtain ⟨e24, he25, hc26⟩ := h
      refine A_call (st := []) (pc2 := 57) (fun T Q Qc L hc k => V_callV (as := []) (st := []) (M' := MX13_goes) (ci := 13) (pc2 := 57) (dk D_X13_closes_ 34 rfl) ml_13_623 mv_X13_goes rfl rfl (by decide) rfl (Nat.le_of_ble_eq_true rfl) rfl he25 L.2.1 hc k) hc26 (aRI.k fun y27 s28 h => ?_)
      exact A_ret (fun T Q _ k => V_ireturn (dk D_X13_closes_ 35 rfl) rfl k) h
  · have h := h.2 q6
    refine A_p (fun T Q _ _ k => V_iconst (x := 0) (pc2 := 9) (dk D_X13_closes_ 4 rfl) (by decide) rfl k) ?_
    exact A_ret (fun T Q _ k => V_ireturn (dk D_X13_closes_ 5 rfl) rfl k) h
theorem a_close_0 {X : Cx} {b d : Nat} {σ : Rm} {Q : Res → Rm → Prop} (x1 : Int32) (h : ∃ e1 : Nat, e1 + 1 ≤ d ∧ AC X b e1 MX13_isSilent [vR b] σ (aRI fun y4 s5 => ((y4 = 0 → ∃ e7 : Nat, e7 + 1 ≤ d ∧ AC X b e7 MX13_isVoice [vR b, vI x1] s5 (aRI fun y10 s11 => ((y10 = 0 → A X b d MX13_close 30 [(0, vR b), (1, vI x1)] [vI (-1)] s11 Q) ∧ (¬ y10 = 0 → ∃ e13 : Nat, e13 + 1 ≤ d ∧ AC X b e13 MX13_closes_ [vR b, vI x1, vI 1] s11 (aRI fun y16 s17 => A X b d MX13_close 30 [(0, vR b), (1, vI x1)] [vI y16] s17 Q))))) ∧ (¬ y4 = 0 → A X b d MX13_close 30 [(0, vR b), (1, vI x1)] [vI (-2)] s5 Q)))) : A X b d MX13_close 0 [(0, vR b), (1, vI x1)] [] σ Q := by
  refine A_p (fun T Q _ _ k => V_aload_n (pc2 := 1) (dk D_X13_close 0 rfl) rfl (V_lg 0 rfl) rfl k) ?_
  obtain ⟨e1, he2, hc3⟩ := h
  refine A_call (st := []) (pc2 := 4) (fun T Q Qc L hc k => V_callV (as := []) (st := []) (M' := MX13_isSilent) (ci := 13) (pc2 := 4) (dk D_X13_close 1 rfl) ml_13_619 mv_X13_isSilent rfl rfl (by decide) rfl (Nat.le_of_ble_eq_true rfl) rfl he2 L.2.1 hc k) hc3 (aRI.k fun y4 s5 h => ?_)
  refine A_if (pa := 12) (pb := 7) (fun T Q k1 k2 => V_ifeq (tgt := 12) (pc2 := 7) (dk D_X13_close 2 rfl) (by decide) rfl (fun q => k1 q) (fun q => k2 q)) (fun q6 => ?_) (fun q6 => ?_)
  · have h := h.1 q6
    refine A_p (fun T Q _ _ k => V_aload_n (pc2 := 13) (dk D_X13_close 5 rfl) rfl (V_lg 0 rfl) rfl k) ?_
    refine A_p (fun T Q _ _ k => V_iload_n (pc2 := 14) (dk D_X13_close 6 rfl) rfl (V_lg 1 rfl) rfl k) ?_
    obtain ⟨e7, he8, hc9⟩ := h
    refine A_call (st := []) (pc2 := 17) (fun T Q Qc L hc k => V_callV (as := [_]) (st := []) (M' := MX13_isVoice) (ci := 13) (pc2 := 17) (dk D_X13_close 7 rfl) ml_13_554 mv_X13_isVoice rfl rfl (by decide) rfl (Nat.le_of_ble_eq_true rfl) rfl he8 L.2.1 hc k) hc9 (aRI.k fun y10 s11 h => ?_)
    refine A_if (pa := 20) (pb := 24) (fun T Q k1 k2 => V_ifne (tgt := 24) (pc2 := 20) (dk D_X13_close 8 rfl) (by decide) rfl (fun q => k2 q) (fun q => k1 q)) (fun q12 => ?_) (fun q12 => ?_)
    · have h := h.1 q12
      refine A_p (fun T Q _ _ k => V_iconst (x := (-1)) (pc2 := 21) (dk D_X13_close 9 rfl) (by decide) rfl k) ?_
      refine A_p (fun T Q _ _ k => V_goto (tgt := 30) (dk D_X13_close 10 rfl) (by decide) k) ?_
      exact h
    · have h := h.2 q12
      refine A_p (fun T Q _ _ k => V_aload_n (pc2 := 25) (dk D_X13_close 11 rfl) rfl (V_lg 0 rfl) rfl k) ?_
      refine A_p (fun T Q _ _ k => V_iload_n (pc2 := 26) (dk D_X13_close 12 rfl) rfl (V_lg 1 rfl) rfl k) ?_
      refine A_p (fun T Q _ _ k => V_iconst (x := 1) (pc2 := 27) (dk D_X13_close 13 rfl) (by decide) rfl k) ?_
      obtain ⟨e13, he14, hc15⟩ := h
      refine A_call (st := []) (pc2 := 30) (fun T Q Qc L hc k => V_callV (as := [_, _]) (st := []) (M' := MX13_closes_) (ci := 13) (pc2 := 30) (dk D_X13_close 14 rfl) ml_13_626 mv_X13_closes_ rfl rfl (by decide) rfl (Nat.le_of_ble_eq_true rfl) rfl he14 L.2.1 hc k) hc15 (aRI.k fun y16 s17 h => ?_)
      exact h
  · have h := h.2 q6
    refine A_p (fun T Q _ _ k => V_bipush (x := (-2)) (pc2 := 9) (dk D_X13_close 3 rfl) (by decide) rfl k) ?_
    refine A_p (fun T Q _ _ k => V_goto (tgt := 30) (dk D_X13_close 4 rfl) (by decide) k) ?_
    exact h
theorem a_close_30 {X : Cx} {b d : Nat} {σ : Rm} {Q : Res → Rm → Prop} (x1 : Int32) (t0 : Int32) (h : Q (.inl (some (vI t0))) σ) : A X b d MX13_close 30 [(0, vR b), (1, vI x1)] [vI t0] σ Q := by
  exact A_ret (fun T Q _ k => V_ireturn (dk D_X13_close 15 rfl) rfl k) h
theorem a_reach_0 {X : Cx} {b d : Nat} {σ : Rm} {Q : Res → Rm → Prop} (x1 : Int32) (h : ∃ e1 : Nat, e1 + 1 ≤ d ∧ AC X b e1 MX13_isVoice [vR b, vI x1] σ (aRI fun y4 s5 => ((y4 = 0 → A X b d MX13_reach 15 [(0, vR b), (1, vI x1)] [] s5 Q) ∧ (¬ y4 = 0 → (vp_in x1 61) ∧ ∀ s8 : Rm, s8 = wI s5 98 ((x1 : Int32).toNatClampNeg) 1 → A X b d MX13_reach 15 [(0, vR b), (1, vI x1)] [] s8 Q)))) : A X b d MX13_reach 0 [(0, vR b), (1, vI x1)] [] σ Q := by
  refine A_p (fun T Q _ _ k => V_aload_n (pc2 := 1) (dk D_X13_reach 0 rfl) rfl (V_lg 0 rfl) rfl k) ?_
  refine A_p (fun T Q _ _ k => V_iload_n (pc2 := 2) (dk D_X13_reach 1 rfl) rfl (V_lg 1 rfl) rfl k) ?_
  obtain ⟨e1, he2, hc3⟩ := h
  refine A_call (st := []) (pc2 := 5) (fun T Q Qc L hc k => V_callV (as := [_]) (st := []) (M' := MX13_isVoice) (ci := 13) (pc2 := 5) (dk D_X13_reach 2 rfl) ml_13_554 mv_X13_isVoice rfl rfl (by decide) rfl (Nat.le_of_ble_eq_true rfl) rfl he2 L.2.1 hc k) hc3 (aRI.k fun y4 s5 h => ?_)
  refine A_if (pa := 15) (pb := 8) (fun T Q k1 k2 => V_ifeq (tgt := 15) (pc2 := 8) (dk D_X13_reach 3 rfl) (by decide) rfl (fun q => k1 q) (fun q => k2 q)) (fun q6 => ?_) (fun q6 => ?_)
  · have h := h.1 q6
    exact h
  · have h := h.2 q6
    refine A_p (fun T Q _ _ k => V_aload_n (pc2 := 9) (dk D_X13_reach 4 rfl) rfl (V_lg 0 rfl) rfl k) ?_
    refine A_ar (pc2 := 12) (a := 72) 98 (dk D_X13_reach 5 rfl) fl_13_280 (by decide) (by decide) rfl (fun _ => rfl) rfl ?_
    refine A_p (fun T Q _ _ k => V_iload_n (pc2 := 13) (dk D_X13_reach 6 rfl) rfl (V_lg 1 rfl) rfl k) ?_
    refine A_p (fun T Q _ _ k => V_iconst (x := 1) (pc2 := 14) (dk D_X13_reach 7 rfl) (by decide) rfl k) ?_
    obtain ⟨h7, h⟩ := h
    refine A_zst (pc2 := 15) 98 (dk D_X13_reach 8 rfl) rfl (by decide) rfl (by decide) rfl rfl h7 (Or.inr rfl) ?_
    have h := h _ rfl
    exact h
theorem a_reach_15 {X : Cx} {b d : Nat} {σ : Rm} {Q : Res → Rm → Prop} (x1 : Int32) (h : Q (.inl none) σ) : A X b d MX13_reach 15 [(0, vR b), (1, vI x1)] [] σ Q := by
  exact A_ret (fun T Q _ k => V_return (dk D_X13_reach 9 rfl) rfl k) h
theorem a_reachFrom_0 {X : Cx} {b d : Nat} {σ : Rm} {Q : Res → Rm → Prop} (x1 : Int32) (h : (vp_in x1 61) ∧ (((aI σ 49 (x1 : Int32).toNatClampNeg) = 0 → (vp_in x1 61) ∧ (vp_in (aI σ 50 (x1 : Int32).toNatClampNeg) 12) ∧ (((aI σ 20 ((aI σ 50 (x1 : Int32).toNatClampNeg) : Int32).toNatClampNeg) ≤ 0 → A X b d MX13_reachFrom 33 [(0, vR b), (1, vI x1)] [] σ Q) ∧ (¬ (aI σ 20 ((aI σ 50 (x1 : Int32).toNatClampNeg) : Int32).toNatClampNeg) ≤ 0 → (vp_in x1 61) ∧ ∃ e7 : Nat, e7 + 1 ≤ d ∧ AC X b e7 MX13_reach [vR b, vI (aI σ 51 (x1 : Int32).toNatClampNeg)] σ (aRV fun  s10 => A X b d MX13_reachFrom 33 [(0, vR b), (1, vI x1)] [] s10 Q)))) ∧ (¬ (aI σ 49 (x1 : Int32).toNatClampNeg) = 0 → A X b d MX13_reachFrom 36 [(0, vR b), (1, vI x1), (2, vI 0)] [] σ Q))) : A X b d MX13_reachFrom 0 [(0, vR b), (1, vI x1)] [] σ Q := by
  refine A_p (fun T Q _ _ k => V_aload_n (pc2 := 1) (dk D_X13_reachFrom 0 rfl) rfl (V_lg 0 rfl) rfl k) ?_
  refine A_ar (pc2 := 4) (a := 33) 49 (dk D_X13_reachFrom 1 rfl) fl_13_161 (by decide) (by decide) rfl (fun _ => rfl) rfl ?_
  refine A_p (fun T Q _ _ k => V_iload_n (pc2 := 5) (dk D_X13_reachFrom 2 rfl) rfl (V_lg 1 rfl) rfl k) ?_
  obtain ⟨h1, h⟩ := h
  refine A_ild (pc2 := 6) 49 (dk D_X13_reachFrom 3 rfl) rfl (by decide) rfl (by decide) rfl rfl h1 ?_
  refine A_if (pa := 9) (pb := 34) (fun T Q k1 k2 => V_ifne (tgt := 34) (pc2 := 9) (dk D_X13_reachFrom 4 rfl) (by decide) rfl (fun q => k2 q) (fun q => k1 q)) (fun q2 => ?_) (fun q2 => ?_)
  · have h := h.1 q2
    refine A_p (fun T Q _ _ k => V_aload_n (pc2 := 10) (dk D_X13_reachFrom 5 rfl) rfl (V_lg 0 rfl) rfl k) ?_
    refine A_ar (pc2 := 13) (a := 15) 20 (dk D_X13_reachFrom 6 rfl) fl_13_107 (by decide) (by decide) rfl (fun _ => rfl) rfl ?_
    refine A_p (fun T Q _ _ k => V_aload_n (pc2 := 14) (dk D_X13_reachFrom 7 rfl) rfl (V_lg 0 rfl) rfl k) ?_
    refine A_ar (pc2 := 17) (a := 34) 50 (dk D_X13_reachFrom 8 rfl) fl_13_164 (by decide) (by decide) rfl (fun _ => rfl) rfl ?_
    refine A_p (fun T Q _ _ k => V_iload_n (pc2 := 18) (dk D_X13_reachFrom 9 rfl) rfl (V_lg 1 rfl) rfl k) ?_
    obtain ⟨h3, h⟩ := h
    refine A_ild (pc2 := 19) 50 (dk D_X13_reachFrom 10 rfl) rfl (by decide) rfl (by decide) rfl rfl h3 ?_
    obtain ⟨h4, h⟩ := h
    refine A_ild (pc2 := 20) 20 (dk D_X13_reachFrom 11 rfl) rfl (by decide) rfl (by decide) rfl rfl h4 ?_
    refine A_if (pa := 33) (pb := 23) (fun T Q k1 k2 => V_ifle (tgt := 33) (pc2 := 23) (dk D_X13_reachFrom 12 rfl) (by decide) rfl (fun q => k1 q) (fun q => k2 q)) (fun q5 => ?_) (fun q5 => ?_)
    · have h := h.1 q5
      exact h
    · have h := h.2 q5
      refine A_p (fun T Q _ _ k => V_aload_n (pc2 := 24) (dk D_X13_reachFrom 13 rfl) rfl (V_lg 0 rfl) rfl k) ?_
      refine A_p (fun T Q _ _ k => V_aload_n (pc2 := 25) (dk D_X13_reachFrom 14 rfl) rfl (V_lg 0 rfl) rfl k) ?_
      refine A_ar (pc2 := 28) (a := 35) 51 (dk D_X13_reachFrom 15 rfl) fl_13_167 (by decide) (by decide) rfl (fun _ => rfl) rfl ?_
      refine A_p (fun T Q _ _ k => V_iload_n (pc2 := 29) (dk D_X13_reachFrom 16 rfl) rfl (V_lg 1 rfl) rfl k) ?_
      obtain ⟨h6, h⟩ := h
      refine A_ild (pc2 := 30) 51 (dk D_X13_reachFrom 17 rfl) rfl (by decide) rfl (by decide) rfl rfl h6 ?_
      obtain ⟨e7, he8, hc9⟩ := h
      refine A_call (st := []) (pc2 := 33) (fun T Q Qc L hc k => V_callV (as := [_]) (st := []) (M' := MX13_reach) (ci := 13) (pc2 := 33) (dk D_X13_reachFrom 18 rfl) ml_13_629 mv_X13_reach rfl rfl (by decide) rfl (Nat.le_of_ble_eq_true rfl) rfl he8 L.2.1 hc k) hc9 (aRV.k fun  s10 h => ?_)
      exact h
  · have h := h.2 q2
    refine A_p (fun T Q _ _ k => V_iconst (x := 0) (pc2 := 35) (dk D_X13_reachFrom 20 rfl) (by decide) rfl k) ?_
    refine A_p (fun T Q _ _ k => V_istore_n (pc2 := 36) (lv2 := [(0, _), (1, _), (2, _)]) (dk D_X13_reachFrom 21 rfl) rfl (by decide) rfl rfl k) ?_
    exact h
theorem a_reachFrom_33 {X : Cx} {b d : Nat} {σ : Rm} {Q : Res → Rm → Prop} (x1 : Int32) (h : Q (.inl none) σ) : A X b d MX13_reachFrom 33 [(0, vR b), (1, vI x1)] [] σ Q := by
  exact A_ret (fun T Q _ k => V_return (dk D_X13_reachFrom 19 rfl) rfl k) h
theorem a_reachFrom_36 {X : Cx} {b d : Nat} {σ : Rm} {Q : Res → Rm → Prop} (x1 : Int32) (x2 : Int32) (h : (vp_in x1 61) ∧ (vp_in (aI σ 58 (x1 : Int32).toNatClampNeg) 12) ∧ (((aI σ 60 ((aI σ 58 (x1 : Int32).toNatClampNeg) : Int32).toNatClampNeg) ≤ x2 → Q (.inl none) σ) ∧ (¬ (aI σ 60 ((aI σ 58 (x1 : Int32).toNatClampNeg) : Int32).toNatClampNeg) ≤ x2 → (vp_in x1 61) ∧ A X b d MX13_reachFrom 66 [(0, vR b), (1, vI x1), (2, vI x2), (3, vI ((60 * (aI σ 58 (x1 : Int32).toNatClampNeg)) + x2)), (4, vI 0)] [] σ Q))) : A X b d MX13_reachFrom 36 [(0, vR b), (1, vI x1), (2, vI x2)] [] σ Q := by
  refine A_p (fun T Q _ _ k => V_iload_n (pc2 := 37) (dk D_X13_reachFrom 22 rfl) rfl (V_lg 2 rfl) rfl k) ?_
  refine A_p (fun T Q _ _ k => V_aload_n (pc2 := 38) (dk D_X13_reachFrom 23 rfl) rfl (V_lg 0 rfl) rfl k) ?_
  refine A_ar (pc2 := 41) (a := 44) 60 (dk D_X13_reachFrom 24 rfl) fl_13_195 (by decide) (by decide) rfl (fun _ => rfl) rfl ?_
  refine A_p (fun T Q _ _ k => V_aload_n (pc2 := 42) (dk D_X13_reachFrom 25 rfl) rfl (V_lg 0 rfl) rfl k) ?_
  refine A_ar (pc2 := 45) (a := 42) 58 (dk D_X13_reachFrom 26 rfl) fl_13_189 (by decide) (by decide) rfl (fun _ => rfl) rfl ?_
  refine A_p (fun T Q _ _ k => V_iload_n (pc2 := 46) (dk D_X13_reachFrom 27 rfl) rfl (V_lg 1 rfl) rfl k) ?_
  obtain ⟨h1, h⟩ := h
  refine A_ild (pc2 := 47) 58 (dk D_X13_reachFrom 28 rfl) rfl (by decide) rfl (by decide) rfl rfl h1 ?_
  obtain ⟨h2, h⟩ := h
  refine A_ild (pc2 := 48) 60 (dk D_X13_reachFrom 29 rfl) rfl (by decide) rfl (by decide) rfl rfl h2 ?_
  refine A_if (pa := 110) (pb := 51) (fun T Q k1 k2 => V_cmpge (tgt := 110) (pc2 := 51) (dk D_X13_reachFrom 30 rfl) (by decide) rfl (fun q => k1 q) (fun q => k2 q)) (fun q3 => ?_) (fun q3 => ?_)
  · have h := h.1 q3
    exact A_ret (fun T Q _ k => V_return (dk D_X13_reachFrom 65 rfl) rfl k) h
  · have h := h.2 q3
    refine A_p (fun T Q _ _ k => V_bipush (x := 60) (pc2 := 53) (dk D_X13_reachFrom 31 rfl) (by decide) rfl k) ?_
    refine A_p (fun T Q _ _ k => V_aload_n (pc2 := 54) (dk D_X13_reachFrom 32 rfl) rfl (V_lg 0 rfl) rfl k) ?_
    refine A_ar (pc2 := 57) (a := 42) 58 (dk D_X13_reachFrom 33 rfl) fl_13_189 (by decide) (by decide) rfl (fun _ => rfl) rfl ?_
    refine A_p (fun T Q _ _ k => V_iload_n (pc2 := 58) (dk D_X13_reachFrom 34 rfl) rfl (V_lg 1 rfl) rfl k) ?_
    obtain ⟨h4, h⟩ := h
    refine A_ild (pc2 := 59) 58 (dk D_X13_reachFrom 35 rfl) rfl (by decide) rfl (by decide) rfl rfl h4 ?_
    refine A_p (fun T Q _ _ k => V_imul (pc2 := 60) (dk D_X13_reachFrom 36 rfl) rfl k) ?_
    refine A_p (fun T Q _ _ k => V_iload_n (pc2 := 61) (dk D_X13_reachFrom 37 rfl) rfl (V_lg 2 rfl) rfl k) ?_
    refine A_p (fun T Q _ _ k => V_iadd (pc2 := 62) (dk D_X13_reachFrom 38 rfl) rfl k) ?_
    refine A_p (fun T Q _ _ k => V_istore_n (pc2 := 63) (lv2 := [(0, _), (1, _), (2, _), (3, _)]) (dk D_X13_reachFrom 39 rfl) rfl (by decide) rfl rfl k) ?_
    refine A_p (fun T Q _ _ k => V_iconst (x := 0) (pc2 := 64) (dk D_X13_reachFrom 40 rfl) (by decide) rfl k) ?_
    refine A_p (fun T Q _ _ k => V_istore (pc2 := 66) (lv2 := [(0, _), (1, _), (2, _), (3, _), (4, _)]) (dk D_X13_reachFrom 41 rfl) (by decide) rfl rfl k) ?_
    exact h
theorem a_reachFrom_66 {X : Cx} {b d : Nat} {σ : Rm} {Q : Res → Rm → Prop} (x1 : Int32) (x2 : Int32) (x3 : Int32) (x4 : Int32) (h : (vp_in x3 720) ∧ (vp_in (aI σ 61 (x3 : Int32).toNatClampNeg) 12) ∧ (((aI σ 21 ((aI σ 61 (x3 : Int32).toNatClampNeg) : Int32).toNatClampNeg) ≤ x4 → A X b d MX13_reachFrom 36 [(0, vR b), (1, vI x1), (2, vI (x2 + 1))] [] σ Q) ∧ (¬ (aI σ 21 ((aI σ 61 (x3 : Int32).toNatClampNeg) : Int32).toNatClampNeg) ≤ x4 → (vp_in ((40 * x3) + x4) 28800) ∧ ∃ e5 : Nat, e5 + 1 ≤ d ∧ AC X b e5 MX13_reach [vR b, vI (aI σ 66 (((40 * x3) + x4) : Int32).toNatClampNeg)] σ (aRV fun  s8 => A X b d MX13_reachFrom 66 [(0, vR b), (1, vI x1), (2, vI x2), (3, vI x3), (4, vI (x4 + 1))] [] s8 Q)))) : A X b d MX13_reachFrom 66 [(0, vR b), (1, vI x1), (2, vI x2), (3, vI x3), (4, vI x4)] [] σ Q := by
  refine A_p (fun T Q _ _ k => V_iload (pc2 := 68) (dk D_X13_reachFrom 42 rfl) (V_lg 4 rfl) rfl k) ?_
  refine A_p (fun T Q _ _ k => V_aload_n (pc2 := 69) (dk D_X13_reachFrom 43 rfl) rfl (V_lg 0 rfl) rfl k) ?_
  refine A_ar (pc2 := 72) (a := 16) 21 (dk D_X13_reachFrom 44 rfl) fl_13_110 (by decide) (by decide) rfl (fun _ => rfl) rfl ?_
  refine A_p (fun T Q _ _ k => V_aload_n (pc2 := 73) (dk D_X13_reachFrom 45 rfl) rfl (V_lg 0 rfl) rfl k) ?_
  refine A_ar (pc2 := 76) (a := 45) 61 (dk D_X13_reachFrom 46 rfl) fl_13_198 (by decide) (by decide) rfl (fun _ => rfl) rfl ?_
  refine A_p (fun T Q _ _ k => V_iload_n (pc2 := 77) (dk D_X13_reachFrom 47 rfl) rfl (V_lg 3 rfl) rfl k) ?_
  obtain ⟨h1, h⟩ := h
  refine A_ild (pc2 := 78) 61 (dk D_X13_reachFrom 48 rfl) rfl (by decide) rfl (by decide) rfl rfl h1 ?_
  obtain ⟨h2, h⟩ := h
  refine A_ild (pc2 := 79) 21 (dk D_X13_reachFrom 49 rfl) rfl (by decide) rfl (by decide) rfl rfl h2 ?_
  refine A_if (pa := 104) (pb := 82) (fun T Q k1 k2 => V_cmpge (tgt := 104) (pc2 := 82) (dk D_X13_reachFrom 50 rfl) (by decide) rfl (fun q => k1 q) (fun q => k2 q)) (fun q3 => ?_) (fun q3 => ?_)
  · have h := h.1 q3
    refine A_p (fun T Q _ _ k => V_iinc (y := _ + 1) (pc2 := 107) (lv2 := [(0, _), (1, _), (2, _), (3, _), (4, _)]) (dk D_X13_reachFrom 63 rfl) (V_lg 2 rfl) rfl (by decide) rfl rfl k) ?_
    refine A_p (fun T Q _ _ k => V_goto (tgt := 36) (dk D_X13_reachFrom 64 rfl) (by decide) k) ?_
    refine A_p (fun T Q _ _ k => V_pick [0, 1, 2] (lv2 := [(0, _), (1, _), (2, _)]) rfl k) ?_
    exact h
  · have h := h.2 q3
    refine A_p (fun T Q _ _ k => V_aload_n (pc2 := 83) (dk D_X13_reachFrom 51 rfl) rfl (V_lg 0 rfl) rfl k) ?_
    refine A_p (fun T Q _ _ k => V_aload_n (pc2 := 84) (dk D_X13_reachFrom 52 rfl) rfl (V_lg 0 rfl) rfl k) ?_
    refine A_ar (pc2 := 87) (a := 50) 66 (dk D_X13_reachFrom 53 rfl) fl_13_213 (by decide) (by decide) rfl (fun _ => rfl) rfl ?_
    refine A_p (fun T Q _ _ k => V_bipush (x := 40) (pc2 := 89) (dk D_X13_reachFrom 54 rfl) (by decide) rfl k) ?_
    refine A_p (fun T Q _ _ k => V_iload_n (pc2 := 90) (dk D_X13_reachFrom 55 rfl) rfl (V_lg 3 rfl) rfl k) ?_
    refine A_p (fun T Q _ _ k => V_imul (pc2 := 91) (dk D_X13_reachFrom 56 rfl) rfl k) ?_
    refine A_p (fun T Q _ _ k => V_iload (pc2 := 93) (dk D_X13_reachFrom 57 rfl) (V_lg 4 rfl) rfl k) ?_
    refine A_p (fun T Q _ _ k => V_iadd (pc2 := 94) (dk D_X13_reachFrom 58 rfl) rfl k) ?_
    obtain ⟨h4, h⟩ := h
    refine A_ild (pc2 := 95) 66 (dk D_X13_reachFrom 59 rfl) rfl (by decide) rfl (by decide) rfl rfl h4 ?_
    obtain ⟨e5, he6, hc7⟩ := h
    refine A_call (st := []) (pc2 := 98) (fun T Q Qc L hc k => V_callV (as := [_]) (st := []) (M' := MX13_reach) (ci := 13) (pc2 := 98) (dk D_X13_reachFrom 60 rfl) ml_13_629 mv_X13_reach rfl rfl (by decide) rfl (Nat.le_of_ble_eq_true rfl) rfl he6 L.2.1 hc k) hc7 (aRV.k fun  s8 h => ?_)
    refine A_p (fun T Q _ _ k => V_iinc (y := _ + 1) (pc2 := 101) (lv2 := [(0, _), (1, _), (2, _), (3, _), (4, _)]) (dk D_X13_reachFrom 61 rfl) (V_lg 4 rfl) rfl (by decide) rfl rfl k) ?_
    refine A_p (fun T Q _ _ k => V_goto (tgt := 66) (dk D_X13_reachFrom 62 rfl) (by decide) k) ?_
    exact h
theorem a_sweep_0 {X : Cx} {b d : Nat} {σ : Rm} {Q : Res → Rm → Prop}  (h : ∃ e1 : Nat, e1 + 1 ≤ d ∧ AC X b e1 MX13_isSilent [vR b] σ (aRI fun y4 s5 => ((y4 = 0 → A X b d MX13_sweep 12 [(0, vR b), (1, vI 1)] [] s5 Q) ∧ (¬ y4 = 0 → Q (.inl (some (vI (-2)))) s5)))) : A X b d MX13_sweep 0 [(0, vR b)] [] σ Q := by
  refine A_p (fun T Q _ _ k => V_aload_n (pc2 := 1) (dk D_X13_sweep 0 rfl) rfl (V_lg 0 rfl) rfl k) ?_
  obtain ⟨e1, he2, hc3⟩ := h
  refine A_call (st := []) (pc2 := 4) (fun T Q Qc L hc k => V_callV (as := []) (st := []) (M' := MX13_isSilent) (ci := 13) (pc2 := 4) (dk D_X13_sweep 1 rfl) ml_13_619 mv_X13_isSilent rfl rfl (by decide) rfl (Nat.le_of_ble_eq_true rfl) rfl he2 L.2.1 hc k) hc3 (aRI.k fun y4 s5 h => ?_)
  refine A_if (pa := 10) (pb := 7) (fun T Q k1 k2 => V_ifeq (tgt := 10) (pc2 := 7) (dk D_X13_sweep 2 rfl) (by decide) rfl (fun q => k1 q) (fun q => k2 q)) (fun q6 => ?_) (fun q6 => ?_)
  · have h := h.1 q6
    refine A_p (fun T Q _ _ k => V_iconst (x := 1) (pc2 := 11) (dk D_X13_sweep 5 rfl) (by decide) rfl k) ?_
    refine A_p (fun T Q _ _ k => V_istore_n (pc2 := 12) (lv2 := [(0, _), (1, _)]) (dk D_X13_sweep 6 rfl) rfl (by decide) rfl rfl k) ?_
    exact h
  · have h := h.2 q6
    refine A_p (fun T Q _ _ k => V_bipush (x := (-2)) (pc2 := 9) (dk D_X13_sweep 3 rfl) (by decide) rfl k) ?_
    exact A_ret (fun T Q _ k => V_ireturn (dk D_X13_sweep 4 rfl) rfl k) h
theorem a_sweep_12 {X : Cx} {b d : Nat} {σ : Rm} {Q : Res → Rm → Prop} (x1 : Int32) (h : (((sI σ 47) < x1 → A X b d MX13_sweep 48 [(0, vR b), (1, vI 0)] [] σ Q) ∧ (¬ (sI σ 47) < x1 → (vp_in x1 61) ∧ (((aI σ 55 (x1 : Int32).toNatClampNeg) = 0 → A X b d MX13_sweep 39 [(0, vR b), (1, vI x1)] [vI 1, vI x1, vR (b + 72)] σ Q) ∧ (¬ (aI σ 55 (x1 : Int32).toNatClampNeg) = 0 → A X b d MX13_sweep 39 [(0, vR b), (1, vI x1)] [vI 0, vI x1, vR (b + 72)] σ Q))))) : A X b d MX13_sweep 12 [(0, vR b), (1, vI x1)] [] σ Q := by
  refine A_p (fun T Q _ _ k => V_iload_n (pc2 := 13) (dk D_X13_sweep 7 rfl) rfl (V_lg 1 rfl) rfl k) ?_
  refine A_p (fun T Q _ _ k => V_aload_n (pc2 := 14) (dk D_X13_sweep 8 rfl) rfl (V_lg 0 rfl) rfl k) ?_
  refine A_sc (pc2 := 17) 47 (dk D_X13_sweep 9 rfl) fl_13_461 (by decide) rfl (fun _ => rfl) rfl ?_
  refine A_if (pa := 46) (pb := 20) (fun T Q k1 k2 => V_cmpgt (tgt := 46) (pc2 := 20) (dk D_X13_sweep 10 rfl) (by decide) rfl (fun q => k1 q) (fun q => k2 q)) (fun q1 => ?_) (fun q1 => ?_)
  · have h := h.1 q1
    refine A_p (fun T Q _ _ k => V_iconst (x := 0) (pc2 := 47) (dk D_X13_sweep 25 rfl) (by decide) rfl k) ?_
    refine A_p (fun T Q _ _ k => V_istore_n (pc2 := 48) (lv2 := [(0, _), (1, _)]) (dk D_X13_sweep 26 rfl) rfl (by decide) rfl rfl k) ?_
    exact h
  · have h := h.2 q1
    refine A_p (fun T Q _ _ k => V_aload_n (pc2 := 21) (dk D_X13_sweep 11 rfl) rfl (V_lg 0 rfl) rfl k) ?_
    refine A_ar (pc2 := 24) (a := 72) 98 (dk D_X13_sweep 12 rfl) fl_13_280 (by decide) (by decide) rfl (fun _ => rfl) rfl ?_
    refine A_p (fun T Q _ _ k => V_iload_n (pc2 := 25) (dk D_X13_sweep 13 rfl) rfl (V_lg 1 rfl) rfl k) ?_
    refine A_p (fun T Q _ _ k => V_aload_n (pc2 := 26) (dk D_X13_sweep 14 rfl) rfl (V_lg 0 rfl) rfl k) ?_
    refine A_ar (pc2 := 29) (a := 39) 55 (dk D_X13_sweep 15 rfl) fl_13_179 (by decide) (by decide) rfl (fun _ => rfl) rfl ?_
    refine A_p (fun T Q _ _ k => V_iload_n (pc2 := 30) (dk D_X13_sweep 16 rfl) rfl (V_lg 1 rfl) rfl k) ?_
    obtain ⟨h2, h⟩ := h
    refine A_ild (pc2 := 31) 55 (dk D_X13_sweep 17 rfl) rfl (by decide) rfl (by decide) rfl rfl h2 ?_
    refine A_if (pa := 34) (pb := 38) (fun T Q k1 k2 => V_ifne (tgt := 38) (pc2 := 34) (dk D_X13_sweep 18 rfl) (by decide) rfl (fun q => k2 q) (fun q => k1 q)) (fun q3 => ?_) (fun q3 => ?_)
    · have h := h.1 q3
      refine A_p (fun T Q _ _ k => V_iconst (x := 1) (pc2 := 35) (dk D_X13_sweep 19 rfl) (by decide) rfl k) ?_
      refine A_p (fun T Q _ _ k => V_goto (tgt := 39) (dk D_X13_sweep 20 rfl) (by decide) k) ?_
      exact h
    · have h := h.2 q3
      refine A_p (fun T Q _ _ k => V_iconst (x := 0) (pc2 := 39) (dk D_X13_sweep 21 rfl) (by decide) rfl k) ?_
      exact h
theorem a_sweep_39 {X : Cx} {b d : Nat} {σ : Rm} {Q : Res → Rm → Prop} (x1 : Int32) (t1 : Int32) (t2 : Int32) (h : (vp_in t1 61) ∧ (t2 = 0 ∨ t2 = 1) ∧ ∀ s3 : Rm, s3 = wI σ 98 ((t1 : Int32).toNatClampNeg) t2 → A X b d MX13_sweep 12 [(0, vR b), (1, vI (x1 + 1))] [] s3 Q) : A X b d MX13_sweep 39 [(0, vR b), (1, vI x1)] [vI t2, vI t1, vR (b + 72)] σ Q := by
  obtain ⟨h1, h⟩ := h
  obtain ⟨h2, h⟩ := h
  refine A_zst (pc2 := 40) 98 (dk D_X13_sweep 22 rfl) rfl (by decide) rfl (by decide) rfl rfl h1 h2 ?_
  have h := h _ rfl
  refine A_p (fun T Q _ _ k => V_iinc (y := _ + 1) (pc2 := 43) (lv2 := [(0, _), (1, _)]) (dk D_X13_sweep 23 rfl) (V_lg 1 rfl) rfl (by decide) rfl rfl k) ?_
  refine A_p (fun T Q _ _ k => V_goto (tgt := 12) (dk D_X13_sweep 24 rfl) (by decide) k) ?_
  exact h
theorem a_sweep_48 {X : Cx} {b d : Nat} {σ : Rm} {Q : Res → Rm → Prop} (x1 : Int32) (h : (((sI σ 47) ≤ x1 → A X b d MX13_sweep 109 [(0, vR b), (1, vI (sI σ 47)), (2, vI 0), (3, vI 1)] [] σ Q) ∧ (¬ (sI σ 47) ≤ x1 → A X b d MX13_sweep 58 [(0, vR b), (1, vI x1), (2, vI 1)] [] σ Q))) : A X b d MX13_sweep 48 [(0, vR b), (1, vI x1)] [] σ Q := by
  refine A_p (fun T Q _ _ k => V_iload_n (pc2 := 49) (dk D_X13_sweep 27 rfl) rfl (V_lg 1 rfl) rfl k) ?_
  refine A_p (fun T Q _ _ k => V_aload_n (pc2 := 50) (dk D_X13_sweep 28 rfl) rfl (V_lg 0 rfl) rfl k) ?_
  refine A_sc (pc2 := 53) 47 (dk D_X13_sweep 29 rfl) fl_13_461 (by decide) rfl (fun _ => rfl) rfl ?_
  refine A_if (pa := 100) (pb := 56) (fun T Q k1 k2 => V_cmpge (tgt := 100) (pc2 := 56) (dk D_X13_sweep 30 rfl) (by decide) rfl (fun q => k1 q) (fun q => k2 q)) (fun q1 => ?_) (fun q1 => ?_)
  · have h := h.1 q1
    refine A_p (fun T Q _ _ k => V_aload_n (pc2 := 101) (dk D_X13_sweep 53 rfl) rfl (V_lg 0 rfl) rfl k) ?_
    refine A_sc (pc2 := 104) 47 (dk D_X13_sweep 54 rfl) fl_13_461 (by decide) rfl (fun _ => rfl) rfl ?_
    refine A_p (fun T Q _ _ k => V_istore_n (pc2 := 105) (lv2 := [(0, _), (1, _)]) (dk D_X13_sweep 55 rfl) rfl (by decide) rfl rfl k) ?_
    refine A_p (fun T Q _ _ k => V_iconst (x := 0) (pc2 := 106) (dk D_X13_sweep 56 rfl) (by decide) rfl k) ?_
    refine A_p (fun T Q _ _ k => V_istore_n (pc2 := 107) (lv2 := [(0, _), (1, _), (2, _)]) (dk D_X13_sweep 57 rfl) rfl (by decide) rfl rfl k) ?_
    refine A_p (fun T Q _ _ k => V_iconst (x := 1) (pc2 := 108) (dk D_X13_sweep 58 rfl) (by decide) rfl k) ?_
    refine A_p (fun T Q _ _ k => V_istore_n (pc2 := 109) (lv2 := [(0, _), (1, _), (2, _), (3, _)]) (dk D_X13_sweep 59 rfl) rfl (by decide) rfl rfl k) ?_
    exact h
  · have h := h.2 q1
    refine A_p (fun T Q _ _ k => V_iconst (x := 1) (pc2 := 57) (dk D_X13_sweep 31 rfl) (by decide) rfl k) ?_
    refine A_p (fun T Q _ _ k => V_istore_n (pc2 := 58) (lv2 := [(0, _), (1, _), (2, _)]) (dk D_X13_sweep 32 rfl) rfl (by decide) rfl rfl k) ?_
    exact h
theorem a_sweep_58 {X : Cx} {b d : Nat} {σ : Rm} {Q : Res → Rm → Prop} (x1 : Int32) (x2 : Int32) (h : (((sI σ 47) < x2 → A X b d MX13_sweep 48 [(0, vR b), (1, vI (x1 + 1))] [] σ Q) ∧ (¬ (sI σ 47) < x2 → (vp_in x2 61) ∧ (((aI σ 98 (x2 : Int32).toNatClampNeg) = 0 → A X b d MX13_sweep 88 [(0, vR b), (1, vI x1), (2, vI x2)] [] σ Q) ∧ (¬ (aI σ 98 (x2 : Int32).toNatClampNeg) = 0 → ∃ e4 : Nat, e4 + 1 ≤ d ∧ AC X b e4 MX13_isOver [vR b, vI x2] σ (aRI fun y7 s8 => ((y7 = 0 → ∃ e10 : Nat, e10 + 1 ≤ d ∧ AC X b e10 MX13_reachFrom [vR b, vI x2] s8 (aRV fun  s13 => A X b d MX13_sweep 88 [(0, vR b), (1, vI x1), (2, vI x2)] [] s13 Q)) ∧ (¬ y7 = 0 → A X b d MX13_sweep 88 [(0, vR b), (1, vI x1), (2, vI x2)] [] s8 Q)))))))) : A X b d MX13_sweep 58 [(0, vR b), (1, vI x1), (2, vI x2)] [] σ Q := by
  refine A_p (fun T Q _ _ k => V_iload_n (pc2 := 59) (dk D_X13_sweep 33 rfl) rfl (V_lg 2 rfl) rfl k) ?_
  refine A_p (fun T Q _ _ k => V_aload_n (pc2 := 60) (dk D_X13_sweep 34 rfl) rfl (V_lg 0 rfl) rfl k) ?_
  refine A_sc (pc2 := 63) 47 (dk D_X13_sweep 35 rfl) fl_13_461 (by decide) rfl (fun _ => rfl) rfl ?_
  refine A_if (pa := 94) (pb := 66) (fun T Q k1 k2 => V_cmpgt (tgt := 94) (pc2 := 66) (dk D_X13_sweep 36 rfl) (by decide) rfl (fun q => k1 q) (fun q => k2 q)) (fun q1 => ?_) (fun q1 => ?_)
  · have h := h.1 q1
    refine A_p (fun T Q _ _ k => V_iinc (y := _ + 1) (pc2 := 97) (lv2 := [(0, _), (1, _), (2, _)]) (dk D_X13_sweep 51 rfl) (V_lg 1 rfl) rfl (by decide) rfl rfl k) ?_
    refine A_p (fun T Q _ _ k => V_goto (tgt := 48) (dk D_X13_sweep 52 rfl) (by decide) k) ?_
    refine A_p (fun T Q _ _ k => V_pick [0, 1] (lv2 := [(0, _), (1, _)]) rfl k) ?_
    exact h
  · have h := h.2 q1
    refine A_p (fun T Q _ _ k => V_aload_n (pc2 := 67) (dk D_X13_sweep 37 rfl) rfl (V_lg 0 rfl) rfl k) ?_
    refine A_ar (pc2 := 70) (a := 72) 98 (dk D_X13_sweep 38 rfl) fl_13_280 (by decide) (by decide) rfl (fun _ => rfl) rfl ?_
    refine A_p (fun T Q _ _ k => V_iload_n (pc2 := 71) (dk D_X13_sweep 39 rfl) rfl (V_lg 2 rfl) rfl k) ?_
    obtain ⟨h2, h⟩ := h
    refine A_zld (pc2 := 72) 98 (dk D_X13_sweep 40 rfl) rfl (by decide) rfl (by decide) rfl rfl h2 ?_
    refine A_if (pa := 88) (pb := 75) (fun T Q k1 k2 => V_ifeq (tgt := 88) (pc2 := 75) (dk D_X13_sweep 41 rfl) (by decide) rfl (fun q => k1 q) (fun q => k2 q)) (fun q3 => ?_) (fun q3 => ?_)
    · have h := h.1 q3
      exact h
    · have h := h.2 q3
      refine A_p (fun T Q _ _ k => V_aload_n (pc2 := 76) (dk D_X13_sweep 42 rfl) rfl (V_lg 0 rfl) rfl k) ?_
      refine A_p (fun T Q _ _ k => V_iload_n (pc2 := 77) (dk D_X13_sweep 43 rfl) rfl (V_lg 2 rfl) rfl k) ?_
      obtain ⟨e4, he5, hc6⟩ := h
      refine A_call (st := []) (pc2 := 80) (fun T Q Qc L hc k => V_callV (as := [_]) (st := []) (M' := MX13_isOver) (ci := 13) (pc2 := 80) (dk D_X13_sweep 44 rfl) ml_13_510 mv_X13_isOver rfl rfl (by decide) rfl (Nat.le_of_ble_eq_true rfl) rfl he5 L.2.1 hc k) hc6 (aRI.k fun y7 s8 h => ?_)
      refine A_if (pa := 83) (pb := 88) (fun T Q k1 k2 => V_ifne (tgt := 88) (pc2 := 83) (dk D_X13_sweep 45 rfl) (by decide) rfl (fun q => k2 q) (fun q => k1 q)) (fun q9 => ?_) (fun q9 => ?_)
      · have h := h.1 q9
        refine A_p (fun T Q _ _ k => V_aload_n (pc2 := 84) (dk D_X13_sweep 46 rfl) rfl (V_lg 0 rfl) rfl k) ?_
        refine A_p (fun T Q _ _ k => V_iload_n (pc2 := 85) (dk D_X13_sweep 47 rfl) rfl (V_lg 2 rfl) rfl k) ?_
        obtain ⟨e10, he11, hc12⟩ := h
        refine A_call (st := []) (pc2 := 88) (fun T Q Qc L hc k => V_callV (as := [_]) (st := []) (M' := MX13_reachFrom) (ci := 13) (pc2 := 88) (dk D_X13_sweep 48 rfl) ml_13_632 mv_X13_reachFrom rfl rfl (by decide) rfl (Nat.le_of_ble_eq_true rfl) rfl he11 L.2.1 hc k) hc12 (aRV.k fun  s13 h => ?_)
        exact h
      · have h := h.2 q9
        exact h
theorem a_sweep_88 {X : Cx} {b d : Nat} {σ : Rm} {Q : Res → Rm → Prop} (x1 : Int32) (x2 : Int32) (h : A X b d MX13_sweep 58 [(0, vR b), (1, vI x1), (2, vI (x2 + 1))] [] σ Q) : A X b d MX13_sweep 88 [(0, vR b), (1, vI x1), (2, vI x2)] [] σ Q := by
  refine A_p (fun T Q _ _ k => V_iinc (y := _ + 1) (pc2 := 91) (lv2 := [(0, _), (1, _), (2, _)]) (dk D_X13_sweep 49 rfl) (V_lg 2 rfl) rfl (by decide) rfl rfl k) ?_
  refine A_p (fun T Q _ _ k => V_goto (tgt := 58) (dk D_X13_sweep 50 rfl) (by decide) k) ?_
  exact h
theorem a_sweep_109 {X : Cx} {b d : Nat} {σ : Rm} {Q : Res → Rm → Prop} (x1 : Int32) (x2 : Int32) (x3 : Int32) (h : ((x1 < x3 → A X b d MX13_sweep 150 [(0, vR b), (1, vI x1), (2, vI x2), (3, vI 1)] [] σ Q) ∧ (¬ x1 < x3 → (vp_in x3 61) ∧ (((aI σ 98 (x3 : Int32).toNatClampNeg) = 0 → ∃ e4 : Nat, e4 + 1 ≤ d ∧ AC X b e4 MX13_isOver [vR b, vI x3] σ (aRI fun y7 s8 => ((y7 = 0 → A X b d MX13_sweep 141 [(0, vR b), (1, vI x1), (2, vI x2), (3, vI x3)] [vI 0, vI x3, vR (b + 72)] s8 Q) ∧ (¬ y7 = 0 → A X b d MX13_sweep 136 [(0, vR b), (1, vI x1), (2, vI x2), (3, vI x3)] [vI x3, vR (b + 72)] s8 Q)))) ∧ (¬ (aI σ 98 (x3 : Int32).toNatClampNeg) = 0 → A X b d MX13_sweep 136 [(0, vR b), (1, vI x1), (2, vI x2), (3, vI x3)] [vI x3, vR (b + 72)] σ Q))))) : A X b d MX13_sweep 109 [(0, vR b), (1, vI x1), (2, vI x2), (3, vI x3)] [] σ Q := by
  refine A_p (fun T Q _ _ k => V_iload_n (pc2 := 110) (dk D_X13_sweep 60 rfl) rfl (V_lg 3 rfl) rfl k) ?_
  refine A_p (fun T Q _ _ k => V_iload_n (pc2 := 111) (dk D_X13_sweep 61 rfl) rfl (V_lg 1 rfl) rfl k) ?_
  refine A_if (pa := 148) (pb := 114) (fun T Q k1 k2 => V_cmpgt (tgt := 148) (pc2 := 114) (dk D_X13_sweep 62 rfl) (by decide) rfl (fun q => k1 q) (fun q => k2 q)) (fun q1 => ?_) (fun q1 => ?_)
  · have h := h.1 q1
    refine A_p (fun T Q _ _ k => V_iconst (x := 1) (pc2 := 149) (dk D_X13_sweep 81 rfl) (by decide) rfl k) ?_
    refine A_p (fun T Q _ _ k => V_istore_n (pc2 := 150) (lv2 := [(0, _), (1, _), (2, _), (3, _)]) (dk D_X13_sweep 82 rfl) rfl (by decide) rfl rfl k) ?_
    exact h
  · have h := h.2 q1
    refine A_p (fun T Q _ _ k => V_aload_n (pc2 := 115) (dk D_X13_sweep 63 rfl) rfl (V_lg 0 rfl) rfl k) ?_
    refine A_ar (pc2 := 118) (a := 72) 98 (dk D_X13_sweep 64 rfl) fl_13_280 (by decide) (by decide) rfl (fun _ => rfl) rfl ?_
    refine A_p (fun T Q _ _ k => V_iload_n (pc2 := 119) (dk D_X13_sweep 65 rfl) rfl (V_lg 3 rfl) rfl k) ?_
    refine A_p (fun T Q _ _ k => V_aload_n (pc2 := 120) (dk D_X13_sweep 66 rfl) rfl (V_lg 0 rfl) rfl k) ?_
    refine A_ar (pc2 := 123) (a := 72) 98 (dk D_X13_sweep 67 rfl) fl_13_280 (by decide) (by decide) rfl (fun _ => rfl) rfl ?_
    refine A_p (fun T Q _ _ k => V_iload_n (pc2 := 124) (dk D_X13_sweep 68 rfl) rfl (V_lg 3 rfl) rfl k) ?_
    obtain ⟨h2, h⟩ := h
    refine A_zld (pc2 := 125) 98 (dk D_X13_sweep 69 rfl) rfl (by decide) rfl (by decide) rfl rfl h2 ?_
    refine A_if (pa := 128) (pb := 136) (fun T Q k1 k2 => V_ifne (tgt := 136) (pc2 := 128) (dk D_X13_sweep 70 rfl) (by decide) rfl (fun q => k2 q) (fun q => k1 q)) (fun q3 => ?_) (fun q3 => ?_)
    · have h := h.1 q3
      refine A_p (fun T Q _ _ k => V_aload_n (pc2 := 129) (dk D_X13_sweep 71 rfl) rfl (V_lg 0 rfl) rfl k) ?_
      refine A_p (fun T Q _ _ k => V_iload_n (pc2 := 130) (dk D_X13_sweep 72 rfl) rfl (V_lg 3 rfl) rfl k) ?_
      obtain ⟨e4, he5, hc6⟩ := h
      refine A_call (st := [_, _]) (pc2 := 133) (fun T Q Qc L hc k => V_callV (as := [_]) (st := [_, _]) (M' := MX13_isOver) (ci := 13) (pc2 := 133) (dk D_X13_sweep 73 rfl) ml_13_510 mv_X13_isOver rfl rfl (by decide) rfl (Nat.le_of_ble_eq_true rfl) rfl he5 L.2.1 hc k) hc6 (aRI.k fun y7 s8 h => ?_)
      refine A_if (pa := 140) (pb := 136) (fun T Q k1 k2 => V_ifeq (tgt := 140) (pc2 := 136) (dk D_X13_sweep 74 rfl) (by decide) rfl (fun q => k1 q) (fun q => k2 q)) (fun q9 => ?_) (fun q9 => ?_)
      · have h := h.1 q9
        refine A_p (fun T Q _ _ k => V_iconst (x := 0) (pc2 := 141) (dk D_X13_sweep 77 rfl) (by decide) rfl k) ?_
        exact h
      · have h := h.2 q9
        exact h
    · have h := h.2 q3
      exact h
theorem a_sweep_136 {X : Cx} {b d : Nat} {σ : Rm} {Q : Res → Rm → Prop} (x1 : Int32) (x2 : Int32) (x3 : Int32) (t1 : Int32) (h : A X b d MX13_sweep 141 [(0, vR b), (1, vI x1), (2, vI x2), (3, vI x3)] [vI 1, vI t1, vR (b + 72)] σ Q) : A X b d MX13_sweep 136 [(0, vR b), (1, vI x1), (2, vI x2), (3, vI x3)] [vI t1, vR (b + 72)] σ Q := by
  refine A_p (fun T Q _ _ k => V_iconst (x := 1) (pc2 := 137) (dk D_X13_sweep 75 rfl) (by decide) rfl k) ?_
  refine A_p (fun T Q _ _ k => V_goto (tgt := 141) (dk D_X13_sweep 76 rfl) (by decide) k) ?_
  exact h
theorem a_sweep_141 {X : Cx} {b d : Nat} {σ : Rm} {Q : Res → Rm → Prop} (x1 : Int32) (x2 : Int32) (x3 : Int32) (t1 : Int32) (t2 : Int32) (h : (vp_in t1 61) ∧ (t2 = 0 ∨ t2 = 1) ∧ ∀ s3 : Rm, s3 = wI σ 98 ((t1 : Int32).toNatClampNeg) t2 → A X b d MX13_sweep 109 [(0, vR b), (1, vI x1), (2, vI x2), (3, vI (x3 + 1))] [] s3 Q) : A X b d MX13_sweep 141 [(0, vR b), (1, vI x1), (2, vI x2), (3, vI x3)] [vI t2, vI t1, vR (b + 72)] σ Q := by
  obtain ⟨h1, h⟩ := h
  obtain ⟨h2, h⟩ := h
  refine A_zst (pc2 := 142) 98 (dk D_X13_sweep 78 rfl) rfl (by decide) rfl (by decide) rfl rfl h1 h2 ?_
  have h := h _ rfl
  refine A_p (fun T Q _ _ k => V_iinc (y := _ + 1) (pc2 := 145) (lv2 := [(0, _), (1, _), (2, _), (3, _)]) (dk D_X13_sweep 79 rfl) (V_lg 3 rfl) rfl (by decide) rfl rfl k) ?_
  refine A_p (fun T Q _ _ k => V_goto (tgt := 109) (dk D_X13_sweep 80 rfl) (by decide) k) ?_
  exact h
theorem a_sweep_150 {X : Cx} {b d : Nat} {σ : Rm} {Q : Res → Rm → Prop} (x1 : Int32) (x2 : Int32) (x3 : Int32) (h : ((x1 < x3 → A X b d MX13_sweep 196 [(0, vR b), (1, vI x1), (2, vI x2), (3, vI x3)] [] σ Q) ∧ (¬ x1 < x3 → (((sI σ 76) = 0 → (vp_in x3 61) ∧ (((aI σ 98 (x3 : Int32).toNatClampNeg) = 0 → ∃ e5 : Nat, e5 + 1 ≤ d ∧ AC X b e5 MX13_isOver [vR b, vI x3] σ (aRI fun y8 s9 => ((y8 = 0 → ∃ e11 : Nat, e11 + 1 ≤ d ∧ AC X b e11 MX13_closes_ [vR b, vI x3, vI 0] s9 (aRI fun y14 s15 => A X b d MX13_sweep 190 [(0, vR b), (1, vI x1), (2, vI (x2 + 1)), (3, vI x3)] [] s15 Q)) ∧ (¬ y8 = 0 → A X b d MX13_sweep 190 [(0, vR b), (1, vI x1), (2, vI x2), (3, vI x3)] [] s9 Q)))) ∧ (¬ (aI σ 98 (x3 : Int32).toNatClampNeg) = 0 → A X b d MX13_sweep 190 [(0, vR b), (1, vI x1), (2, vI x2), (3, vI x3)] [] σ Q))) ∧ (¬ (sI σ 76) = 0 → A X b d MX13_sweep 196 [(0, vR b), (1, vI x1), (2, vI x2), (3, vI x3)] [] σ Q))))) : A X b d MX13_sweep 150 [(0, vR b), (1, vI x1), (2, vI x2), (3, vI x3)] [] σ Q := by
  refine A_p (fun T Q _ _ k => V_iload_n (pc2 := 151) (dk D_X13_sweep 83 rfl) rfl (V_lg 3 rfl) rfl k) ?_
  refine A_p (fun T Q _ _ k => V_iload_n (pc2 := 152) (dk D_X13_sweep 84 rfl) rfl (V_lg 1 rfl) rfl k) ?_
  refine A_if (pa := 196) (pb := 155) (fun T Q k1 k2 => V_cmpgt (tgt := 196) (pc2 := 155) (dk D_X13_sweep 85 rfl) (by decide) rfl (fun q => k1 q) (fun q => k2 q)) (fun q1 => ?_) (fun q1 => ?_)
  · have h := h.1 q1
    exact h
  · have h := h.2 q1
    refine A_p (fun T Q _ _ k => V_aload_n (pc2 := 156) (dk D_X13_sweep 86 rfl) rfl (V_lg 0 rfl) rfl k) ?_
    refine A_sc (pc2 := 159) 76 (dk D_X13_sweep 87 rfl) fl_13_470 (by decide) rfl (fun _ => rfl) rfl ?_
    refine A_if (pa := 162) (pb := 196) (fun T Q k1 k2 => V_ifne (tgt := 196) (pc2 := 162) (dk D_X13_sweep 88 rfl) (by decide) rfl (fun q => k2 q) (fun q => k1 q)) (fun q2 => ?_) (fun q2 => ?_)
    · have h := h.1 q2
      refine A_p (fun T Q _ _ k => V_aload_n (pc2 := 163) (dk D_X13_sweep 89 rfl) rfl (V_lg 0 rfl) rfl k) ?_
      refine A_ar (pc2 := 166) (a := 72) 98 (dk D_X13_sweep 90 rfl) fl_13_280 (by decide) (by decide) rfl (fun _ => rfl) rfl ?_
      refine A_p (fun T Q _ _ k => V_iload_n (pc2 := 167) (dk D_X13_sweep 91 rfl) rfl (V_lg 3 rfl) rfl k) ?_
      obtain ⟨h3, h⟩ := h
      refine A_zld (pc2 := 168) 98 (dk D_X13_sweep 92 rfl) rfl (by decide) rfl (by decide) rfl rfl h3 ?_
      refine A_if (pa := 171) (pb := 190) (fun T Q k1 k2 => V_ifne (tgt := 190) (pc2 := 171) (dk D_X13_sweep 93 rfl) (by decide) rfl (fun q => k2 q) (fun q => k1 q)) (fun q4 => ?_) (fun q4 => ?_)
      · have h := h.1 q4
        refine A_p (fun T Q _ _ k => V_aload_n (pc2 := 172) (dk D_X13_sweep 94 rfl) rfl (V_lg 0 rfl) rfl k) ?_
        refine A_p (fun T Q _ _ k => V_iload_n (pc2 := 173) (dk D_X13_sweep 95 rfl) rfl (V_lg 3 rfl) rfl k) ?_
        obtain ⟨e5, he6, hc7⟩ := h
        refine A_call (st := []) (pc2 := 176) (fun T Q Qc L hc k => V_callV (as := [_]) (st := []) (M' := MX13_isOver) (ci := 13) (pc2 := 176) (dk D_X13_sweep 96 rfl) ml_13_510 mv_X13_isOver rfl rfl (by decide) rfl (Nat.le_of_ble_eq_true rfl) rfl he6 L.2.1 hc k) hc7 (aRI.k fun y8 s9 h => ?_)
        refine A_if (pa := 179) (pb := 190) (fun T Q k1 k2 => V_ifne (tgt := 190) (pc2 := 179) (dk D_X13_sweep 97 rfl) (by decide) rfl (fun q => k2 q) (fun q => k1 q)) (fun q10 => ?_) (fun q10 => ?_)
        · have h := h.1 q10
          refine A_p (fun T Q _ _ k => V_aload_n (pc2 := 180) (dk D_X13_sweep 98 rfl) rfl (V_lg 0 rfl) rfl k) ?_
          refine A_p (fun T Q _ _ k => V_iload_n (pc2 := 181) (dk D_X13_sweep 99 rfl) rfl (V_lg 3 rfl) rfl k) ?_
          refine A_p (fun T Q _ _ k => V_iconst (x := 0) (pc2 := 182) (dk D_X13_sweep 100 rfl) (by decide) rfl k) ?_
          obtain ⟨e11, he12, hc13⟩ := h
          refine A_call (st := []) (pc2 := 185) (fun T Q Qc L hc k => V_callV (as := [_, _]) (st := []) (M' := MX13_closes_) (ci := 13) (pc2 := 185) (dk D_X13_sweep 101 rfl) ml_13_626 mv_X13_closes_ rfl rfl (by decide) rfl (Nat.le_of_ble_eq_true rfl) rfl he12 L.2.1 hc k) hc13 (aRI.k fun y14 s15 h => ?_)
          refine A_p (fun T Q _ _ k => V_istore (pc2 := 187) (lv2 := [(0, _), (1, _), (2, _), (3, _), (4, _)]) (dk D_X13_sweep 102 rfl) (by decide) rfl rfl k) ?_
          refine A_p (fun T Q _ _ k => V_iinc (y := _ + 1) (pc2 := 190) (lv2 := [(0, _), (1, _), (2, _), (3, _), (4, _)]) (dk D_X13_sweep 103 rfl) (V_lg 2 rfl) rfl (by decide) rfl rfl k) ?_
          refine A_p (fun T Q _ _ k => V_pick [0, 1, 2, 3] (lv2 := [(0, _), (1, _), (2, _), (3, _)]) rfl k) ?_
          exact h
        · have h := h.2 q10
          exact h
      · have h := h.2 q4
        exact h
    · have h := h.2 q2
      exact h
theorem a_sweep_190 {X : Cx} {b d : Nat} {σ : Rm} {Q : Res → Rm → Prop} (x1 : Int32) (x2 : Int32) (x3 : Int32) (h : A X b d MX13_sweep 150 [(0, vR b), (1, vI x1), (2, vI x2), (3, vI (x3 + 1))] [] σ Q) : A X b d MX13_sweep 190 [(0, vR b), (1, vI x1), (2, vI x2), (3, vI x3)] [] σ Q := by
  refine A_p (fun T Q _ _ k => V_iinc (y := _ + 1) (pc2 := 193) (lv2 := [(0, _), (1, _), (2, _), (3, _)]) (dk D_X13_sweep 104 rfl) (V_lg 3 rfl) rfl (by decide) rfl rfl k) ?_
  refine A_p (fun T Q _ _ k => V_goto (tgt := 150) (dk D_X13_sweep 105 rfl) (by decide) k) ?_
  exact h
theorem a_sweep_196 {X : Cx} {b d : Nat} {σ : Rm} {Q : Res → Rm → Prop} (x1 : Int32) (x2 : Int32) (x3 : Int32) (h : Q (.inl (some (vI x2))) σ) : A X b d MX13_sweep 196 [(0, vR b), (1, vI x1), (2, vI x2), (3, vI x3)] [] σ Q := by
  refine A_p (fun T Q _ _ k => V_iload_n (pc2 := 197) (dk D_X13_sweep 106 rfl) rfl (V_lg 2 rfl) rfl k) ?_
  exact A_ret (fun T Q _ k => V_ireturn (dk D_X13_sweep 107 rfl) rfl k) h
theorem a_answer_0 {X : Cx} {b d : Nat} {σ : Rm} {Q : Res → Rm → Prop}  (h : (((sI σ 46) = 0 → A X b d MX13_answer 16 [(0, vR b)] [vI (-2)] σ Q) ∧ (¬ (sI σ 46) = 0 → A X b d MX13_answer 16 [(0, vR b)] [vI (sI σ 79)] σ Q))) : A X b d MX13_answer 0 [(0, vR b)] [] σ Q := by
  refine A_p (fun T Q _ _ k => V_aload_n (pc2 := 1) (dk D_X13_answer 0 rfl) rfl (V_lg 0 rfl) rfl k) ?_
  refine A_sc (pc2 := 4) 46 (dk D_X13_answer 1 rfl) fl_13_448 (by decide) rfl (fun _ => rfl) rfl ?_
  refine A_if (pa := 14) (pb := 7) (fun T Q k1 k2 => V_ifeq (tgt := 14) (pc2 := 7) (dk D_X13_answer 2 rfl) (by decide) rfl (fun q => k1 q) (fun q => k2 q)) (fun q1 => ?_) (fun q1 => ?_)
  · have h := h.1 q1
    refine A_p (fun T Q _ _ k => V_bipush (x := (-2)) (pc2 := 16) (dk D_X13_answer 6 rfl) (by decide) rfl k) ?_
    exact h
  · have h := h.2 q1
    refine A_p (fun T Q _ _ k => V_aload_n (pc2 := 8) (dk D_X13_answer 3 rfl) rfl (V_lg 0 rfl) rfl k) ?_
    refine A_sc (pc2 := 11) 79 (dk D_X13_answer 4 rfl) fl_13_476 (by decide) rfl (fun _ => rfl) rfl ?_
    refine A_p (fun T Q _ _ k => V_goto (tgt := 16) (dk D_X13_answer 5 rfl) (by decide) k) ?_
    exact h
theorem a_answer_16 {X : Cx} {b d : Nat} {σ : Rm} {Q : Res → Rm → Prop} (t0 : Int32) (h : Q (.inl (some (vI t0))) σ) : A X b d MX13_answer 16 [(0, vR b)] [vI t0] σ Q := by
  exact A_ret (fun T Q _ k => V_ireturn (dk D_X13_answer 7 rfl) rfl k) h
theorem a_callMany_0 {X : Cx} {b d : Nat} {σ : Rm} {Q : Res → Rm → Prop} (x1 : Int32) (h : (vp_in x1 61) ∧ ((0 ≤ (aI σ 58 (x1 : Int32).toNatClampNeg) → (vp_in x1 61) ∧ (vp_in (aI σ 58 (x1 : Int32).toNatClampNeg) 12) ∧ A X b d MX13_callMany 24 [(0, vR b), (1, vI x1)] [vI (aI σ 60 ((aI σ 58 (x1 : Int32).toNatClampNeg) : Int32).toNatClampNeg)] σ Q) ∧ (¬ 0 ≤ (aI σ 58 (x1 : Int32).toNatClampNeg) → A X b d MX13_callMany 24 [(0, vR b), (1, vI x1)] [vI 0] σ Q))) : A X b d MX13_callMany 0 [(0, vR b), (1, vI x1)] [] σ Q := by
  refine A_p (fun T Q _ _ k => V_aload_n (pc2 := 1) (dk D_X13_callMany 0 rfl) rfl (V_lg 0 rfl) rfl k) ?_
  refine A_ar (pc2 := 4) (a := 42) 58 (dk D_X13_callMany 1 rfl) fl_13_189 (by decide) (by decide) rfl (fun _ => rfl) rfl ?_
  refine A_p (fun T Q _ _ k => V_iload_n (pc2 := 5) (dk D_X13_callMany 2 rfl) rfl (V_lg 1 rfl) rfl k) ?_
  obtain ⟨h1, h⟩ := h
  refine A_ild (pc2 := 6) 58 (dk D_X13_callMany 3 rfl) rfl (by decide) rfl (by decide) rfl rfl h1 ?_
  refine A_if (pa := 13) (pb := 9) (fun T Q k1 k2 => V_ifge (tgt := 13) (pc2 := 9) (dk D_X13_callMany 4 rfl) (by decide) rfl (fun q => k1 q) (fun q => k2 q)) (fun q2 => ?_) (fun q2 => ?_)
  · have h := h.1 q2
    refine A_p (fun T Q _ _ k => V_aload_n (pc2 := 14) (dk D_X13_callMany 7 rfl) rfl (V_lg 0 rfl) rfl k) ?_
    refine A_ar (pc2 := 17) (a := 44) 60 (dk D_X13_callMany 8 rfl) fl_13_195 (by decide) (by decide) rfl (fun _ => rfl) rfl ?_
    refine A_p (fun T Q _ _ k => V_aload_n (pc2 := 18) (dk D_X13_callMany 9 rfl) rfl (V_lg 0 rfl) rfl k) ?_
    refine A_ar (pc2 := 21) (a := 42) 58 (dk D_X13_callMany 10 rfl) fl_13_189 (by decide) (by decide) rfl (fun _ => rfl) rfl ?_
    refine A_p (fun T Q _ _ k => V_iload_n (pc2 := 22) (dk D_X13_callMany 11 rfl) rfl (V_lg 1 rfl) rfl k) ?_
    obtain ⟨h3, h⟩ := h
    refine A_ild (pc2 := 23) 58 (dk D_X13_callMany 12 rfl) rfl (by decide) rfl (by decide) rfl rfl h3 ?_
    obtain ⟨h4, h⟩ := h
    refine A_ild (pc2 := 24) 60 (dk D_X13_callMany 13 rfl) rfl (by decide) rfl (by decide) rfl rfl h4 ?_
    exact h
  · have h := h.2 q2
    refine A_p (fun T Q _ _ k => V_iconst (x := 0) (pc2 := 10) (dk D_X13_callMany 5 rfl) (by decide) rfl k) ?_
    refine A_p (fun T Q _ _ k => V_goto (tgt := 24) (dk D_X13_callMany 6 rfl) (by decide) k) ?_
    exact h
theorem a_callMany_24 {X : Cx} {b d : Nat} {σ : Rm} {Q : Res → Rm → Prop} (x1 : Int32) (t0 : Int32) (h : Q (.inl (some (vI t0))) σ) : A X b d MX13_callMany 24 [(0, vR b), (1, vI x1)] [vI t0] σ Q := by
  exact A_ret (fun T Q _ k => V_ireturn (dk D_X13_callMany 14 rfl) rfl k) h
theorem a_tellsOf_0 {X : Cx} {b d : Nat} {σ : Rm} {Q : Res → Rm → Prop} (x1 : Int32) (x2 : Int32) (h : ((x2 = 0 → (vp_in x1 61) ∧ Q (.inl (some (vI (aI σ 49 (x1 : Int32).toNatClampNeg)))) σ) ∧ (x2 = 1 → (vp_in x1 61) ∧ Q (.inl (some (vI (aI σ 50 (x1 : Int32).toNatClampNeg)))) σ) ∧ (x2 = 2 → (vp_in x1 61) ∧ Q (.inl (some (vI (aI σ 52 (x1 : Int32).toNatClampNeg)))) σ) ∧ (x2 = 3 → (vp_in x1 61) ∧ Q (.inl (some (vI (aI σ 53 (x1 : Int32).toNatClampNeg)))) σ) ∧ (x2 = 4 → ∃ e9 : Nat, e9 + 1 ≤ d ∧ AC X b e9 MX13_callMany [vR b, vI x1] σ (aRI fun y12 s13 => Q (.inl (some (vI y12))) s13)) ∧ (x2 = 5 → (vp_in x1 61) ∧ Q (.inl (some (vI (aI σ 54 (x1 : Int32).toNatClampNeg)))) σ) ∧ (¬ (x2 = 0 ∨ x2 = 1 ∨ x2 = 2 ∨ x2 = 3 ∨ x2 = 4 ∨ x2 = 5) → (vp_in x1 61) ∧ Q (.inl (some (vI (aI σ 55 (x1 : Int32).toNatClampNeg)))) σ))) : A X b d MX13_tellsOf 0 [(0, vR b), (1, vI x1), (2, vI x2)] [] σ Q := by
  refine A_p (fun T Q _ _ k => V_iload_n (pc2 := 1) (dk D_X13_tellsOf 0 rfl) rfl (V_lg 2 rfl) rfl k) ?_
  refine A_table (dk D_X13_tellsOf 1 rfl) [40, 47, 54, 61, 68, 74] 81 (by decide) (by decide) rfl (by decide) (fun q1 => ?_) (fun j2 hj q1 => ?_)
  · have h := h.2.2.2.2.2.2 (by rintro (hk | hk | hk | hk | hk | hk) <;> (rw [hk] at q1; revert q1; decide))
    refine A_p (fun T Q _ _ k => V_aload_n (pc2 := 82) (dk D_X13_tellsOf 31 rfl) rfl (V_lg 0 rfl) rfl k) ?_
    refine A_ar (pc2 := 85) (a := 39) 55 (dk D_X13_tellsOf 32 rfl) fl_13_179 (by decide) (by decide) rfl (fun _ => rfl) rfl ?_
    refine A_p (fun T Q _ _ k => V_iload_n (pc2 := 86) (dk D_X13_tellsOf 33 rfl) rfl (V_lg 1 rfl) rfl k) ?_
    obtain ⟨h4, h⟩ := h
    refine A_ild (pc2 := 87) 55 (dk D_X13_tellsOf 34 rfl) rfl (by decide) rfl (by decide) rfl rfl h4 ?_
    exact A_ret (fun T Q _ k => V_ireturn (dk D_X13_tellsOf 35 rfl) rfl k) h
  · have hj2 : j2 = 0 ∨ j2 = 1 ∨ j2 = 2 ∨ j2 = 3 ∨ j2 = 4 ∨ j2 = 5 := by simp at hj; omega
    clear hj
    rcases hj2 with rfl | rfl | rfl | rfl | rfl | rfl
    · have hx : x2 = 0 := Int32.toInt_inj.mp (by rw [q1]; decide)
      have h := h.1 hx
      refine A_p (fun T Q _ _ k => V_aload_n (pc2 := 41) (dk D_X13_tellsOf 2 rfl) rfl (V_lg 0 rfl) rfl k) ?_
      refine A_ar (pc2 := 44) (a := 33) 49 (dk D_X13_tellsOf 3 rfl) fl_13_161 (by decide) (by decide) rfl (fun _ => rfl) rfl ?_
      refine A_p (fun T Q _ _ k => V_iload_n (pc2 := 45) (dk D_X13_tellsOf 4 rfl) rfl (V_lg 1 rfl) rfl k) ?_
      obtain ⟨h5, h⟩ := h
      refine A_ild (pc2 := 46) 49 (dk D_X13_tellsOf 5 rfl) rfl (by decide) rfl (by decide) rfl rfl h5 ?_
      exact A_ret (fun T Q _ k => V_ireturn (dk D_X13_tellsOf 6 rfl) rfl k) h
    · have hx : x2 = 1 := Int32.toInt_inj.mp (by rw [q1]; decide)
      have h := h.2.1 hx
      refine A_p (fun T Q _ _ k => V_aload_n (pc2 := 48) (dk D_X13_tellsOf 7 rfl) rfl (V_lg 0 rfl) rfl k) ?_
      refine A_ar (pc2 := 51) (a := 34) 50 (dk D_X13_tellsOf 8 rfl) fl_13_164 (by decide) (by decide) rfl (fun _ => rfl) rfl ?_
      refine A_p (fun T Q _ _ k => V_iload_n (pc2 := 52) (dk D_X13_tellsOf 9 rfl) rfl (V_lg 1 rfl) rfl k) ?_
      obtain ⟨h6, h⟩ := h
      refine A_ild (pc2 := 53) 50 (dk D_X13_tellsOf 10 rfl) rfl (by decide) rfl (by decide) rfl rfl h6 ?_
      exact A_ret (fun T Q _ k => V_ireturn (dk D_X13_tellsOf 11 rfl) rfl k) h
    · have hx : x2 = 2 := Int32.toInt_inj.mp (by rw [q1]; decide)
      have h := h.2.2.1 hx
      refine A_p (fun T Q _ _ k => V_aload_n (pc2 := 55) (dk D_X13_tellsOf 12 rfl) rfl (V_lg 0 rfl) rfl k) ?_
      refine A_ar (pc2 := 58) (a := 36) 52 (dk D_X13_tellsOf 13 rfl) fl_13_170 (by decide) (by decide) rfl (fun _ => rfl) rfl ?_
      refine A_p (fun T Q _ _ k => V_iload_n (pc2 := 59) (dk D_X13_tellsOf 14 rfl) rfl (V_lg 1 rfl) rfl k) ?_
      obtain ⟨h7, h⟩ := h
      refine A_ild (pc2 := 60) 52 (dk D_X13_tellsOf 15 rfl) rfl (by decide) rfl (by decide) rfl rfl h7 ?_
      exact A_ret (fun T Q _ k => V_ireturn (dk D_X13_tellsOf 16 rfl) rfl k) h
    · have hx : x2 = 3 := Int32.toInt_inj.mp (by rw [q1]; decide)
      have h := h.2.2.2.1 hx
      refine A_p (fun T Q _ _ k => V_aload_n (pc2 := 62) (dk D_X13_tellsOf 17 rfl) rfl (V_lg 0 rfl) rfl k) ?_
      refine A_ar (pc2 := 65) (a := 37) 53 (dk D_X13_tellsOf 18 rfl) fl_13_173 (by decide) (by decide) rfl (fun _ => rfl) rfl ?_
      refine A_p (fun T Q _ _ k => V_iload_n (pc2 := 66) (dk D_X13_tellsOf 19 rfl) rfl (V_lg 1 rfl) rfl k) ?_
      obtain ⟨h8, h⟩ := h
      refine A_ild (pc2 := 67) 53 (dk D_X13_tellsOf 20 rfl) rfl (by decide) rfl (by decide) rfl rfl h8 ?_
      exact A_ret (fun T Q _ k => V_ireturn (dk D_X13_tellsOf 21 rfl) rfl k) h
    · have hx : x2 = 4 := Int32.toInt_inj.mp (by rw [q1]; decide)
      have h := h.2.2.2.2.1 hx
      refine A_p (fun T Q _ _ k => V_aload_n (pc2 := 69) (dk D_X13_tellsOf 22 rfl) rfl (V_lg 0 rfl) rfl k) ?_
      refine A_p (fun T Q _ _ k => V_iload_n (pc2 := 70) (dk D_X13_tellsOf 23 rfl) rfl (V_lg 1 rfl) rfl k) ?_
      obtain ⟨e9, he10, hc11⟩ := h
      refine A_call (st := []) (pc2 := 73) (fun T Q Qc L hc k => V_callV (as := [_]) (st := []) (M' := MX13_callMany) (ci := 13) (pc2 := 73) (dk D_X13_tellsOf 24 rfl) ml_13_635 mv_X13_callMany rfl rfl (by decide) rfl (Nat.le_of_ble_eq_true rfl) rfl he10 L.2.1 hc k) hc11 (aRI.k fun y12 s13 h => ?_)
      exact A_ret (fun T Q _ k => V_ireturn (dk D_X13_tellsOf 25 rfl) rfl k) h
    · have hx : x2 = 5 := Int32.toInt_inj.mp (by rw [q1]; decide)
      have h := h.2.2.2.2.2.1 hx
      refine A_p (fun T Q _ _ k => V_aload_n (pc2 := 75) (dk D_X13_tellsOf 26 rfl) rfl (V_lg 0 rfl) rfl k) ?_
      refine A_ar (pc2 := 78) (a := 38) 54 (dk D_X13_tellsOf 27 rfl) fl_13_176 (by decide) (by decide) rfl (fun _ => rfl) rfl ?_
      refine A_p (fun T Q _ _ k => V_iload_n (pc2 := 79) (dk D_X13_tellsOf 28 rfl) rfl (V_lg 1 rfl) rfl k) ?_
      obtain ⟨h14, h⟩ := h
      refine A_ild (pc2 := 80) 54 (dk D_X13_tellsOf 29 rfl) rfl (by decide) rfl (by decide) rfl rfl h14 ?_
      exact A_ret (fun T Q _ k => V_ireturn (dk D_X13_tellsOf 30 rfl) rfl k) h
