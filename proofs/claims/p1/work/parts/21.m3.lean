theorem a_isSilent_0 {X : Cx} {b d : Nat} {σ : Rm} {Q : Res → Rm → Prop}  (h : (((sI σ 46) = 0 → A X b d MX13_isSilent 14 [(0, vR b)] [] σ Q) ∧ (¬ (sI σ 46) = 0 → (((sI σ 76) = 0 → A X b d MX13_isSilent 19 [(0, vR b)] [vI 0] σ Q) ∧ (¬ (sI σ 76) = 0 → A X b d MX13_isSilent 14 [(0, vR b)] [] σ Q))))) : A X b d MX13_isSilent 0 [(0, vR b)] [] σ Q := by
  refine A_p (fun T Q _ _ k => V_aload_n (pc2 := 1) (dk D_X13_isSilent 0 rfl) rfl (V_lg 0 rfl) rfl k) ?_
  refine A_sc (pc2 := 4) 46 (dk D_X13_isSilent 1 rfl) fl_13_448 (by decide) rfl (fun _ => rfl) rfl ?_
  refine A_if (pa := 14) (pb := 7) (fun T Q k1 k2 => V_ifeq (tgt := 14) (pc2 := 7) (dk D_X13_isSilent 2 rfl) (by decide) rfl (fun q => k1 q) (fun q => k2 q)) (fun q1 => ?_) (fun q1 => ?_)
  · have h := h.1 q1
    exact h
  · have h := h.2 q1
    refine A_p (fun T Q _ _ k => V_aload_n (pc2 := 8) (dk D_X13_isSilent 3 rfl) rfl (V_lg 0 rfl) rfl k) ?_
    refine A_sc (pc2 := 11) 76 (dk D_X13_isSilent 4 rfl) fl_13_470 (by decide) rfl (fun _ => rfl) rfl ?_
    refine A_if (pa := 18) (pb := 14) (fun T Q k1 k2 => V_ifeq (tgt := 18) (pc2 := 14) (dk D_X13_isSilent 5 rfl) (by decide) rfl (fun q => k1 q) (fun q => k2 q)) (fun q2 => ?_) (fun q2 => ?_)
    · have h := h.1 q2
      refine A_p (fun T Q _ _ k => V_iconst (x := 0) (pc2 := 19) (dk D_X13_isSilent 8 rfl) (by decide) rfl k) ?_
      exact h
    · have h := h.2 q2
      exact h
theorem a_isSilent_14 {X : Cx} {b d : Nat} {σ : Rm} {Q : Res → Rm → Prop}  (h : A X b d MX13_isSilent 19 [(0, vR b)] [vI 1] σ Q) : A X b d MX13_isSilent 14 [(0, vR b)] [] σ Q := by
  refine A_p (fun T Q _ _ k => V_iconst (x := 1) (pc2 := 15) (dk D_X13_isSilent 6 rfl) (by decide) rfl k) ?_
  refine A_p (fun T Q _ _ k => V_goto (tgt := 19) (dk D_X13_isSilent 7 rfl) (by decide) k) ?_
  exact h
theorem a_isSilent_19 {X : Cx} {b d : Nat} {σ : Rm} {Q : Res → Rm → Prop} (t0 : Int32) (h : (t0 = 0 ∨ t0 = 1) ∧ Q (.inl (some (vI t0))) σ) : A X b d MX13_isSilent 19 [(0, vR b)] [vI t0] σ Q := by
  obtain ⟨h1, h⟩ := h
  exact A_ret (fun T Q _ k => V_zreturn (dk D_X13_isSilent 9 rfl) rfl h1 k) h
theorem a_voice_0 {X : Cx} {b d : Nat} {σ : Rm} {Q : Res → Rm → Prop} (x1 : Int32) (x2 : Int32) (h : ∃ e1 : Nat, e1 + 1 ≤ d ∧ AC X b e1 MX13_isSilent [vR b] σ (aRI fun y4 s5 => ((y4 = 0 → ∃ e7 : Nat, e7 + 1 ≤ d ∧ AC X b e7 MX13_in [vI x1, vI 0, vI ((sI s5 18) - 1)] s5 (aRI fun y10 s11 => ((y10 = 0 → A X b d MX13_voice 33 [(0, vR b), (1, vI x1), (2, vI x2)] [] s11 Q) ∧ (¬ y10 = 0 → (vp_in x1 12) ∧ (((aI s11 19 (x1 : Int32).toNatClampNeg) = 0 → A X b d MX13_voice 33 [(0, vR b), (1, vI x1), (2, vI x2)] [] s11 Q) ∧ (¬ (aI s11 19 (x1 : Int32).toNatClampNeg) = 0 → (((sI s11 47) = 60 → A X b d MX13_voice 53 [(0, vR b), (1, vI x1), (2, vI x2)] [] s11 Q) ∧ (¬ (sI s11 47) = 60 → (((sI s11 48) = 12 → A X b d MX13_voice 53 [(0, vR b), (1, vI x1), (2, vI x2)] [] s11 Q) ∧ (¬ (sI s11 48) = 12 → ∃ e17 : Nat, e17 + 1 ≤ d ∧ AC X b e17 MX13_made [vR b, vI x1, vI x2, vI 0] s11 (aRI fun y20 s21 => A X b d MX13_voice 65 [(0, vR b), (1, vI x1), (2, vI x2)] [vI y20] s21 Q))))))))))) ∧ (¬ y4 = 0 → Q (.inl (some (vI (-2)))) s5)))) : A X b d MX13_voice 0 [(0, vR b), (1, vI x1), (2, vI x2)] [] σ Q := by
  refine A_p (fun T Q _ _ k => V_aload_n (pc2 := 1) (dk D_X13_voice 0 rfl) rfl (V_lg 0 rfl) rfl k) ?_
  obtain ⟨e1, he2, hc3⟩ := h
  refine A_call (st := []) (pc2 := 4) (fun T Q Qc L hc k => V_callV (as := []) (st := []) (M' := MX13_isSilent) (ci := 13) (pc2 := 4) (dk D_X13_voice 1 rfl) ml_13_619 mv_X13_isSilent rfl rfl (by decide) rfl (Nat.le_of_ble_eq_true rfl) rfl he2 L.2.1 hc k) hc3 (aRI.k fun y4 s5 h => ?_)
  refine A_if (pa := 10) (pb := 7) (fun T Q k1 k2 => V_ifeq (tgt := 10) (pc2 := 7) (dk D_X13_voice 2 rfl) (by decide) rfl (fun q => k1 q) (fun q => k2 q)) (fun q6 => ?_) (fun q6 => ?_)
  · have h := h.1 q6
    refine A_p (fun T Q _ _ k => V_iload_n (pc2 := 11) (dk D_X13_voice 5 rfl) rfl (V_lg 1 rfl) rfl k) ?_
    refine A_p (fun T Q _ _ k => V_iconst (x := 0) (pc2 := 12) (dk D_X13_voice 6 rfl) (by decide) rfl k) ?_
    refine A_p (fun T Q _ _ k => V_aload_n (pc2 := 13) (dk D_X13_voice 7 rfl) rfl (V_lg 0 rfl) rfl k) ?_
    refine A_sc (pc2 := 16) 18 (dk D_X13_voice 8 rfl) fl_13_445 (by decide) rfl (fun _ => rfl) rfl ?_
    refine A_p (fun T Q _ _ k => V_iconst (x := 1) (pc2 := 17) (dk D_X13_voice 9 rfl) (by decide) rfl k) ?_
    refine A_p (fun T Q _ _ k => V_isub (pc2 := 18) (dk D_X13_voice 10 rfl) rfl k) ?_
    obtain ⟨e7, he8, hc9⟩ := h
    refine A_call (st := []) (pc2 := 21) (fun T Q Qc L hc k => V_callS (as := [_, _, _]) (st := []) (M' := MX13_in) (pc2 := 21) (dk D_X13_voice 11 rfl) ml_13_292 mv_X13_in rfl rfl (Nat.le_of_ble_eq_true rfl) rfl he8 hc k) hc9 (aRI.k fun y10 s11 h => ?_)
    refine A_if (pa := 33) (pb := 24) (fun T Q k1 k2 => V_ifeq (tgt := 33) (pc2 := 24) (dk D_X13_voice 12 rfl) (by decide) rfl (fun q => k1 q) (fun q => k2 q)) (fun q12 => ?_) (fun q12 => ?_)
    · have h := h.1 q12
      exact h
    · have h := h.2 q12
      refine A_p (fun T Q _ _ k => V_aload_n (pc2 := 25) (dk D_X13_voice 13 rfl) rfl (V_lg 0 rfl) rfl k) ?_
      refine A_ar (pc2 := 28) (a := 14) 19 (dk D_X13_voice 14 rfl) fl_13_104 (by decide) (by decide) rfl (fun _ => rfl) rfl ?_
      refine A_p (fun T Q _ _ k => V_iload_n (pc2 := 29) (dk D_X13_voice 15 rfl) rfl (V_lg 1 rfl) rfl k) ?_
      obtain ⟨h13, h⟩ := h
      refine A_ild (pc2 := 30) 19 (dk D_X13_voice 16 rfl) rfl (by decide) rfl (by decide) rfl rfl h13 ?_
      refine A_if (pa := 33) (pb := 35) (fun T Q k1 k2 => V_ifne (tgt := 35) (pc2 := 33) (dk D_X13_voice 17 rfl) (by decide) rfl (fun q => k2 q) (fun q => k1 q)) (fun q14 => ?_) (fun q14 => ?_)
      · have h := h.1 q14
        exact h
      · have h := h.2 q14
        refine A_p (fun T Q _ _ k => V_aload_n (pc2 := 36) (dk D_X13_voice 20 rfl) rfl (V_lg 0 rfl) rfl k) ?_
        refine A_sc (pc2 := 39) 47 (dk D_X13_voice 21 rfl) fl_13_461 (by decide) rfl (fun _ => rfl) rfl ?_
        refine A_p (fun T Q _ _ k => V_bipush (x := 60) (pc2 := 41) (dk D_X13_voice 22 rfl) (by decide) rfl k) ?_
        refine A_if (pa := 53) (pb := 44) (fun T Q k1 k2 => V_cmpeq (tgt := 53) (pc2 := 44) (dk D_X13_voice 23 rfl) (by decide) rfl (fun q => k1 q) (fun q => k2 q)) (fun q15 => ?_) (fun q15 => ?_)
        · have h := h.1 q15
          exact h
        · have h := h.2 q15
          refine A_p (fun T Q _ _ k => V_aload_n (pc2 := 45) (dk D_X13_voice 24 rfl) rfl (V_lg 0 rfl) rfl k) ?_
          refine A_sc (pc2 := 48) 48 (dk D_X13_voice 25 rfl) fl_13_464 (by decide) rfl (fun _ => rfl) rfl ?_
          refine A_p (fun T Q _ _ k => V_bipush (x := 12) (pc2 := 50) (dk D_X13_voice 26 rfl) (by decide) rfl k) ?_
          refine A_if (pa := 53) (pb := 58) (fun T Q k1 k2 => V_cmpne (tgt := 58) (pc2 := 53) (dk D_X13_voice 27 rfl) (by decide) rfl (fun q => k2 q) (fun q => k1 q)) (fun q16 => ?_) (fun q16 => ?_)
          · have h := h.1 q16
            exact h
          · have h := h.2 q16
            refine A_p (fun T Q _ _ k => V_aload_n (pc2 := 59) (dk D_X13_voice 30 rfl) rfl (V_lg 0 rfl) rfl k) ?_
            refine A_p (fun T Q _ _ k => V_iload_n (pc2 := 60) (dk D_X13_voice 31 rfl) rfl (V_lg 1 rfl) rfl k) ?_
            refine A_p (fun T Q _ _ k => V_iload_n (pc2 := 61) (dk D_X13_voice 32 rfl) rfl (V_lg 2 rfl) rfl k) ?_
            refine A_p (fun T Q _ _ k => V_iconst (x := 0) (pc2 := 62) (dk D_X13_voice 33 rfl) (by decide) rfl k) ?_
            obtain ⟨e17, he18, hc19⟩ := h
            refine A_call (st := []) (pc2 := 65) (fun T Q Qc L hc k => V_callV (as := [_, _, _]) (st := []) (M' := MX13_made) (ci := 13) (pc2 := 65) (dk D_X13_voice 34 rfl) ml_13_604 mv_X13_made rfl rfl (by decide) rfl (Nat.le_of_ble_eq_true rfl) rfl he18 L.2.1 hc k) hc19 (aRI.k fun y20 s21 h => ?_)
            exact h
  · have h := h.2 q6
    refine A_p (fun T Q _ _ k => V_bipush (x := (-2)) (pc2 := 9) (dk D_X13_voice 3 rfl) (by decide) rfl k) ?_
    exact A_ret (fun T Q _ k => V_ireturn (dk D_X13_voice 4 rfl) rfl k) h
theorem a_resume_0 {X : Cx} {b d : Nat} {σ : Rm} {Q : Res → Rm → Prop} (x1 : Int32) (x2 : Int32) (h : ∃ e1 : Nat, e1 + 1 ≤ d ∧ AC X b e1 MX13_isSilent [vR b] σ (aRI fun y4 s5 => ((y4 = 0 → ∃ e7 : Nat, e7 + 1 ≤ d ∧ AC X b e7 MX13_isVoice [vR b, vI x1] s5 (aRI fun y10 s11 => ((y10 = 0 → Q (.inl (some (vI (-1)))) s11) ∧ (¬ y10 = 0 → ∃ e13 : Nat, e13 + 1 ≤ d ∧ AC X b e13 MX13_isOver [vR b, vI x1] s11 (aRI fun y16 s17 => ((y16 = 0 → (vp_in x1 61) ∧ ∀ s20 : Rm, s20 = wI s17 54 ((x1 : Int32).toNatClampNeg) 0 → ∃ e21 : Nat, e21 + 1 ≤ d ∧ AC X b e21 MX13_goesTo [vR b, vI 0, vI x1, vI x2] s20 (aRV fun  s24 => ∃ e25 : Nat, e25 + 1 ≤ d ∧ AC X b e25 MX13_goes [vR b] s24 (aRI fun y28 s29 => Q (.inl (some (vI y28))) s29))) ∧ (¬ y16 = 0 → Q (.inl (some (vI 3))) s17))))))) ∧ (¬ y4 = 0 → Q (.inl (some (vI (-2)))) s5)))) : A X b d MX13_resume 0 [(0, vR b), (1, vI x1), (2, vI x2)] [] σ Q := by
  refine A_p (fun T Q _ _ k => V_aload_n (pc2 := 1) (dk D_X13_resume 0 rfl) rfl (V_lg 0 rfl) rfl k) ?_
  obtain ⟨e1, he2, hc3⟩ := h
  refine A_call (st := []) (pc2 := 4) (fun T Q Qc L hc k => V_callV (as := []) (st := []) (M' := MX13_isSilent) (ci := 13) (pc2 := 4) (dk D_X13_resume 1 rfl) ml_13_619 mv_X13_isSilent rfl rfl (by decide) rfl (Nat.le_of_ble_eq_true rfl) rfl he2 L.2.1 hc k) hc3 (aRI.k fun y4 s5 h => ?_)
  refine A_if (pa := 10) (pb := 7) (fun T Q k1 k2 => V_ifeq (tgt := 10) (pc2 := 7) (dk D_X13_resume 2 rfl) (by decide) rfl (fun q => k1 q) (fun q => k2 q)) (fun q6 => ?_) (fun q6 => ?_)
  · have h := h.1 q6
    refine A_p (fun T Q _ _ k => V_aload_n (pc2 := 11) (dk D_X13_resume 5 rfl) rfl (V_lg 0 rfl) rfl k) ?_
    refine A_p (fun T Q _ _ k => V_iload_n (pc2 := 12) (dk D_X13_resume 6 rfl) rfl (V_lg 1 rfl) rfl k) ?_
    obtain ⟨e7, he8, hc9⟩ := h
    refine A_call (st := []) (pc2 := 15) (fun T Q Qc L hc k => V_callV (as := [_]) (st := []) (M' := MX13_isVoice) (ci := 13) (pc2 := 15) (dk D_X13_resume 7 rfl) ml_13_554 mv_X13_isVoice rfl rfl (by decide) rfl (Nat.le_of_ble_eq_true rfl) rfl he8 L.2.1 hc k) hc9 (aRI.k fun y10 s11 h => ?_)
    refine A_if (pa := 18) (pb := 20) (fun T Q k1 k2 => V_ifne (tgt := 20) (pc2 := 18) (dk D_X13_resume 8 rfl) (by decide) rfl (fun q => k2 q) (fun q => k1 q)) (fun q12 => ?_) (fun q12 => ?_)
    · have h := h.1 q12
      refine A_p (fun T Q _ _ k => V_iconst (x := (-1)) (pc2 := 19) (dk D_X13_resume 9 rfl) (by decide) rfl k) ?_
      exact A_ret (fun T Q _ k => V_ireturn (dk D_X13_resume 10 rfl) rfl k) h
    · have h := h.2 q12
      refine A_p (fun T Q _ _ k => V_aload_n (pc2 := 21) (dk D_X13_resume 11 rfl) rfl (V_lg 0 rfl) rfl k) ?_
      refine A_p (fun T Q _ _ k => V_iload_n (pc2 := 22) (dk D_X13_resume 12 rfl) rfl (V_lg 1 rfl) rfl k) ?_
      obtain ⟨e13, he14, hc15⟩ := h
      refine A_call (st := []) (pc2 := 25) (fun T Q Qc L hc k => V_callV (as := [_]) (st := []) (M' := MX13_isOver) (ci := 13) (pc2 := 25) (dk D_X13_resume 13 rfl) ml_13_510 mv_X13_isOver rfl rfl (by decide) rfl (Nat.le_of_ble_eq_true rfl) rfl he14 L.2.1 hc k) hc15 (aRI.k fun y16 s17 h => ?_)
      refine A_if (pa := 30) (pb := 28) (fun T Q k1 k2 => V_ifeq (tgt := 30) (pc2 := 28) (dk D_X13_resume 14 rfl) (by decide) rfl (fun q => k1 q) (fun q => k2 q)) (fun q18 => ?_) (fun q18 => ?_)
      · have h := h.1 q18
        refine A_p (fun T Q _ _ k => V_aload_n (pc2 := 31) (dk D_X13_resume 17 rfl) rfl (V_lg 0 rfl) rfl k) ?_
        refine A_ar (pc2 := 34) (a := 38) 54 (dk D_X13_resume 18 rfl) fl_13_176 (by decide) (by decide) rfl (fun _ => rfl) rfl ?_
        refine A_p (fun T Q _ _ k => V_iload_n (pc2 := 35) (dk D_X13_resume 19 rfl) rfl (V_lg 1 rfl) rfl k) ?_
        refine A_p (fun T Q _ _ k => V_iconst (x := 0) (pc2 := 36) (dk D_X13_resume 20 rfl) (by decide) rfl k) ?_
        obtain ⟨h19, h⟩ := h
        refine A_ist (pc2 := 37) 54 (dk D_X13_resume 21 rfl) rfl (by decide) rfl (by decide) rfl rfl h19 ?_
        have h := h _ rfl
        refine A_p (fun T Q _ _ k => V_aload_n (pc2 := 38) (dk D_X13_resume 22 rfl) rfl (V_lg 0 rfl) rfl k) ?_
        refine A_p (fun T Q _ _ k => V_iconst (x := 0) (pc2 := 39) (dk D_X13_resume 23 rfl) (by decide) rfl k) ?_
        refine A_p (fun T Q _ _ k => V_iload_n (pc2 := 40) (dk D_X13_resume 24 rfl) rfl (V_lg 1 rfl) rfl k) ?_
        refine A_p (fun T Q _ _ k => V_iload_n (pc2 := 41) (dk D_X13_resume 25 rfl) rfl (V_lg 2 rfl) rfl k) ?_
        obtain ⟨e21, he22, hc23⟩ := h
        refine A_call (st := []) (pc2 := 44) (fun T Q Qc L hc k => V_callV (as := [_, _, _]) (st := []) (M' := MX13_goesTo) (ci := 13) (pc2 := 44) (dk D_X13_resume 26 rfl) ml_13_570 mv_X13_goesTo rfl rfl (by decide) rfl (Nat.le_of_ble_eq_true rfl) rfl he22 L.2.1 hc k) hc23 (aRV.k fun  s24 h => ?_)
        refine A_p (fun T Q _ _ k => V_aload_n (pc2 := 45) (dk D_X13_resume 27 rfl) rfl (V_lg 0 rfl) rfl k) ?_
        obtain ⟨e25, he26, hc27⟩ := h
        refine A_call (st := []) (pc2 := 48) (fun T Q Qc L hc k => V_callV (as := []) (st := []) (M' := MX13_goes) (ci := 13) (pc2 := 48) (dk D_X13_resume 28 rfl) ml_13_623 mv_X13_goes rfl rfl (by decide) rfl (Nat.le_of_ble_eq_true rfl) rfl he26 L.2.1 hc k) hc27 (aRI.k fun y28 s29 h => ?_)
        exact A_ret (fun T Q _ k => V_ireturn (dk D_X13_resume 29 rfl) rfl k) h
      · have h := h.2 q18
        refine A_p (fun T Q _ _ k => V_iconst (x := 3) (pc2 := 29) (dk D_X13_resume 15 rfl) (by decide) rfl k) ?_
        exact A_ret (fun T Q _ k => V_ireturn (dk D_X13_resume 16 rfl) rfl k) h
  · have h := h.2 q6
    refine A_p (fun T Q _ _ k => V_bipush (x := (-2)) (pc2 := 9) (dk D_X13_resume 3 rfl) (by decide) rfl k) ?_
    exact A_ret (fun T Q _ k => V_ireturn (dk D_X13_resume 4 rfl) rfl k) h
theorem a_inject_0 {X : Cx} {b d : Nat} {σ : Rm} {Q : Res → Rm → Prop} (x1 : Int32) (x2 : Int32) (x3 : Int32) (h : ∃ e1 : Nat, e1 + 1 ≤ d ∧ AC X b e1 MX13_isSilent [vR b] σ (aRI fun y4 s5 => ((y4 = 0 → ∃ e7 : Nat, e7 + 1 ≤ d ∧ AC X b e7 MX13_isVoice [vR b, vI x1] s5 (aRI fun y10 s11 => ((y10 = 0 → A X b d MX13_inject 28 [(0, vR b), (1, vI x1), (2, vI x2), (3, vI x3)] [] s11 Q) ∧ (¬ y10 = 0 → ∃ e13 : Nat, e13 + 1 ≤ d ∧ AC X b e13 MX13_in [vI x2, vI 0, vI 9] s11 (aRI fun y16 s17 => ((y16 = 0 → A X b d MX13_inject 28 [(0, vR b), (1, vI x1), (2, vI x2), (3, vI x3)] [] s17 Q) ∧ (¬ y16 = 0 → ∃ e19 : Nat, e19 + 1 ≤ d ∧ AC X b e19 MX13_isOver [vR b, vI x1] s17 (aRI fun y22 s23 => ((y22 = 0 → ∃ e25 : Nat, e25 + 1 ≤ d ∧ AC X b e25 MX13_failure [vR b, vI x2, vI x3, vI 0, vI (-9), vI (-9)] s23 (aRI fun y28 s29 => (vp_in x1 61) ∧ (((aI s29 49 (x1 : Int32).toNatClampNeg) = 0 → ∃ e32 : Nat, e32 + 1 ≤ d ∧ AC X b e32 MX13_over [vR b, vI x1, vI 5] s29 (aRV fun  s35 => ∀ s36 : Rm, s36 = wS s35 97 y28 → Q (.inl (some (vI 2))) s36)) ∧ (¬ (aI s29 49 (x1 : Int32).toNatClampNeg) = 0 → ∃ e37 : Nat, e37 + 1 ≤ d ∧ AC X b e37 MX13_thrownInto [vR b, vI 0, vI x1, vI y28] s29 (aRV fun  s40 => ∃ e41 : Nat, e41 + 1 ≤ d ∧ AC X b e41 MX13_goes [vR b] s40 (aRI fun y44 s45 => Q (.inl (some (vI y44))) s45)))))) ∧ (¬ y22 = 0 → Q (.inl (some (vI 3))) s23)))))))))) ∧ (¬ y4 = 0 → Q (.inl (some (vI (-2)))) s5)))) : A X b d MX13_inject 0 [(0, vR b), (1, vI x1), (2, vI x2), (3, vI x3)] [] σ Q := by
  refine A_p (fun T Q _ _ k => V_aload_n (pc2 := 1) (dk D_X13_inject 0 rfl) rfl (V_lg 0 rfl) rfl k) ?_
  obtain ⟨e1, he2, hc3⟩ := h
  refine A_call (st := []) (pc2 := 4) (fun T Q Qc L hc k => V_callV (as := []) (st := []) (M' := MX13_isSilent) (ci := 13) (pc2 := 4) (dk D_X13_inject 1 rfl) ml_13_619 mv_X13_isSilent rfl rfl (by decide) rfl (Nat.le_of_ble_eq_true rfl) rfl he2 L.2.1 hc k) hc3 (aRI.k fun y4 s5 h => ?_)
  refine A_if (pa := 10) (pb := 7) (fun T Q k1 k2 => V_ifeq (tgt := 10) (pc2 := 7) (dk D_X13_inject 2 rfl) (by decide) rfl (fun q => k1 q) (fun q => k2 q)) (fun q6 => ?_) (fun q6 => ?_)
  · have h := h.1 q6
    refine A_p (fun T Q _ _ k => V_aload_n (pc2 := 11) (dk D_X13_inject 5 rfl) rfl (V_lg 0 rfl) rfl k) ?_
    refine A_p (fun T Q _ _ k => V_iload_n (pc2 := 12) (dk D_X13_inject 6 rfl) rfl (V_lg 1 rfl) rfl k) ?_
    obtain ⟨e7, he8, hc9⟩ := h
    refine A_call (st := []) (pc2 := 15) (fun T Q Qc L hc k => V_callV (as := [_]) (st := []) (M' := MX13_isVoice) (ci := 13) (pc2 := 15) (dk D_X13_inject 7 rfl) ml_13_554 mv_X13_isVoice rfl rfl (by decide) rfl (Nat.le_of_ble_eq_true rfl) rfl he8 L.2.1 hc k) hc9 (aRI.k fun y10 s11 h => ?_)
    refine A_if (pa := 28) (pb := 18) (fun T Q k1 k2 => V_ifeq (tgt := 28) (pc2 := 18) (dk D_X13_inject 8 rfl) (by decide) rfl (fun q => k1 q) (fun q => k2 q)) (fun q12 => ?_) (fun q12 => ?_)
    · have h := h.1 q12
      exact h
    · have h := h.2 q12
      refine A_p (fun T Q _ _ k => V_iload_n (pc2 := 19) (dk D_X13_inject 9 rfl) rfl (V_lg 2 rfl) rfl k) ?_
      refine A_p (fun T Q _ _ k => V_iconst (x := 0) (pc2 := 20) (dk D_X13_inject 10 rfl) (by decide) rfl k) ?_
      refine A_p (fun T Q _ _ k => V_bipush (x := 9) (pc2 := 22) (dk D_X13_inject 11 rfl) (by decide) rfl k) ?_
      obtain ⟨e13, he14, hc15⟩ := h
      refine A_call (st := []) (pc2 := 25) (fun T Q Qc L hc k => V_callS (as := [_, _, _]) (st := []) (M' := MX13_in) (pc2 := 25) (dk D_X13_inject 12 rfl) ml_13_292 mv_X13_in rfl rfl (Nat.le_of_ble_eq_true rfl) rfl he14 hc k) hc15 (aRI.k fun y16 s17 h => ?_)
      refine A_if (pa := 28) (pb := 30) (fun T Q k1 k2 => V_ifne (tgt := 30) (pc2 := 28) (dk D_X13_inject 13 rfl) (by decide) rfl (fun q => k2 q) (fun q => k1 q)) (fun q18 => ?_) (fun q18 => ?_)
      · have h := h.1 q18
        exact h
      · have h := h.2 q18
        refine A_p (fun T Q _ _ k => V_aload_n (pc2 := 31) (dk D_X13_inject 16 rfl) rfl (V_lg 0 rfl) rfl k) ?_
        refine A_p (fun T Q _ _ k => V_iload_n (pc2 := 32) (dk D_X13_inject 17 rfl) rfl (V_lg 1 rfl) rfl k) ?_
        obtain ⟨e19, he20, hc21⟩ := h
        refine A_call (st := []) (pc2 := 35) (fun T Q Qc L hc k => V_callV (as := [_]) (st := []) (M' := MX13_isOver) (ci := 13) (pc2 := 35) (dk D_X13_inject 18 rfl) ml_13_510 mv_X13_isOver rfl rfl (by decide) rfl (Nat.le_of_ble_eq_true rfl) rfl he20 L.2.1 hc k) hc21 (aRI.k fun y22 s23 h => ?_)
        refine A_if (pa := 40) (pb := 38) (fun T Q k1 k2 => V_ifeq (tgt := 40) (pc2 := 38) (dk D_X13_inject 19 rfl) (by decide) rfl (fun q => k1 q) (fun q => k2 q)) (fun q24 => ?_) (fun q24 => ?_)
        · have h := h.1 q24
          refine A_p (fun T Q _ _ k => V_aload_n (pc2 := 41) (dk D_X13_inject 22 rfl) rfl (V_lg 0 rfl) rfl k) ?_
          refine A_p (fun T Q _ _ k => V_iload_n (pc2 := 42) (dk D_X13_inject 23 rfl) rfl (V_lg 2 rfl) rfl k) ?_
          refine A_p (fun T Q _ _ k => V_iload_n (pc2 := 43) (dk D_X13_inject 24 rfl) rfl (V_lg 3 rfl) rfl k) ?_
          refine A_p (fun T Q _ _ k => V_iconst (x := 0) (pc2 := 44) (dk D_X13_inject 25 rfl) (by decide) rfl k) ?_
          refine A_p (fun T Q _ _ k => V_bipush (x := (-9)) (pc2 := 46) (dk D_X13_inject 26 rfl) (by decide) rfl k) ?_
          refine A_p (fun T Q _ _ k => V_bipush (x := (-9)) (pc2 := 48) (dk D_X13_inject 27 rfl) (by decide) rfl k) ?_
          obtain ⟨e25, he26, hc27⟩ := h
          refine A_call (st := []) (pc2 := 51) (fun T Q Qc L hc k => V_callV (as := [_, _, _, _, _]) (st := []) (M' := MX13_failure) (ci := 13) (pc2 := 51) (dk D_X13_inject 28 rfl) ml_13_525 mv_X13_failure rfl rfl (by decide) rfl (Nat.le_of_ble_eq_true rfl) rfl he26 L.2.1 hc k) hc27 (aRI.k fun y28 s29 h => ?_)
          refine A_p (fun T Q _ _ k => V_istore (pc2 := 53) (lv2 := [(0, _), (1, _), (2, _), (3, _), (4, _)]) (dk D_X13_inject 29 rfl) (by decide) rfl rfl k) ?_
          refine A_p (fun T Q _ _ k => V_aload_n (pc2 := 54) (dk D_X13_inject 30 rfl) rfl (V_lg 0 rfl) rfl k) ?_
          refine A_ar (pc2 := 57) (a := 33) 49 (dk D_X13_inject 31 rfl) fl_13_161 (by decide) (by decide) rfl (fun _ => rfl) rfl ?_
          refine A_p (fun T Q _ _ k => V_iload_n (pc2 := 58) (dk D_X13_inject 32 rfl) rfl (V_lg 1 rfl) rfl k) ?_
          obtain ⟨h30, h⟩ := h
          refine A_ild (pc2 := 59) 49 (dk D_X13_inject 33 rfl) rfl (by decide) rfl (by decide) rfl rfl h30 ?_
          refine A_if (pa := 62) (pb := 76) (fun T Q k1 k2 => V_ifne (tgt := 76) (pc2 := 62) (dk D_X13_inject 34 rfl) (by decide) rfl (fun q => k2 q) (fun q => k1 q)) (fun q31 => ?_) (fun q31 => ?_)
          · have h := h.1 q31
            refine A_p (fun T Q _ _ k => V_aload_n (pc2 := 63) (dk D_X13_inject 35 rfl) rfl (V_lg 0 rfl) rfl k) ?_
            refine A_p (fun T Q _ _ k => V_iload_n (pc2 := 64) (dk D_X13_inject 36 rfl) rfl (V_lg 1 rfl) rfl k) ?_
            refine A_p (fun T Q _ _ k => V_iconst (x := 5) (pc2 := 65) (dk D_X13_inject 37 rfl) (by decide) rfl k) ?_
            obtain ⟨e32, he33, hc34⟩ := h
            refine A_call (st := []) (pc2 := 68) (fun T Q Qc L hc k => V_callV (as := [_, _]) (st := []) (M' := MX13_over) (ci := 13) (pc2 := 68) (dk D_X13_inject 38 rfl) ml_13_513 mv_X13_over rfl rfl (by decide) rfl (Nat.le_of_ble_eq_true rfl) rfl he33 L.2.1 hc k) hc34 (aRV.k fun  s35 h => ?_)
            refine A_p (fun T Q _ _ k => V_aload_n (pc2 := 69) (dk D_X13_inject 39 rfl) rfl (V_lg 0 rfl) rfl k) ?_
            refine A_p (fun T Q _ _ k => V_iload (pc2 := 71) (dk D_X13_inject 40 rfl) (V_lg 4 rfl) rfl k) ?_
            refine A_put (pc2 := 74) 97 (dk D_X13_inject 41 rfl) fl_13_491 (by decide) rfl rfl rfl rfl ?_
            have h := h _ rfl
            refine A_p (fun T Q _ _ k => V_iconst (x := 2) (pc2 := 75) (dk D_X13_inject 42 rfl) (by decide) rfl k) ?_
            exact A_ret (fun T Q _ k => V_ireturn (dk D_X13_inject 43 rfl) rfl k) h
          · have h := h.2 q31
            refine A_p (fun T Q _ _ k => V_aload_n (pc2 := 77) (dk D_X13_inject 44 rfl) rfl (V_lg 0 rfl) rfl k) ?_
            refine A_p (fun T Q _ _ k => V_iconst (x := 0) (pc2 := 78) (dk D_X13_inject 45 rfl) (by decide) rfl k) ?_
            refine A_p (fun T Q _ _ k => V_iload_n (pc2 := 79) (dk D_X13_inject 46 rfl) rfl (V_lg 1 rfl) rfl k) ?_
            refine A_p (fun T Q _ _ k => V_iload (pc2 := 81) (dk D_X13_inject 47 rfl) (V_lg 4 rfl) rfl k) ?_
            obtain ⟨e37, he38, hc39⟩ := h
            refine A_call (st := []) (pc2 := 84) (fun T Q Qc L hc k => V_callV (as := [_, _, _]) (st := []) (M' := MX13_thrownInto) (ci := 13) (pc2 := 84) (dk D_X13_inject 48 rfl) ml_13_573 mv_X13_thrownInto rfl rfl (by decide) rfl (Nat.le_of_ble_eq_true rfl) rfl he38 L.2.1 hc k) hc39 (aRV.k fun  s40 h => ?_)
            refine A_p (fun T Q _ _ k => V_aload_n (pc2 := 85) (dk D_X13_inject 49 rfl) rfl (V_lg 0 rfl) rfl k) ?_
            obtain ⟨e41, he42, hc43⟩ := h
            refine A_call (st := []) (pc2 := 88) (fun T Q Qc L hc k => V_callV (as := []) (st := []) (M' := MX13_goes) (ci := 13) (pc2 := 88) (dk D_X13_inject 50 rfl) ml_13_623 mv_X13_goes rfl rfl (by decide) rfl (Nat.le_of_ble_eq_true rfl) rfl he42 L.2.1 hc k) hc43 (aRI.k fun y44 s45 h => ?_)
            exact A_ret (fun T Q _ k => V_ireturn (dk D_X13_inject 51 rfl) rfl k) h
        · have h := h.2 q24
          refine A_p (fun T Q _ _ k => V_iconst (x := 3) (pc2 := 39) (dk D_X13_inject 20 rfl) (by decide) rfl k) ?_
          exact A_ret (fun T Q _ k => V_ireturn (dk D_X13_inject 21 rfl) rfl k) h
  · have h := h.2 q6
    refine A_p (fun T Q _ _ k => V_bipush (x := (-2)) (pc2 := 9) (dk D_X13_inject 3 rfl) (by decide) rfl k) ?_
    exact A_ret (fun T Q _ k => V_ireturn (dk D_X13_inject 4 rfl) rfl k) h
theorem a_close_0 {X : Cx} {b d : Nat} {σ : Rm} {Q : Res → Rm → Prop} (x1 : Int32) (h : ∃ e1 : Nat, e1 + 1 ≤ d ∧ AC X b e1 MX13_isSilent [vR b] σ (aRI fun y4 s5 => ((y4 = 0 → ∃ e7 : Nat, e7 + 1 ≤ d ∧ AC X b e7 MX13_isVoice [vR b, vI x1] s5 (aRI fun y10 s11 => ((y10 = 0 → A X b d MX13_close 30 [(0, vR b), (1, vI x1)] [vI (-1)] s11 Q) ∧ (¬ y10 = 0 → ∃ e13 : Nat, e13 + 1 ≤ d ∧ AC X b e13 MX13_closes_ [vR b, vI x1, vI 1] s11 (aRI fun y16 s17 => A X b d MX13_close 30 [(0, vR b), (1, vI x1)] [vI y16] s17 Q))))) ∧ (¬ y4 = 0 → A X b d MX13_close 30 [(0, vR b), (1, vI x1)] [vI (-2)] s5 Q)))) : A X b d MX13_close 0 [(0, vR b), (1, vI x1)] [] σ Q := by
  refine A_p (fun T Q _ _ k => V_aload_n (pc2 := 1) (dk D_X13_close 0 rfl) rfl (V_lg 0 rfl) rfl k) ?_
  obtain ⟨e1, he2, hc3⟩ := h
  refine A_call (st := []) (pc2 := 4) (fun T Q Qc L hc k => V_callV (as := []) (st := []) (M' := MX13_isSilent) (ci := 13) (pc2 := 4) (dk D_X13_close 1 rfl) ml_13_619 mv_X13_isSilent rfl rfl (by decide) rfl (Nat.le_of_ble_eq_true rfl) rfl he2 L.2.1 hc k) hc3 (aRI.k fun y4 s5 h => ?_)
  refine A_if (pa := 12) (pb := 7) (fun T Q k1 k2 => V_ifeq (tgt := 12) (pc2 := 7) (dk D_X13_close 2 rfl) (by decide) rfl (fun q => k1 q) (fun q => k2 q)) (fun q6 => ?_) (fun q6 => ?_)
  · have h := h.1 q6
    refine A_p (fun T Q _ _ k => V_aload_n (pc2 := 13) (dk D_X13_close 5 rfl) rfl (V_lg 0 rfl) rfl k) ?_
    refine A_p (fun T Q _ _ k => V_iload_n (pc2 := 14) (dk D_X13_close 6 rfl) rfl (V_lg 1 rfl) rfl k) ?_
    obtain ⟨e7, he8, hc9⟩ := h
    refine A_call (st := []) (pc2 := 17) (fun T Q Qc L hc k => V_callV (as := [_]) (st := []) (M' := MX13_isVoice) (ci := 13) (pc2 := 17) (dk D_X13_close 7 rfl) ml_13_554 mv_X13_isVoice rfl rfl (by decide) rfl (Nat.le_of_ble_eq_true rfl) rfl he8 L.2.1 hc k) hc9 (aRI.k fun y10 s11 h => ?_)
    refine A_if (pa := 20) (pb := 24) (fun T Q k1 k2 => V_ifne (tgt := 24) (pc2 := 20) (dk D_X13_close 8 rfl) (by decide) rfl (fun q => k2 q) (fun q => k1 q)) (fun q12 => ?_) (fun q12 => ?_)
    · have h := h.1 q12
      refine A_p (fun T Q _ _ k => V_iconst (x := (-1)) (pc2 := 21) (dk D_X13_close 9 rfl) (by decide) rfl k) ?_
      refine A_p (fun T Q _ _ k => V_goto (tgt := 30) (dk D_X13_close 10 rfl) (by decide) k) ?_
      exact h
    · have h := h.2 q12
      refine A_p (fun T Q _ _ k => V_aload_n (pc2 := 25) (dk D_X13_close 11 rfl) rfl (V_lg 0 rfl) rfl k) ?_
      refine A_p (fun T Q _ _ k => V_iload_n (pc2 := 26) (dk D_X13_close 12 rfl) rfl (V_lg 1 rfl) rfl k) ?_
      refine A_p (fun T Q _ _ k => V_iconst (x := 1) (pc2 := 27) (dk D_X13_close 13 rfl) (by decide) rfl k) ?_
      obtain ⟨e13, he14, hc15⟩ := h
      refine A_call (st := []) (pc2 := 30) (fun T Q Qc L hc k => V_callV (as := [_, _]) (st := []) (M' := MX13_closes_) (ci := 13) (pc2 := 30) (dk D_X13_close 14 rfl) ml_13_626 mv_X13_closes_ rfl rfl (by decide) rfl (Nat.le_of_ble_eq_true rfl) rfl he14 L.2.1 hc k) hc15 (aRI.k fun y16 s17 h => ?_)
      exact h
  · have h := h.2 q6
    refine A_p (fun T Q _ _ k => V_bipush (x := (-2)) (pc2 := 9) (dk D_X13_close 3 rfl) (by decide) rfl k) ?_
    refine A_p (fun T Q _ _ k => V_goto (tgt := 30) (dk D_X13_close 4 rfl) (by decide) k) ?_
    exact h
theorem a_close_30 {X : Cx} {b d : Nat} {σ : Rm} {Q : Res → Rm → Prop} (x1 : Int32) (t0 : Int32) (h : Q (.inl (some (vI t0))) σ) : A X b d MX13_close 30 [(0, vR b), (1, vI x1)] [vI t0] σ Q := by
  exact A_ret (fun T Q _ k => V_ireturn (dk D_X13_close 15 rfl) rfl k) h
theorem a_sweep_0 {X : Cx} {b d : Nat} {σ : Rm} {Q : Res → Rm → Prop}  (h : ∃ e1 : Nat, e1 + 1 ≤ d ∧ AC X b e1 MX13_isSilent [vR b] σ (aRI fun y4 s5 => ((y4 = 0 → A X b d MX13_sweep 12 [(0, vR b), (1, vI 1)] [] s5 Q) ∧ (¬ y4 = 0 → Q (.inl (some (vI (-2)))) s5)))) : A X b d MX13_sweep 0 [(0, vR b)] [] σ Q := by
  refine A_p (fun T Q _ _ k => V_aload_n (pc2 := 1) (dk D_X13_sweep 0 rfl) rfl (V_lg 0 rfl) rfl k) ?_
  obtain ⟨e1, he2, hc3⟩ := h
  refine A_call (st := []) (pc2 := 4) (fun T Q Qc L hc k => V_callV (as := []) (st := []) (M' := MX13_isSilent) (ci := 13) (pc2 := 4) (dk D_X13_sweep 1 rfl) ml_13_619 mv_X13_isSilent rfl rfl (by decide) rfl (Nat.le_of_ble_eq_true rfl) rfl he2 L.2.1 hc k) hc3 (aRI.k fun y4 s5 h => ?_)
  refine A_if (pa := 10) (pb := 7) (fun T Q k1 k2 => V_ifeq (tgt := 10) (pc2 := 7) (dk D_X13_sweep 2 rfl) (by decide) rfl (fun q => k1 q) (fun q => k2 q)) (fun q6 => ?_) (fun q6 => ?_)
  · have h := h.1 q6
    refine A_p (fun T Q _ _ k => V_iconst (x := 1) (pc2 := 11) (dk D_X13_sweep 5 rfl) (by decide) rfl k) ?_
    refine A_p (fun T Q _ _ k => V_istore_n (pc2 := 12) (lv2 := [(0, _), (1, _)]) (dk D_X13_sweep 6 rfl) rfl (by decide) rfl rfl k) ?_
    exact h
  · have h := h.2 q6
    refine A_p (fun T Q _ _ k => V_bipush (x := (-2)) (pc2 := 9) (dk D_X13_sweep 3 rfl) (by decide) rfl k) ?_
    exact A_ret (fun T Q _ k => V_ireturn (dk D_X13_sweep 4 rfl) rfl k) h
theorem a_answer_0 {X : Cx} {b d : Nat} {σ : Rm} {Q : Res → Rm → Prop}  (h : (((sI σ 46) = 0 → A X b d MX13_answer 16 [(0, vR b)] [vI (-2)] σ Q) ∧ (¬ (sI σ 46) = 0 → A X b d MX13_answer 16 [(0, vR b)] [vI (sI σ 79)] σ Q))) : A X b d MX13_answer 0 [(0, vR b)] [] σ Q := by
  refine A_p (fun T Q _ _ k => V_aload_n (pc2 := 1) (dk D_X13_answer 0 rfl) rfl (V_lg 0 rfl) rfl k) ?_
  refine A_sc (pc2 := 4) 46 (dk D_X13_answer 1 rfl) fl_13_448 (by decide) rfl (fun _ => rfl) rfl ?_
  refine A_if (pa := 14) (pb := 7) (fun T Q k1 k2 => V_ifeq (tgt := 14) (pc2 := 7) (dk D_X13_answer 2 rfl) (by decide) rfl (fun q => k1 q) (fun q => k2 q)) (fun q1 => ?_) (fun q1 => ?_)
  · have h := h.1 q1
    refine A_p (fun T Q _ _ k => V_bipush (x := (-2)) (pc2 := 16) (dk D_X13_answer 6 rfl) (by decide) rfl k) ?_
    exact h
  · have h := h.2 q1
    refine A_p (fun T Q _ _ k => V_aload_n (pc2 := 8) (dk D_X13_answer 3 rfl) rfl (V_lg 0 rfl) rfl k) ?_
    refine A_sc (pc2 := 11) 79 (dk D_X13_answer 4 rfl) fl_13_476 (by decide) rfl (fun _ => rfl) rfl ?_
    refine A_p (fun T Q _ _ k => V_goto (tgt := 16) (dk D_X13_answer 5 rfl) (by decide) k) ?_
    exact h
theorem a_answer_16 {X : Cx} {b d : Nat} {σ : Rm} {Q : Res → Rm → Prop} (t0 : Int32) (h : Q (.inl (some (vI t0))) σ) : A X b d MX13_answer 16 [(0, vR b)] [vI t0] σ Q := by
  exact A_ret (fun T Q _ k => V_ireturn (dk D_X13_answer 7 rfl) rfl k) h
