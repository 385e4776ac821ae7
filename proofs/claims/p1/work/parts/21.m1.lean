theorem a_readBody_0 {X : Cx} {b d : Nat} {σ : Rm} {Q : Res → Rm → Prop}  (h : (((sI σ 18) = 12 → A X b d MX13_readBody 27 [(0, vR b)] [] σ Q) ∧ (¬ (sI σ 18) = 12 → ∃ e2 : Nat, e2 + 1 ≤ d ∧ AC X b e2 MX13_isWord [vR b, vR 4] σ (aRI fun y5 s6 => ((y5 = 0 → ∃ e8 : Nat, e8 + 1 ≤ d ∧ AC X b e8 MX13_isWord [vR b, vR 5] s6 (aRI fun y11 s12 => ((y11 = 0 → A X b d MX13_readBody 27 [(0, vR b)] [] s12 Q) ∧ (¬ y11 = 0 → A X b d MX13_readBody 40 [(0, vR b)] [] s12 Q)))) ∧ (¬ y5 = 0 → A X b d MX13_readBody 40 [(0, vR b)] [] s6 Q)))))) : A X b d MX13_readBody 0 [(0, vR b)] [] σ Q := by
  refine A_p (fun T Q _ _ k => V_aload_n (pc2 := 1) (dk D_X13_readBody 0 rfl) rfl (V_lg 0 rfl) rfl k) ?_
  refine A_sc (pc2 := 4) 18 (dk D_X13_readBody 1 rfl) fl_13_445 (by decide) rfl (fun _ => rfl) rfl ?_
  refine A_p (fun T Q _ _ k => V_bipush (x := 12) (pc2 := 6) (dk D_X13_readBody 2 rfl) (by decide) rfl k) ?_
  refine A_if (pa := 27) (pb := 9) (fun T Q k1 k2 => V_cmpeq (tgt := 27) (pc2 := 9) (dk D_X13_readBody 3 rfl) (by decide) rfl (fun q => k1 q) (fun q => k2 q)) (fun q1 => ?_) (fun q1 => ?_)
  · have h := h.1 q1
    exact h
  · have h := h.2 q1
    refine A_p (fun T Q _ _ k => V_aload_n (pc2 := 10) (dk D_X13_readBody 4 rfl) rfl (V_lg 0 rfl) rfl k) ?_
    refine A_p (fun T Q _ _ k => V_ldcs 2 (pc2 := 12) (dk D_X13_readBody 5 rfl) rfl rfl k) ?_
    obtain ⟨e2, he3, hc4⟩ := h
    refine A_call (st := []) (pc2 := 15) (fun T Q Qc L hc k => V_callV (as := [_]) (st := []) (M' := MX13_isWord) (ci := 13) (pc2 := 15) (dk D_X13_readBody 6 rfl) ml_13_341 mv_X13_isWord rfl rfl (by decide) rfl (Nat.le_of_ble_eq_true rfl) rfl he3 L.2.1 hc k) hc4 (aRI.k fun y5 s6 h => ?_)
    refine A_if (pa := 18) (pb := 40) (fun T Q k1 k2 => V_ifne (tgt := 40) (pc2 := 18) (dk D_X13_readBody 7 rfl) (by decide) rfl (fun q => k2 q) (fun q => k1 q)) (fun q7 => ?_) (fun q7 => ?_)
    · have h := h.1 q7
      refine A_p (fun T Q _ _ k => V_aload_n (pc2 := 19) (dk D_X13_readBody 8 rfl) rfl (V_lg 0 rfl) rfl k) ?_
      refine A_p (fun T Q _ _ k => V_ldcs 3 (pc2 := 21) (dk D_X13_readBody 9 rfl) rfl rfl k) ?_
      obtain ⟨e8, he9, hc10⟩ := h
      refine A_call (st := []) (pc2 := 24) (fun T Q Qc L hc k => V_callV (as := [_]) (st := []) (M' := MX13_isWord) (ci := 13) (pc2 := 24) (dk D_X13_readBody 10 rfl) ml_13_341 mv_X13_isWord rfl rfl (by decide) rfl (Nat.le_of_ble_eq_true rfl) rfl he9 L.2.1 hc k) hc10 (aRI.k fun y11 s12 h => ?_)
      refine A_if (pa := 27) (pb := 40) (fun T Q k1 k2 => V_ifne (tgt := 40) (pc2 := 27) (dk D_X13_readBody 11 rfl) (by decide) rfl (fun q => k2 q) (fun q => k1 q)) (fun q13 => ?_) (fun q13 => ?_)
      · have h := h.1 q13
        exact h
      · have h := h.2 q13
        exact h
    · have h := h.2 q7
      exact h
theorem a_readBody_27 {X : Cx} {b d : Nat} {σ : Rm} {Q : Res → Rm → Prop}  (h : (vp_in (sI σ 10) 3002) ∧ ∃ e2 : Nat, e2 + 1 ≤ d ∧ AC X b e2 MX13_fail [vR b, vI (aI σ 6 ((sI σ 10) : Int32).toNatClampNeg)] σ (aTV Q fun  s5 => A X b d MX13_readBody 40 [(0, vR b)] [] s5 Q)) : A X b d MX13_readBody 27 [(0, vR b)] [] σ Q := by
  refine A_p (fun T Q _ _ k => V_aload_n (pc2 := 28) (dk D_X13_readBody 12 rfl) rfl (V_lg 0 rfl) rfl k) ?_
  refine A_p (fun T Q _ _ k => V_aload_n (pc2 := 29) (dk D_X13_readBody 13 rfl) rfl (V_lg 0 rfl) rfl k) ?_
  refine A_ar (pc2 := 32) (a := 5) 6 (dk D_X13_readBody 14 rfl) fl_13_27 (by decide) (by decide) rfl (fun _ => rfl) rfl ?_
  refine A_p (fun T Q _ _ k => V_aload_n (pc2 := 33) (dk D_X13_readBody 15 rfl) rfl (V_lg 0 rfl) rfl k) ?_
  refine A_sc (pc2 := 36) 10 (dk D_X13_readBody 16 rfl) fl_13_331 (by decide) rfl (fun _ => rfl) rfl ?_
  obtain ⟨h1, h⟩ := h
  refine A_ild (pc2 := 37) 6 (dk D_X13_readBody 17 rfl) rfl (by decide) rfl (by decide) rfl rfl h1 ?_
  obtain ⟨e2, he3, hc4⟩ := h
  refine A_callT (st := []) (pc2 := 40) (fun T Q Qc L hc k => V_callVT (as := [_]) (st := []) (M' := MX13_fail) (ci := 13) (pc2 := 40) (dk D_X13_readBody 18 rfl) ml_13_337 mv_X13_fail rfl rfl (by decide) rfl (Nat.le_of_ble_eq_true rfl) rfl (by decide) he3 L.2.1 hc k) hc4 (aTV.k fun  s5 h => ?_)
  exact h
theorem a_body_0 {X : Cx} {b d : Nat} {σ : Rm} {Q : Res → Rm → Prop} (x1 : Int32) (x2 : Int32) (h : (((sI σ 46) = 0 → Q (.inl (some (vI (-2)))) σ) ∧ (¬ (sI σ 46) = 0 → ∃ e2 : Nat, e2 + 1 ≤ d ∧ AC X b e2 MX13_in [vI x1, vI 0, vI ((sI σ 18) - 1)] σ (aRI fun y5 s6 => ((y5 = 0 → A X b d MX13_body 33 [(0, vR b), (1, vI x1), (2, vI x2)] [] s6 Q) ∧ (¬ y5 = 0 → ∃ e8 : Nat, e8 + 1 ≤ d ∧ AC X b e8 MX13_in [vI x2, vI 0, vI 3] s6 (aRI fun y11 s12 => ((y11 = 0 → A X b d MX13_body 33 [(0, vR b), (1, vI x1), (2, vI x2)] [] s12 Q) ∧ (¬ y11 = 0 → ((x2 = 0 → (vp_in x1 12) ∧ A X b d MX13_body 82 [(0, vR b), (1, vI x1), (2, vI x2)] [vI (aI s12 19 (x1 : Int32).toNatClampNeg)] s12 Q) ∧ (¬ x2 = 0 → ((x2 = 1 → (vp_in x1 12) ∧ A X b d MX13_body 82 [(0, vR b), (1, vI x1), (2, vI x2)] [vI (aI s12 20 (x1 : Int32).toNatClampNeg)] s12 Q) ∧ (¬ x2 = 1 → ((x2 = 2 → (vp_in x1 12) ∧ A X b d MX13_body 82 [(0, vR b), (1, vI x1), (2, vI x2)] [vI (aI s12 21 (x1 : Int32).toNatClampNeg)] s12 Q) ∧ (¬ x2 = 2 → (vp_in x1 12) ∧ A X b d MX13_body 82 [(0, vR b), (1, vI x1), (2, vI x2)] [vI (aI s12 22 (x1 : Int32).toNatClampNeg)] s12 Q))))))))))))))) : A X b d MX13_body 0 [(0, vR b), (1, vI x1), (2, vI x2)] [] σ Q := by
  refine A_p (fun T Q _ _ k => V_aload_n (pc2 := 1) (dk D_X13_body 0 rfl) rfl (V_lg 0 rfl) rfl k) ?_
  refine A_sc (pc2 := 4) 46 (dk D_X13_body 1 rfl) fl_13_448 (by decide) rfl (fun _ => rfl) rfl ?_
  refine A_if (pa := 7) (pb := 10) (fun T Q k1 k2 => V_ifne (tgt := 10) (pc2 := 7) (dk D_X13_body 2 rfl) (by decide) rfl (fun q => k2 q) (fun q => k1 q)) (fun q1 => ?_) (fun q1 => ?_)
  · have h := h.1 q1
    refine A_p (fun T Q _ _ k => V_bipush (x := (-2)) (pc2 := 9) (dk D_X13_body 3 rfl) (by decide) rfl k) ?_
    exact A_ret (fun T Q _ k => V_ireturn (dk D_X13_body 4 rfl) rfl k) h
  · have h := h.2 q1
    refine A_p (fun T Q _ _ k => V_iload_n (pc2 := 11) (dk D_X13_body 5 rfl) rfl (V_lg 1 rfl) rfl k) ?_
    refine A_p (fun T Q _ _ k => V_iconst (x := 0) (pc2 := 12) (dk D_X13_body 6 rfl) (by decide) rfl k) ?_
    refine A_p (fun T Q _ _ k => V_aload_n (pc2 := 13) (dk D_X13_body 7 rfl) rfl (V_lg 0 rfl) rfl k) ?_
    refine A_sc (pc2 := 16) 18 (dk D_X13_body 8 rfl) fl_13_445 (by decide) rfl (fun _ => rfl) rfl ?_
    refine A_p (fun T Q _ _ k => V_iconst (x := 1) (pc2 := 17) (dk D_X13_body 9 rfl) (by decide) rfl k) ?_
    refine A_p (fun T Q _ _ k => V_isub (pc2 := 18) (dk D_X13_body 10 rfl) rfl k) ?_
    obtain ⟨e2, he3, hc4⟩ := h
    refine A_call (st := []) (pc2 := 21) (fun T Q Qc L hc k => V_callS (as := [_, _, _]) (st := []) (M' := MX13_in) (pc2 := 21) (dk D_X13_body 11 rfl) ml_13_292 mv_X13_in rfl rfl (Nat.le_of_ble_eq_true rfl) rfl he3 hc k) hc4 (aRI.k fun y5 s6 h => ?_)
    refine A_if (pa := 33) (pb := 24) (fun T Q k1 k2 => V_ifeq (tgt := 33) (pc2 := 24) (dk D_X13_body 12 rfl) (by decide) rfl (fun q => k1 q) (fun q => k2 q)) (fun q7 => ?_) (fun q7 => ?_)
    · have h := h.1 q7
      exact h
    · have h := h.2 q7
      refine A_p (fun T Q _ _ k => V_iload_n (pc2 := 25) (dk D_X13_body 13 rfl) rfl (V_lg 2 rfl) rfl k) ?_
      refine A_p (fun T Q _ _ k => V_iconst (x := 0) (pc2 := 26) (dk D_X13_body 14 rfl) (by decide) rfl k) ?_
      refine A_p (fun T Q _ _ k => V_iconst (x := 3) (pc2 := 27) (dk D_X13_body 15 rfl) (by decide) rfl k) ?_
      obtain ⟨e8, he9, hc10⟩ := h
      refine A_call (st := []) (pc2 := 30) (fun T Q Qc L hc k => V_callS (as := [_, _, _]) (st := []) (M' := MX13_in) (pc2 := 30) (dk D_X13_body 16 rfl) ml_13_292 mv_X13_in rfl rfl (Nat.le_of_ble_eq_true rfl) rfl he9 hc k) hc10 (aRI.k fun y11 s12 h => ?_)
      refine A_if (pa := 33) (pb := 35) (fun T Q k1 k2 => V_ifne (tgt := 35) (pc2 := 33) (dk D_X13_body 17 rfl) (by decide) rfl (fun q => k2 q) (fun q => k1 q)) (fun q13 => ?_) (fun q13 => ?_)
      · have h := h.1 q13
        exact h
      · have h := h.2 q13
        refine A_p (fun T Q _ _ k => V_iload_n (pc2 := 36) (dk D_X13_body 20 rfl) rfl (V_lg 2 rfl) rfl k) ?_
        refine A_if (pa := 39) (pb := 48) (fun T Q k1 k2 => V_ifne (tgt := 48) (pc2 := 39) (dk D_X13_body 21 rfl) (by decide) rfl (fun q => k2 q) (fun q => k1 q)) (fun q14 => ?_) (fun q14 => ?_)
        · have h := h.1 q14
          refine A_p (fun T Q _ _ k => V_aload_n (pc2 := 40) (dk D_X13_body 22 rfl) rfl (V_lg 0 rfl) rfl k) ?_
          refine A_ar (pc2 := 43) (a := 14) 19 (dk D_X13_body 23 rfl) fl_13_104 (by decide) (by decide) rfl (fun _ => rfl) rfl ?_
          refine A_p (fun T Q _ _ k => V_iload_n (pc2 := 44) (dk D_X13_body 24 rfl) rfl (V_lg 1 rfl) rfl k) ?_
          obtain ⟨h15, h⟩ := h
          refine A_ild (pc2 := 45) 19 (dk D_X13_body 25 rfl) rfl (by decide) rfl (by decide) rfl rfl h15 ?_
          refine A_p (fun T Q _ _ k => V_goto (tgt := 82) (dk D_X13_body 26 rfl) (by decide) k) ?_
          exact h
        · have h := h.2 q14
          refine A_p (fun T Q _ _ k => V_iload_n (pc2 := 49) (dk D_X13_body 27 rfl) rfl (V_lg 2 rfl) rfl k) ?_
          refine A_p (fun T Q _ _ k => V_iconst (x := 1) (pc2 := 50) (dk D_X13_body 28 rfl) (by decide) rfl k) ?_
          refine A_if (pa := 53) (pb := 62) (fun T Q k1 k2 => V_cmpne (tgt := 62) (pc2 := 53) (dk D_X13_body 29 rfl) (by decide) rfl (fun q => k2 q) (fun q => k1 q)) (fun q16 => ?_) (fun q16 => ?_)
          · have h := h.1 q16
            refine A_p (fun T Q _ _ k => V_aload_n (pc2 := 54) (dk D_X13_body 30 rfl) rfl (V_lg 0 rfl) rfl k) ?_
            refine A_ar (pc2 := 57) (a := 15) 20 (dk D_X13_body 31 rfl) fl_13_107 (by decide) (by decide) rfl (fun _ => rfl) rfl ?_
            refine A_p (fun T Q _ _ k => V_iload_n (pc2 := 58) (dk D_X13_body 32 rfl) rfl (V_lg 1 rfl) rfl k) ?_
            obtain ⟨h17, h⟩ := h
            refine A_ild (pc2 := 59) 20 (dk D_X13_body 33 rfl) rfl (by decide) rfl (by decide) rfl rfl h17 ?_
            refine A_p (fun T Q _ _ k => V_goto (tgt := 82) (dk D_X13_body 34 rfl) (by decide) k) ?_
            exact h
          · have h := h.2 q16
            refine A_p (fun T Q _ _ k => V_iload_n (pc2 := 63) (dk D_X13_body 35 rfl) rfl (V_lg 2 rfl) rfl k) ?_
            refine A_p (fun T Q _ _ k => V_iconst (x := 2) (pc2 := 64) (dk D_X13_body 36 rfl) (by decide) rfl k) ?_
            refine A_if (pa := 67) (pb := 76) (fun T Q k1 k2 => V_cmpne (tgt := 76) (pc2 := 67) (dk D_X13_body 37 rfl) (by decide) rfl (fun q => k2 q) (fun q => k1 q)) (fun q18 => ?_) (fun q18 => ?_)
            · have h := h.1 q18
              refine A_p (fun T Q _ _ k => V_aload_n (pc2 := 68) (dk D_X13_body 38 rfl) rfl (V_lg 0 rfl) rfl k) ?_
              refine A_ar (pc2 := 71) (a := 16) 21 (dk D_X13_body 39 rfl) fl_13_110 (by decide) (by decide) rfl (fun _ => rfl) rfl ?_
              refine A_p (fun T Q _ _ k => V_iload_n (pc2 := 72) (dk D_X13_body 40 rfl) rfl (V_lg 1 rfl) rfl k) ?_
              obtain ⟨h19, h⟩ := h
              refine A_ild (pc2 := 73) 21 (dk D_X13_body 41 rfl) rfl (by decide) rfl (by decide) rfl rfl h19 ?_
              refine A_p (fun T Q _ _ k => V_goto (tgt := 82) (dk D_X13_body 42 rfl) (by decide) k) ?_
              exact h
            · have h := h.2 q18
              refine A_p (fun T Q _ _ k => V_aload_n (pc2 := 77) (dk D_X13_body 43 rfl) rfl (V_lg 0 rfl) rfl k) ?_
              refine A_ar (pc2 := 80) (a := 17) 22 (dk D_X13_body 44 rfl) fl_13_113 (by decide) (by decide) rfl (fun _ => rfl) rfl ?_
              refine A_p (fun T Q _ _ k => V_iload_n (pc2 := 81) (dk D_X13_body 45 rfl) rfl (V_lg 1 rfl) rfl k) ?_
              obtain ⟨h20, h⟩ := h
              refine A_ild (pc2 := 82) 22 (dk D_X13_body 46 rfl) rfl (by decide) rfl (by decide) rfl rfl h20 ?_
              exact h
theorem a_begins_0 {X : Cx} {b d : Nat} {σ : Rm} {Q : Res → Rm → Prop}  (h : ∀ s1 : Rm, s1 = wS σ 47 0 → ∀ s2 : Rm, s2 = wS s1 48 0 → A X b d MX13_begins 12 [(0, vR b), (1, vI 0)] [] s2 Q) : A X b d MX13_begins 0 [(0, vR b)] [] σ Q := by
  refine A_p (fun T Q _ _ k => V_aload_n (pc2 := 1) (dk D_X13_begins 0 rfl) rfl (V_lg 0 rfl) rfl k) ?_
  refine A_p (fun T Q _ _ k => V_iconst (x := 0) (pc2 := 2) (dk D_X13_begins 1 rfl) (by decide) rfl k) ?_
  refine A_put (pc2 := 5) 47 (dk D_X13_begins 2 rfl) fl_13_461 (by decide) rfl rfl rfl rfl ?_
  have h := h _ rfl
  refine A_p (fun T Q _ _ k => V_aload_n (pc2 := 6) (dk D_X13_begins 3 rfl) rfl (V_lg 0 rfl) rfl k) ?_
  refine A_p (fun T Q _ _ k => V_iconst (x := 0) (pc2 := 7) (dk D_X13_begins 4 rfl) (by decide) rfl k) ?_
  refine A_put (pc2 := 10) 48 (dk D_X13_begins 5 rfl) fl_13_464 (by decide) rfl rfl rfl rfl ?_
  have h := h _ rfl
  refine A_p (fun T Q _ _ k => V_iconst (x := 0) (pc2 := 11) (dk D_X13_begins 6 rfl) (by decide) rfl k) ?_
  refine A_p (fun T Q _ _ k => V_istore_n (pc2 := 12) (lv2 := [(0, _), (1, _)]) (dk D_X13_begins 7 rfl) rfl (by decide) rfl rfl k) ?_
  exact h
theorem a_begins_12 {X : Cx} {b d : Nat} {σ : Rm} {Q : Res → Rm → Prop} (x1 : Int32) (h : ((12 ≤ x1 → ∀ s2 : Rm, s2 = wS σ 75 0 → ∀ s3 : Rm, s3 = wS s2 76 0 → ∀ s4 : Rm, s4 = wS s3 77 0 → ∀ s5 : Rm, s5 = wS s4 79 0 → ∀ s6 : Rm, s6 = wS s5 80 0 → ∀ s7 : Rm, s7 = wS s6 83 0 → ∀ s8 : Rm, s8 = wS s7 87 0 → ∀ s9 : Rm, s9 = wS s8 88 0 → ∀ s10 : Rm, s10 = wS s9 97 (-9) → Q (.inl none) s10) ∧ (¬ 12 ≤ x1 → (vp_in x1 12) ∧ ∀ s12 : Rm, s12 = wI σ 59 ((x1 : Int32).toNatClampNeg) 0 → A X b d MX13_begins 12 [(0, vR b), (1, vI (x1 + 1))] [] s12 Q))) : A X b d MX13_begins 12 [(0, vR b), (1, vI x1)] [] σ Q := by
  refine A_p (fun T Q _ _ k => V_iload_n (pc2 := 13) (dk D_X13_begins 8 rfl) rfl (V_lg 1 rfl) rfl k) ?_
  refine A_p (fun T Q _ _ k => V_bipush (x := 12) (pc2 := 15) (dk D_X13_begins 9 rfl) (by decide) rfl k) ?_
  refine A_if (pa := 31) (pb := 18) (fun T Q k1 k2 => V_cmpge (tgt := 31) (pc2 := 18) (dk D_X13_begins 10 rfl) (by decide) rfl (fun q => k1 q) (fun q => k2 q)) (fun q1 => ?_) (fun q1 => ?_)
  · have h := h.1 q1
    refine A_p (fun T Q _ _ k => V_aload_n (pc2 := 32) (dk D_X13_begins 18 rfl) rfl (V_lg 0 rfl) rfl k) ?_
    refine A_p (fun T Q _ _ k => V_iconst (x := 0) (pc2 := 33) (dk D_X13_begins 19 rfl) (by decide) rfl k) ?_
    refine A_put (pc2 := 36) 75 (dk D_X13_begins 20 rfl) fl_13_467 (by decide) rfl rfl rfl rfl ?_
    have h := h _ rfl
    refine A_p (fun T Q _ _ k => V_aload_n (pc2 := 37) (dk D_X13_begins 21 rfl) rfl (V_lg 0 rfl) rfl k) ?_
    refine A_p (fun T Q _ _ k => V_iconst (x := 0) (pc2 := 38) (dk D_X13_begins 22 rfl) (by decide) rfl k) ?_
    refine A_putZ (pc2 := 41) 76 (dk D_X13_begins 23 rfl) fl_13_470 (by decide) rfl rfl rfl rfl (Or.inl rfl) ?_
    have h := h _ rfl
    refine A_p (fun T Q _ _ k => V_aload_n (pc2 := 42) (dk D_X13_begins 24 rfl) rfl (V_lg 0 rfl) rfl k) ?_
    refine A_p (fun T Q _ _ k => V_iconst (x := 0) (pc2 := 43) (dk D_X13_begins 25 rfl) (by decide) rfl k) ?_
    refine A_put (pc2 := 46) 77 (dk D_X13_begins 26 rfl) fl_13_473 (by decide) rfl rfl rfl rfl ?_
    have h := h _ rfl
    refine A_p (fun T Q _ _ k => V_aload_n (pc2 := 47) (dk D_X13_begins 27 rfl) rfl (V_lg 0 rfl) rfl k) ?_
    refine A_p (fun T Q _ _ k => V_iconst (x := 0) (pc2 := 48) (dk D_X13_begins 28 rfl) (by decide) rfl k) ?_
    refine A_put (pc2 := 51) 79 (dk D_X13_begins 29 rfl) fl_13_476 (by decide) rfl rfl rfl rfl ?_
    have h := h _ rfl
    refine A_p (fun T Q _ _ k => V_aload_n (pc2 := 52) (dk D_X13_begins 30 rfl) rfl (V_lg 0 rfl) rfl k) ?_
    refine A_p (fun T Q _ _ k => V_iconst (x := 0) (pc2 := 53) (dk D_X13_begins 31 rfl) (by decide) rfl k) ?_
    refine A_put (pc2 := 56) 80 (dk D_X13_begins 32 rfl) fl_13_479 (by decide) rfl rfl rfl rfl ?_
    have h := h _ rfl
    refine A_p (fun T Q _ _ k => V_aload_n (pc2 := 57) (dk D_X13_begins 33 rfl) rfl (V_lg 0 rfl) rfl k) ?_
    refine A_p (fun T Q _ _ k => V_iconst (x := 0) (pc2 := 58) (dk D_X13_begins 34 rfl) (by decide) rfl k) ?_
    refine A_put (pc2 := 61) 83 (dk D_X13_begins 35 rfl) fl_13_482 (by decide) rfl rfl rfl rfl ?_
    have h := h _ rfl
    refine A_p (fun T Q _ _ k => V_aload_n (pc2 := 62) (dk D_X13_begins 36 rfl) rfl (V_lg 0 rfl) rfl k) ?_
    refine A_p (fun T Q _ _ k => V_iconst (x := 0) (pc2 := 63) (dk D_X13_begins 37 rfl) (by decide) rfl k) ?_
    refine A_put (pc2 := 66) 87 (dk D_X13_begins 38 rfl) fl_13_485 (by decide) rfl rfl rfl rfl ?_
    have h := h _ rfl
    refine A_p (fun T Q _ _ k => V_aload_n (pc2 := 67) (dk D_X13_begins 39 rfl) rfl (V_lg 0 rfl) rfl k) ?_
    refine A_p (fun T Q _ _ k => V_iconst (x := 0) (pc2 := 68) (dk D_X13_begins 40 rfl) (by decide) rfl k) ?_
    refine A_put (pc2 := 71) 88 (dk D_X13_begins 41 rfl) fl_13_488 (by decide) rfl rfl rfl rfl ?_
    have h := h _ rfl
    refine A_p (fun T Q _ _ k => V_aload_n (pc2 := 72) (dk D_X13_begins 42 rfl) rfl (V_lg 0 rfl) rfl k) ?_
    refine A_p (fun T Q _ _ k => V_bipush (x := (-9)) (pc2 := 74) (dk D_X13_begins 43 rfl) (by decide) rfl k) ?_
    refine A_put (pc2 := 77) 97 (dk D_X13_begins 44 rfl) fl_13_491 (by decide) rfl rfl rfl rfl ?_
    have h := h _ rfl
    exact A_ret (fun T Q _ k => V_return (dk D_X13_begins 45 rfl) rfl k) h
  · have h := h.2 q1
    refine A_p (fun T Q _ _ k => V_aload_n (pc2 := 19) (dk D_X13_begins 11 rfl) rfl (V_lg 0 rfl) rfl k) ?_
    refine A_ar (pc2 := 22) (a := 43) 59 (dk D_X13_begins 12 rfl) fl_13_192 (by decide) (by decide) rfl (fun _ => rfl) rfl ?_
    refine A_p (fun T Q _ _ k => V_iload_n (pc2 := 23) (dk D_X13_begins 13 rfl) rfl (V_lg 1 rfl) rfl k) ?_
    refine A_p (fun T Q _ _ k => V_iconst (x := 0) (pc2 := 24) (dk D_X13_begins 14 rfl) (by decide) rfl k) ?_
    obtain ⟨h11, h⟩ := h
    refine A_zst (pc2 := 25) 59 (dk D_X13_begins 15 rfl) rfl (by decide) rfl (by decide) rfl rfl h11 (Or.inl rfl) ?_
    have h := h _ rfl
    refine A_p (fun T Q _ _ k => V_iinc (y := _ + 1) (pc2 := 28) (lv2 := [(0, _), (1, _)]) (dk D_X13_begins 16 rfl) (V_lg 1 rfl) rfl (by decide) rfl rfl k) ?_
    refine A_p (fun T Q _ _ k => V_goto (tgt := 12) (dk D_X13_begins 17 rfl) (by decide) k) ?_
    exact h
