theorem a_told_0 {X : Cx} {b d : Nat} {σ : Rm} {Q : Res → Rm → Prop} (x1 : Int32) (x2 : Int32) (h : (((sI σ 46) = 0 → Q (.inl (some (vI (-2)))) σ) ∧ (¬ (sI σ 46) = 0 → ∃ e2 : Nat, e2 + 1 ≤ d ∧ AC X b e2 MX13_isVoice [vR b, vI x1] σ (aRI fun y5 s6 => ((y5 = 0 → A X b d MX13_told 28 [(0, vR b), (1, vI x1), (2, vI x2)] [] s6 Q) ∧ (¬ y5 = 0 → ∃ e8 : Nat, e8 + 1 ≤ d ∧ AC X b e8 MX13_in [vI x2, vI 0, vI 6] s6 (aRI fun y11 s12 => ((y11 = 0 → A X b d MX13_told 28 [(0, vR b), (1, vI x1), (2, vI x2)] [] s12 Q) ∧ (¬ y11 = 0 → ∃ e14 : Nat, e14 + 1 ≤ d ∧ AC X b e14 MX13_tellsOf [vR b, vI x1, vI x2] s12 (aRI fun y17 s18 => A X b d MX13_told 38 [(0, vR b), (1, vI x1), (2, vI x2)] [vI y17] s18 Q)))))))))) : A X b d MX13_told 0 [(0, vR b), (1, vI x1), (2, vI x2)] [] σ Q := by
  refine A_p (fun T Q _ _ k => V_aload_n (pc2 := 1) (dk D_X13_told 0 rfl) rfl (V_lg 0 rfl) rfl k) ?_
  refine A_sc (pc2 := 4) 46 (dk D_X13_told 1 rfl) fl_13_448 (by decide) rfl (fun _ => rfl) rfl ?_
  refine A_if (pa := 7) (pb := 10) (fun T Q k1 k2 => V_ifne (tgt := 10) (pc2 := 7) (dk D_X13_told 2 rfl) (by decide) rfl (fun q => k2 q) (fun q => k1 q)) (fun q1 => ?_) (fun q1 => ?_)
  · have h := h.1 q1
    refine A_p (fun T Q _ _ k => V_bipush (x := (-2)) (pc2 := 9) (dk D_X13_told 3 rfl) (by decide) rfl k) ?_
    exact A_ret (fun T Q _ k => V_ireturn (dk D_X13_told 4 rfl) rfl k) h
  · have h := h.2 q1
    refine A_p (fun T Q _ _ k => V_aload_n (pc2 := 11) (dk D_X13_told 5 rfl) rfl (V_lg 0 rfl) rfl k) ?_
    refine A_p (fun T Q _ _ k => V_iload_n (pc2 := 12) (dk D_X13_told 6 rfl) rfl (V_lg 1 rfl) rfl k) ?_
    obtain ⟨e2, he3, hc4⟩ := h
    refine A_call (st := []) (pc2 := 15) (fun T Q Qc L hc k => V_callV (as := [_]) (st := []) (M' := MX13_isVoice) (ci := 13) (pc2 := 15) (dk D_X13_told 7 rfl) ml_13_554 mv_X13_isVoice rfl rfl (by decide) rfl (Nat.le_of_ble_eq_true rfl) rfl he3 L.2.1 hc k) hc4 (aRI.k fun y5 s6 h => ?_)
    refine A_if (pa := 28) (pb := 18) (fun T Q k1 k2 => V_ifeq (tgt := 28) (pc2 := 18) (dk D_X13_told 8 rfl) (by decide) rfl (fun q => k1 q) (fun q => k2 q)) (fun q7 => ?_) (fun q7 => ?_)
    · have h := h.1 q7
      exact h
    · have h := h.2 q7
      refine A_p (fun T Q _ _ k => V_iload_n (pc2 := 19) (dk D_X13_told 9 rfl) rfl (V_lg 2 rfl) rfl k) ?_
      refine A_p (fun T Q _ _ k => V_iconst (x := 0) (pc2 := 20) (dk D_X13_told 10 rfl) (by decide) rfl k) ?_
      refine A_p (fun T Q _ _ k => V_bipush (x := 6) (pc2 := 22) (dk D_X13_told 11 rfl) (by decide) rfl k) ?_
      obtain ⟨e8, he9, hc10⟩ := h
      refine A_call (st := []) (pc2 := 25) (fun T Q Qc L hc k => V_callS (as := [_, _, _]) (st := []) (M' := MX13_in) (pc2 := 25) (dk D_X13_told 12 rfl) ml_13_292 mv_X13_in rfl rfl (Nat.le_of_ble_eq_true rfl) rfl he9 hc k) hc10 (aRI.k fun y11 s12 h => ?_)
      refine A_if (pa := 28) (pb := 32) (fun T Q k1 k2 => V_ifne (tgt := 32) (pc2 := 28) (dk D_X13_told 13 rfl) (by decide) rfl (fun q => k2 q) (fun q => k1 q)) (fun q13 => ?_) (fun q13 => ?_)
      · have h := h.1 q13
        exact h
      · have h := h.2 q13
        refine A_p (fun T Q _ _ k => V_aload_n (pc2 := 33) (dk D_X13_told 16 rfl) rfl (V_lg 0 rfl) rfl k) ?_
        refine A_p (fun T Q _ _ k => V_iload_n (pc2 := 34) (dk D_X13_told 17 rfl) rfl (V_lg 1 rfl) rfl k) ?_
        refine A_p (fun T Q _ _ k => V_iload_n (pc2 := 35) (dk D_X13_told 18 rfl) rfl (V_lg 2 rfl) rfl k) ?_
        obtain ⟨e14, he15, hc16⟩ := h
        refine A_call (st := []) (pc2 := 38) (fun T Q Qc L hc k => V_callV (as := [_, _]) (st := []) (M' := MX13_tellsOf) (ci := 13) (pc2 := 38) (dk D_X13_told 19 rfl) ml_13_638 mv_X13_tellsOf rfl rfl (by decide) rfl (Nat.le_of_ble_eq_true rfl) rfl he15 L.2.1 hc k) hc16 (aRI.k fun y17 s18 h => ?_)
        exact h
set_option maxRecDepth 100000 in
theorem a_local_0 {X : Cx} {b d : Nat} {σ : Rm} {Q : Res → Rm → Prop} (x1 : Int32) (x2 : Int32) (x3 : Int32) (h : (((sI σ 46) = 0 → Q (.inl (some (vI (-2)))) σ) ∧ (¬ (sI σ 46) = 0 → ∃ e2 : Nat, e2 + 1 ≤ d ∧ AC X b e2 MX13_isVoice [vR b, vI x1] σ (aRI fun y5 s6 => ((y5 = 0 → Q (.inl (some (vI (-1)))) s6) ∧ (¬ y5 = 0 → (vp_in x1 61) ∧ (((aI s6 49 (x1 : Int32).toNatClampNeg) = 0 → ((x2 = 0 → ((x3 = 0 → (vp_in x1 61) ∧ (vp_in (aI s6 50 (x1 : Int32).toNatClampNeg) 12) ∧ (((aI s6 20 ((aI s6 50 (x1 : Int32).toNatClampNeg) : Int32).toNatClampNeg) ≤ 0 → A X b d MX13_local 60 [(0, vR b), (1, vI x1), (2, vI x2), (3, vI x3)] [] s6 Q) ∧ (¬ (aI s6 20 ((aI s6 50 (x1 : Int32).toNatClampNeg) : Int32).toNatClampNeg) ≤ 0 → (vp_in x1 61) ∧ A X b d MX13_local 61 [(0, vR b), (1, vI x1), (2, vI x2), (3, vI x3)] [vI (aI s6 51 (x1 : Int32).toNatClampNeg)] s6 Q))) ∧ (¬ x3 = 0 → A X b d MX13_local 60 [(0, vR b), (1, vI x1), (2, vI x2), (3, vI x3)] [] s6 Q))) ∧ (¬ x2 = 0 → A X b d MX13_local 60 [(0, vR b), (1, vI x1), (2, vI x2), (3, vI x3)] [] s6 Q))) ∧ (¬ (aI s6 49 (x1 : Int32).toNatClampNeg) = 0 → ∃ e16 : Nat, e16 + 1 ≤ d ∧ AC X b e16 MX13_callMany [vR b, vI x1] s6 (aRI fun y19 s20 => ∃ e21 : Nat, e21 + 1 ≤ d ∧ AC X b e21 MX13_in [vI x2, vI 0, vI (y19 - 1)] s20 (aRI fun y24 s25 => ((y24 = 0 → Q (.inl (some (vI (-1)))) s25) ∧ (¬ y24 = 0 → (vp_in x1 61) ∧ (vp_in x1 61) ∧ (vp_in (aI s25 58 (x1 : Int32).toNatClampNeg) 12) ∧ (vp_in ((((60 * (aI s25 58 (x1 : Int32).toNatClampNeg)) + (aI s25 60 ((aI s25 58 (x1 : Int32).toNatClampNeg) : Int32).toNatClampNeg)) - 1) - x2) 720) ∧ (vp_in (aI s25 61 (((((60 * (aI s25 58 (x1 : Int32).toNatClampNeg)) + (aI s25 60 ((aI s25 58 (x1 : Int32).toNatClampNeg) : Int32).toNatClampNeg)) - 1) - x2) : Int32).toNatClampNeg) 12) ∧ ∃ e32 : Nat, e32 + 1 ≤ d ∧ AC X b e32 MX13_in [vI x3, vI 0, vI ((aI s25 21 ((aI s25 61 (((((60 * (aI s25 58 (x1 : Int32).toNatClampNeg)) + (aI s25 60 ((aI s25 58 (x1 : Int32).toNatClampNeg) : Int32).toNatClampNeg)) - 1) - x2) : Int32).toNatClampNeg) : Int32).toNatClampNeg) - 1)] s25 (aRI fun y35 s36 => ((y35 = 0 → A X b d MX13_local 144 [(0, vR b), (1, vI x1), (2, vI x2), (3, vI x3), (4, vI ((((60 * (aI s25 58 (x1 : Int32).toNatClampNeg)) + (aI s25 60 ((aI s25 58 (x1 : Int32).toNatClampNeg) : Int32).toNatClampNeg)) - 1) - x2))] [vI (-1)] s36 Q) ∧ (¬ y35 = 0 → (vp_in ((40 * ((((60 * (aI s25 58 (x1 : Int32).toNatClampNeg)) + (aI s25 60 ((aI s25 58 (x1 : Int32).toNatClampNeg) : Int32).toNatClampNeg)) - 1) - x2)) + x3) 28800) ∧ A X b d MX13_local 144 [(0, vR b), (1, vI x1), (2, vI x2), (3, vI x3), (4, vI ((((60 * (aI s25 58 (x1 : Int32).toNatClampNeg)) + (aI s25 60 ((aI s25 58 (x1 : Int32).toNatClampNeg) : Int32).toNatClampNeg)) - 1) - x2))] [vI (aI s36 66 (((40 * ((((60 * (aI s25 58 (x1 : Int32).toNatClampNeg)) + (aI s25 60 ((aI s25 58 (x1 : Int32).toNatClampNeg) : Int32).toNatClampNeg)) - 1) - x2)) + x3) : Int32).toNatClampNeg)] s36 Q))))))))))))))) : A X b d MX13_local 0 [(0, vR b), (1, vI x1), (2, vI x2), (3, vI x3)] [] σ Q := by
  refine A_p (fun T Q _ _ k => V_aload_n (pc2 := 1) (dk D_X13_local 0 rfl) rfl (V_lg 0 rfl) rfl k) ?_
  refine A_sc (pc2 := 4) 46 (dk D_X13_local 1 rfl) fl_13_448 (by decide) rfl (fun _ => rfl) rfl ?_
  refine A_if (pa := 7) (pb := 10) (fun T Q k1 k2 => V_ifne (tgt := 10) (pc2 := 7) (dk D_X13_local 2 rfl) (by decide) rfl (fun q => k2 q) (fun q => k1 q)) (fun q1 => ?_) (fun q1 => ?_)
  · have h := h.1 q1
    refine A_p (fun T Q _ _ k => V_bipush (x := (-2)) (pc2 := 9) (dk D_X13_local 3 rfl) (by decide) rfl k) ?_
    exact A_ret (fun T Q _ k => V_ireturn (dk D_X13_local 4 rfl) rfl k) h
  · have h := h.2 q1
    refine A_p (fun T Q _ _ k => V_aload_n (pc2 := 11) (dk D_X13_local 5 rfl) rfl (V_lg 0 rfl) rfl k) ?_
    refine A_p (fun T Q _ _ k => V_iload_n (pc2 := 12) (dk D_X13_local 6 rfl) rfl (V_lg 1 rfl) rfl k) ?_
    obtain ⟨e2, he3, hc4⟩ := h
    refine A_call (st := []) (pc2 := 15) (fun T Q Qc L hc k => V_callV (as := [_]) (st := []) (M' := MX13_isVoice) (ci := 13) (pc2 := 15) (dk D_X13_local 7 rfl) ml_13_554 mv_X13_isVoice rfl rfl (by decide) rfl (Nat.le_of_ble_eq_true rfl) rfl he3 L.2.1 hc k) hc4 (aRI.k fun y5 s6 h => ?_)
    refine A_if (pa := 18) (pb := 20) (fun T Q k1 k2 => V_ifne (tgt := 20) (pc2 := 18) (dk D_X13_local 8 rfl) (by decide) rfl (fun q => k2 q) (fun q => k1 q)) (fun q7 => ?_) (fun q7 => ?_)
    · have h := h.1 q7
      refine A_p (fun T Q _ _ k => V_iconst (x := (-1)) (pc2 := 19) (dk D_X13_local 9 rfl) (by decide) rfl k) ?_
      exact A_ret (fun T Q _ k => V_ireturn (dk D_X13_local 10 rfl) rfl k) h
    · have h := h.2 q7
      refine A_p (fun T Q _ _ k => V_aload_n (pc2 := 21) (dk D_X13_local 11 rfl) rfl (V_lg 0 rfl) rfl k) ?_
      refine A_ar (pc2 := 24) (a := 33) 49 (dk D_X13_local 12 rfl) fl_13_161 (by decide) (by decide) rfl (fun _ => rfl) rfl ?_
      refine A_p (fun T Q _ _ k => V_iload_n (pc2 := 25) (dk D_X13_local 13 rfl) rfl (V_lg 1 rfl) rfl k) ?_
      obtain ⟨h8, h⟩ := h
      refine A_ild (pc2 := 26) 49 (dk D_X13_local 14 rfl) rfl (by decide) rfl (by decide) rfl rfl h8 ?_
      refine A_if (pa := 29) (pb := 62) (fun T Q k1 k2 => V_ifne (tgt := 62) (pc2 := 29) (dk D_X13_local 15 rfl) (by decide) rfl (fun q => k2 q) (fun q => k1 q)) (fun q9 => ?_) (fun q9 => ?_)
      · have h := h.1 q9
        refine A_p (fun T Q _ _ k => V_iload_n (pc2 := 30) (dk D_X13_local 16 rfl) rfl (V_lg 2 rfl) rfl k) ?_
        refine A_if (pa := 33) (pb := 60) (fun T Q k1 k2 => V_ifne (tgt := 60) (pc2 := 33) (dk D_X13_local 17 rfl) (by decide) rfl (fun q => k2 q) (fun q => k1 q)) (fun q10 => ?_) (fun q10 => ?_)
        · have h := h.1 q10
          refine A_p (fun T Q _ _ k => V_iload_n (pc2 := 34) (dk D_X13_local 18 rfl) rfl (V_lg 3 rfl) rfl k) ?_
          refine A_if (pa := 37) (pb := 60) (fun T Q k1 k2 => V_ifne (tgt := 60) (pc2 := 37) (dk D_X13_local 19 rfl) (by decide) rfl (fun q => k2 q) (fun q => k1 q)) (fun q11 => ?_) (fun q11 => ?_)
          · have h := h.1 q11
            refine A_p (fun T Q _ _ k => V_aload_n (pc2 := 38) (dk D_X13_local 20 rfl) rfl (V_lg 0 rfl) rfl k) ?_
            refine A_ar (pc2 := 41) (a := 15) 20 (dk D_X13_local 21 rfl) fl_13_107 (by decide) (by decide) rfl (fun _ => rfl) rfl ?_
            refine A_p (fun T Q _ _ k => V_aload_n (pc2 := 42) (dk D_X13_local 22 rfl) rfl (V_lg 0 rfl) rfl k) ?_
            refine A_ar (pc2 := 45) (a := 34) 50 (dk D_X13_local 23 rfl) fl_13_164 (by decide) (by decide) rfl (fun _ => rfl) rfl ?_
            refine A_p (fun T Q _ _ k => V_iload_n (pc2 := 46) (dk D_X13_local 24 rfl) rfl (V_lg 1 rfl) rfl k) ?_
            obtain ⟨h12, h⟩ := h
            refine A_ild (pc2 := 47) 50 (dk D_X13_local 25 rfl) rfl (by decide) rfl (by decide) rfl rfl h12 ?_
            obtain ⟨h13, h⟩ := h
            refine A_ild (pc2 := 48) 20 (dk D_X13_local 26 rfl) rfl (by decide) rfl (by decide) rfl rfl h13 ?_
            refine A_if (pa := 60) (pb := 51) (fun T Q k1 k2 => V_ifle (tgt := 60) (pc2 := 51) (dk D_X13_local 27 rfl) (by decide) rfl (fun q => k1 q) (fun q => k2 q)) (fun q14 => ?_) (fun q14 => ?_)
            · have h := h.1 q14
              exact h
            · have h := h.2 q14
              refine A_p (fun T Q _ _ k => V_aload_n (pc2 := 52) (dk D_X13_local 28 rfl) rfl (V_lg 0 rfl) rfl k) ?_
              refine A_ar (pc2 := 55) (a := 35) 51 (dk D_X13_local 29 rfl) fl_13_167 (by decide) (by decide) rfl (fun _ => rfl) rfl ?_
              refine A_p (fun T Q _ _ k => V_iload_n (pc2 := 56) (dk D_X13_local 30 rfl) rfl (V_lg 1 rfl) rfl k) ?_
              obtain ⟨h15, h⟩ := h
              refine A_ild (pc2 := 57) 51 (dk D_X13_local 31 rfl) rfl (by decide) rfl (by decide) rfl rfl h15 ?_
              refine A_p (fun T Q _ _ k => V_goto (tgt := 61) (dk D_X13_local 32 rfl) (by decide) k) ?_
              exact h
          · have h := h.2 q11
            exact h
        · have h := h.2 q10
          exact h
      · have h := h.2 q9
        refine A_p (fun T Q _ _ k => V_iload_n (pc2 := 63) (dk D_X13_local 35 rfl) rfl (V_lg 2 rfl) rfl k) ?_
        refine A_p (fun T Q _ _ k => V_iconst (x := 0) (pc2 := 64) (dk D_X13_local 36 rfl) (by decide) rfl k) ?_
        refine A_p (fun T Q _ _ k => V_aload_n (pc2 := 65) (dk D_X13_local 37 rfl) rfl (V_lg 0 rfl) rfl k) ?_
        refine A_p (fun T Q _ _ k => V_iload_n (pc2 := 66) (dk D_X13_local 38 rfl) rfl (V_lg 1 rfl) rfl k) ?_
        obtain ⟨e16, he17, hc18⟩ := h
        refine A_call (st := [_, _]) (pc2 := 69) (fun T Q Qc L hc k => V_callV (as := [_]) (st := [_, _]) (M' := MX13_callMany) (ci := 13) (pc2 := 69) (dk D_X13_local 39 rfl) ml_13_635 mv_X13_callMany rfl rfl (by decide) rfl (Nat.le_of_ble_eq_true rfl) rfl he17 L.2.1 hc k) hc18 (aRI.k fun y19 s20 h => ?_)
        refine A_p (fun T Q _ _ k => V_iconst (x := 1) (pc2 := 70) (dk D_X13_local 40 rfl) (by decide) rfl k) ?_
        refine A_p (fun T Q _ _ k => V_isub (pc2 := 71) (dk D_X13_local 41 rfl) rfl k) ?_
        obtain ⟨e21, he22, hc23⟩ := h
        refine A_call (st := []) (pc2 := 74) (fun T Q Qc L hc k => V_callS (as := [_, _, _]) (st := []) (M' := MX13_in) (pc2 := 74) (dk D_X13_local 42 rfl) ml_13_292 mv_X13_in rfl rfl (Nat.le_of_ble_eq_true rfl) rfl he22 hc k) hc23 (aRI.k fun y24 s25 h => ?_)
        refine A_if (pa := 77) (pb := 79) (fun T Q k1 k2 => V_ifne (tgt := 79) (pc2 := 77) (dk D_X13_local 43 rfl) (by decide) rfl (fun q => k2 q) (fun q => k1 q)) (fun q26 => ?_) (fun q26 => ?_)
        · have h := h.1 q26
          refine A_p (fun T Q _ _ k => V_iconst (x := (-1)) (pc2 := 78) (dk D_X13_local 44 rfl) (by decide) rfl k) ?_
          exact A_ret (fun T Q _ k => V_ireturn (dk D_X13_local 45 rfl) rfl k) h
        · have h := h.2 q26
          refine A_p (fun T Q _ _ k => V_bipush (x := 60) (pc2 := 81) (dk D_X13_local 46 rfl) (by decide) rfl k) ?_
          refine A_p (fun T Q _ _ k => V_aload_n (pc2 := 82) (dk D_X13_local 47 rfl) rfl (V_lg 0 rfl) rfl k) ?_
          refine A_ar (pc2 := 85) (a := 42) 58 (dk D_X13_local 48 rfl) fl_13_189 (by decide) (by decide) rfl (fun _ => rfl) rfl ?_
          refine A_p (fun T Q _ _ k => V_iload_n (pc2 := 86) (dk D_X13_local 49 rfl) rfl (V_lg 1 rfl) rfl k) ?_
          obtain ⟨h27, h⟩ := h
          refine A_ild (pc2 := 87) 58 (dk D_X13_local 50 rfl) rfl (by decide) rfl (by decide) rfl rfl h27 ?_
          refine A_p (fun T Q _ _ k => V_imul (pc2 := 88) (dk D_X13_local 51 rfl) rfl k) ?_
          refine A_p (fun T Q _ _ k => V_aload_n (pc2 := 89) (dk D_X13_local 52 rfl) rfl (V_lg 0 rfl) rfl k) ?_
          refine A_ar (pc2 := 92) (a := 44) 60 (dk D_X13_local 53 rfl) fl_13_195 (by decide) (by decide) rfl (fun _ => rfl) rfl ?_
          refine A_p (fun T Q _ _ k => V_aload_n (pc2 := 93) (dk D_X13_local 54 rfl) rfl (V_lg 0 rfl) rfl k) ?_
          refine A_ar (pc2 := 96) (a := 42) 58 (dk D_X13_local 55 rfl) fl_13_189 (by decide) (by decide) rfl (fun _ => rfl) rfl ?_
          refine A_p (fun T Q _ _ k => V_iload_n (pc2 := 97) (dk D_X13_local 56 rfl) rfl (V_lg 1 rfl) rfl k) ?_
          obtain ⟨h28, h⟩ := h
          refine A_ild (pc2 := 98) 58 (dk D_X13_local 57 rfl) rfl (by decide) rfl (by decide) rfl rfl h28 ?_
          obtain ⟨h29, h⟩ := h
          refine A_ild (pc2 := 99) 60 (dk D_X13_local 58 rfl) rfl (by decide) rfl (by decide) rfl rfl h29 ?_
          refine A_p (fun T Q _ _ k => V_iadd (pc2 := 100) (dk D_X13_local 59 rfl) rfl k) ?_
          refine A_p (fun T Q _ _ k => V_iconst (x := 1) (pc2 := 101) (dk D_X13_local 60 rfl) (by decide) rfl k) ?_
          refine A_p (fun T Q _ _ k => V_isub (pc2 := 102) (dk D_X13_local 61 rfl) rfl k) ?_
          refine A_p (fun T Q _ _ k => V_iload_n (pc2 := 103) (dk D_X13_local 62 rfl) rfl (V_lg 2 rfl) rfl k) ?_
          refine A_p (fun T Q _ _ k => V_isub (pc2 := 104) (dk D_X13_local 63 rfl) rfl k) ?_
          refine A_p (fun T Q _ _ k => V_istore (pc2 := 106) (lv2 := [(0, _), (1, _), (2, _), (3, _), (4, _)]) (dk D_X13_local 64 rfl) (by decide) rfl rfl k) ?_
          refine A_p (fun T Q _ _ k => V_iload_n (pc2 := 107) (dk D_X13_local 65 rfl) rfl (V_lg 3 rfl) rfl k) ?_
          refine A_p (fun T Q _ _ k => V_iconst (x := 0) (pc2 := 108) (dk D_X13_local 66 rfl) (by decide) rfl k) ?_
          refine A_p (fun T Q _ _ k => V_aload_n (pc2 := 109) (dk D_X13_local 67 rfl) rfl (V_lg 0 rfl) rfl k) ?_
          refine A_ar (pc2 := 112) (a := 16) 21 (dk D_X13_local 68 rfl) fl_13_110 (by decide) (by decide) rfl (fun _ => rfl) rfl ?_
          refine A_p (fun T Q _ _ k => V_aload_n (pc2 := 113) (dk D_X13_local 69 rfl) rfl (V_lg 0 rfl) rfl k) ?_
          refine A_ar (pc2 := 116) (a := 45) 61 (dk D_X13_local 70 rfl) fl_13_198 (by decide) (by decide) rfl (fun _ => rfl) rfl ?_
          refine A_p (fun T Q _ _ k => V_iload (pc2 := 118) (dk D_X13_local 71 rfl) (V_lg 4 rfl) rfl k) ?_
          obtain ⟨h30, h⟩ := h
          refine A_ild (pc2 := 119) 61 (dk D_X13_local 72 rfl) rfl (by decide) rfl (by decide) rfl rfl h30 ?_
          obtain ⟨h31, h⟩ := h
          refine A_ild (pc2 := 120) 21 (dk D_X13_local 73 rfl) rfl (by decide) rfl (by decide) rfl rfl h31 ?_
          refine A_p (fun T Q _ _ k => V_iconst (x := 1) (pc2 := 121) (dk D_X13_local 74 rfl) (by decide) rfl k) ?_
          refine A_p (fun T Q _ _ k => V_isub (pc2 := 122) (dk D_X13_local 75 rfl) rfl k) ?_
          obtain ⟨e32, he33, hc34⟩ := h
          refine A_call (st := []) (pc2 := 125) (fun T Q Qc L hc k => V_callS (as := [_, _, _]) (st := []) (M' := MX13_in) (pc2 := 125) (dk D_X13_local 76 rfl) ml_13_292 mv_X13_in rfl rfl (Nat.le_of_ble_eq_true rfl) rfl he33 hc k) hc34 (aRI.k fun y35 s36 h => ?_)
          refine A_if (pa := 143) (pb := 128) (fun T Q k1 k2 => V_ifeq (tgt := 143) (pc2 := 128) (dk D_X13_local 77 rfl) (by decide) rfl (fun q => k1 q) (fun q => k2 q)) (fun q37 => ?_) (fun q37 => ?_)
          · have h := h.1 q37
            refine A_p (fun T Q _ _ k => V_iconst (x := (-1)) (pc2 := 144) (dk D_X13_local 87 rfl) (by decide) rfl k) ?_
            exact h
          · have h := h.2 q37
            refine A_p (fun T Q _ _ k => V_aload_n (pc2 := 129) (dk D_X13_local 78 rfl) rfl (V_lg 0 rfl) rfl k) ?_
            refine A_ar (pc2 := 132) (a := 50) 66 (dk D_X13_local 79 rfl) fl_13_213 (by decide) (by decide) rfl (fun _ => rfl) rfl ?_
            refine A_p (fun T Q _ _ k => V_bipush (x := 40) (pc2 := 134) (dk D_X13_local 80 rfl) (by decide) rfl k) ?_
            refine A_p (fun T Q _ _ k => V_iload (pc2 := 136) (dk D_X13_local 81 rfl) (V_lg 4 rfl) rfl k) ?_
            refine A_p (fun T Q _ _ k => V_imul (pc2 := 137) (dk D_X13_local 82 rfl) rfl k) ?_
            refine A_p (fun T Q _ _ k => V_iload_n (pc2 := 138) (dk D_X13_local 83 rfl) rfl (V_lg 3 rfl) rfl k) ?_
            refine A_p (fun T Q _ _ k => V_iadd (pc2 := 139) (dk D_X13_local 84 rfl) rfl k) ?_
            obtain ⟨h38, h⟩ := h
            refine A_ild (pc2 := 140) 66 (dk D_X13_local 85 rfl) rfl (by decide) rfl (by decide) rfl rfl h38 ?_
            refine A_p (fun T Q _ _ k => V_goto (tgt := 144) (dk D_X13_local 86 rfl) (by decide) k) ?_
            exact h
theorem a_lines_0 {X : Cx} {b d : Nat} {σ : Rm} {Q : Res → Rm → Prop}  (h : (((sI σ 46) = 0 → A X b d MX13_lines 16 [(0, vR b)] [vI (-2)] σ Q) ∧ (¬ (sI σ 46) = 0 → A X b d MX13_lines 16 [(0, vR b)] [vI (sI σ 80)] σ Q))) : A X b d MX13_lines 0 [(0, vR b)] [] σ Q := by
  refine A_p (fun T Q _ _ k => V_aload_n (pc2 := 1) (dk D_X13_lines 0 rfl) rfl (V_lg 0 rfl) rfl k) ?_
  refine A_sc (pc2 := 4) 46 (dk D_X13_lines 1 rfl) fl_13_448 (by decide) rfl (fun _ => rfl) rfl ?_
  refine A_if (pa := 14) (pb := 7) (fun T Q k1 k2 => V_ifeq (tgt := 14) (pc2 := 7) (dk D_X13_lines 2 rfl) (by decide) rfl (fun q => k1 q) (fun q => k2 q)) (fun q1 => ?_) (fun q1 => ?_)
  · have h := h.1 q1
    refine A_p (fun T Q _ _ k => V_bipush (x := (-2)) (pc2 := 16) (dk D_X13_lines 6 rfl) (by decide) rfl k) ?_
    exact h
  · have h := h.2 q1
    refine A_p (fun T Q _ _ k => V_aload_n (pc2 := 8) (dk D_X13_lines 3 rfl) rfl (V_lg 0 rfl) rfl k) ?_
    refine A_sc (pc2 := 11) 80 (dk D_X13_lines 4 rfl) fl_13_479 (by decide) rfl (fun _ => rfl) rfl ?_
    refine A_p (fun T Q _ _ k => V_goto (tgt := 16) (dk D_X13_lines 5 rfl) (by decide) k) ?_
    exact h
theorem a_lines_16 {X : Cx} {b d : Nat} {σ : Rm} {Q : Res → Rm → Prop} (t0 : Int32) (h : Q (.inl (some (vI t0))) σ) : A X b d MX13_lines 16 [(0, vR b)] [vI t0] σ Q := by
  exact A_ret (fun T Q _ k => V_ireturn (dk D_X13_lines 7 rfl) rfl k) h
theorem a_line_0 {X : Cx} {b d : Nat} {σ : Rm} {Q : Res → Rm → Prop} (x1 : Int32) (x2 : Int32) (h : (((sI σ 46) = 0 → Q (.inl (some (vI (-2)))) σ) ∧ (¬ (sI σ 46) = 0 → ∃ e2 : Nat, e2 + 1 ≤ d ∧ AC X b e2 MX13_in [vI x2, vI 0, vI 1] σ (aRI fun y5 s6 => ((y5 = 0 → Q (.inl (some (vI (-1)))) s6) ∧ (¬ y5 = 0 → ∃ e8 : Nat, e8 + 1 ≤ d ∧ AC X b e8 MX13_in [vI x1, vI 0, vI ((sI s6 80) - 1)] s6 (aRI fun y11 s12 => ((y11 = 0 → A X b d MX13_line 42 [(0, vR b), (1, vI x1), (2, vI x2)] [] s12 Q) ∧ (¬ y11 = 0 → ((x1 < 300 → ((x2 = 0 → (vp_in x1 300) ∧ A X b d MX13_line 66 [(0, vR b), (1, vI x1), (2, vI x2)] [vI (aI s12 81 (x1 : Int32).toNatClampNeg)] s12 Q) ∧ (¬ x2 = 0 → (vp_in x1 300) ∧ A X b d MX13_line 66 [(0, vR b), (1, vI x1), (2, vI x2)] [vI (aI s12 82 (x1 : Int32).toNatClampNeg)] s12 Q))) ∧ (¬ x1 < 300 → A X b d MX13_line 42 [(0, vR b), (1, vI x1), (2, vI x2)] [] s12 Q))))))))))) : A X b d MX13_line 0 [(0, vR b), (1, vI x1), (2, vI x2)] [] σ Q := by
  refine A_p (fun T Q _ _ k => V_aload_n (pc2 := 1) (dk D_X13_line 0 rfl) rfl (V_lg 0 rfl) rfl k) ?_
  refine A_sc (pc2 := 4) 46 (dk D_X13_line 1 rfl) fl_13_448 (by decide) rfl (fun _ => rfl) rfl ?_
  refine A_if (pa := 7) (pb := 10) (fun T Q k1 k2 => V_ifne (tgt := 10) (pc2 := 7) (dk D_X13_line 2 rfl) (by decide) rfl (fun q => k2 q) (fun q => k1 q)) (fun q1 => ?_) (fun q1 => ?_)
  · have h := h.1 q1
    refine A_p (fun T Q _ _ k => V_bipush (x := (-2)) (pc2 := 9) (dk D_X13_line 3 rfl) (by decide) rfl k) ?_
    exact A_ret (fun T Q _ k => V_ireturn (dk D_X13_line 4 rfl) rfl k) h
  · have h := h.2 q1
    refine A_p (fun T Q _ _ k => V_iload_n (pc2 := 11) (dk D_X13_line 5 rfl) rfl (V_lg 2 rfl) rfl k) ?_
    refine A_p (fun T Q _ _ k => V_iconst (x := 0) (pc2 := 12) (dk D_X13_line 6 rfl) (by decide) rfl k) ?_
    refine A_p (fun T Q _ _ k => V_iconst (x := 1) (pc2 := 13) (dk D_X13_line 7 rfl) (by decide) rfl k) ?_
    obtain ⟨e2, he3, hc4⟩ := h
    refine A_call (st := []) (pc2 := 16) (fun T Q Qc L hc k => V_callS (as := [_, _, _]) (st := []) (M' := MX13_in) (pc2 := 16) (dk D_X13_line 8 rfl) ml_13_292 mv_X13_in rfl rfl (Nat.le_of_ble_eq_true rfl) rfl he3 hc k) hc4 (aRI.k fun y5 s6 h => ?_)
    refine A_if (pa := 19) (pb := 21) (fun T Q k1 k2 => V_ifne (tgt := 21) (pc2 := 19) (dk D_X13_line 9 rfl) (by decide) rfl (fun q => k2 q) (fun q => k1 q)) (fun q7 => ?_) (fun q7 => ?_)
    · have h := h.1 q7
      refine A_p (fun T Q _ _ k => V_iconst (x := (-1)) (pc2 := 20) (dk D_X13_line 10 rfl) (by decide) rfl k) ?_
      exact A_ret (fun T Q _ k => V_ireturn (dk D_X13_line 11 rfl) rfl k) h
    · have h := h.2 q7
      refine A_p (fun T Q _ _ k => V_iload_n (pc2 := 22) (dk D_X13_line 12 rfl) rfl (V_lg 1 rfl) rfl k) ?_
      refine A_p (fun T Q _ _ k => V_iconst (x := 0) (pc2 := 23) (dk D_X13_line 13 rfl) (by decide) rfl k) ?_
      refine A_p (fun T Q _ _ k => V_aload_n (pc2 := 24) (dk D_X13_line 14 rfl) rfl (V_lg 0 rfl) rfl k) ?_
      refine A_sc (pc2 := 27) 80 (dk D_X13_line 15 rfl) fl_13_479 (by decide) rfl (fun _ => rfl) rfl ?_
      refine A_p (fun T Q _ _ k => V_iconst (x := 1) (pc2 := 28) (dk D_X13_line 16 rfl) (by decide) rfl k) ?_
      refine A_p (fun T Q _ _ k => V_isub (pc2 := 29) (dk D_X13_line 17 rfl) rfl k) ?_
      obtain ⟨e8, he9, hc10⟩ := h
      refine A_call (st := []) (pc2 := 32) (fun T Q Qc L hc k => V_callS (as := [_, _, _]) (st := []) (M' := MX13_in) (pc2 := 32) (dk D_X13_line 18 rfl) ml_13_292 mv_X13_in rfl rfl (Nat.le_of_ble_eq_true rfl) rfl he9 hc k) hc10 (aRI.k fun y11 s12 h => ?_)
      refine A_if (pa := 42) (pb := 35) (fun T Q k1 k2 => V_ifeq (tgt := 42) (pc2 := 35) (dk D_X13_line 19 rfl) (by decide) rfl (fun q => k1 q) (fun q => k2 q)) (fun q13 => ?_) (fun q13 => ?_)
      · have h := h.1 q13
        exact h
      · have h := h.2 q13
        refine A_p (fun T Q _ _ k => V_iload_n (pc2 := 36) (dk D_X13_line 20 rfl) rfl (V_lg 1 rfl) rfl k) ?_
        refine A_p (fun T Q _ _ k => V_sipush (x := 300) (pc2 := 39) (dk D_X13_line 21 rfl) (by decide) rfl k) ?_
        refine A_if (pa := 47) (pb := 42) (fun T Q k1 k2 => V_cmplt (tgt := 47) (pc2 := 42) (dk D_X13_line 22 rfl) (by decide) rfl (fun q => k1 q) (fun q => k2 q)) (fun q14 => ?_) (fun q14 => ?_)
        · have h := h.1 q14
          refine A_p (fun T Q _ _ k => V_iload_n (pc2 := 48) (dk D_X13_line 25 rfl) rfl (V_lg 2 rfl) rfl k) ?_
          refine A_if (pa := 51) (pb := 60) (fun T Q k1 k2 => V_ifne (tgt := 60) (pc2 := 51) (dk D_X13_line 26 rfl) (by decide) rfl (fun q => k2 q) (fun q => k1 q)) (fun q15 => ?_) (fun q15 => ?_)
          · have h := h.1 q15
            refine A_p (fun T Q _ _ k => V_aload_n (pc2 := 52) (dk D_X13_line 27 rfl) rfl (V_lg 0 rfl) rfl k) ?_
            refine A_ar (pc2 := 55) (a := 59) 81 (dk D_X13_line 28 rfl) fl_13_241 (by decide) (by decide) rfl (fun _ => rfl) rfl ?_
            refine A_p (fun T Q _ _ k => V_iload_n (pc2 := 56) (dk D_X13_line 29 rfl) rfl (V_lg 1 rfl) rfl k) ?_
            obtain ⟨h16, h⟩ := h
            refine A_ild (pc2 := 57) 81 (dk D_X13_line 30 rfl) rfl (by decide) rfl (by decide) rfl rfl h16 ?_
            refine A_p (fun T Q _ _ k => V_goto (tgt := 66) (dk D_X13_line 31 rfl) (by decide) k) ?_
            exact h
          · have h := h.2 q15
            refine A_p (fun T Q _ _ k => V_aload_n (pc2 := 61) (dk D_X13_line 32 rfl) rfl (V_lg 0 rfl) rfl k) ?_
            refine A_ar (pc2 := 64) (a := 60) 82 (dk D_X13_line 33 rfl) fl_13_244 (by decide) (by decide) rfl (fun _ => rfl) rfl ?_
            refine A_p (fun T Q _ _ k => V_iload_n (pc2 := 65) (dk D_X13_line 34 rfl) rfl (V_lg 1 rfl) rfl k) ?_
            obtain ⟨h17, h⟩ := h
            refine A_ild (pc2 := 66) 82 (dk D_X13_line 35 rfl) rfl (by decide) rfl (by decide) rfl rfl h17 ?_
            exact h
        · have h := h.2 q14
          exact h
theorem a_handings_0 {X : Cx} {b d : Nat} {σ : Rm} {Q : Res → Rm → Prop}  (h : (((sI σ 46) = 0 → A X b d MX13_handings 16 [(0, vR b)] [vI (-2)] σ Q) ∧ (¬ (sI σ 46) = 0 → A X b d MX13_handings 16 [(0, vR b)] [vI (sI σ 83)] σ Q))) : A X b d MX13_handings 0 [(0, vR b)] [] σ Q := by
  refine A_p (fun T Q _ _ k => V_aload_n (pc2 := 1) (dk D_X13_handings 0 rfl) rfl (V_lg 0 rfl) rfl k) ?_
  refine A_sc (pc2 := 4) 46 (dk D_X13_handings 1 rfl) fl_13_448 (by decide) rfl (fun _ => rfl) rfl ?_
  refine A_if (pa := 14) (pb := 7) (fun T Q k1 k2 => V_ifeq (tgt := 14) (pc2 := 7) (dk D_X13_handings 2 rfl) (by decide) rfl (fun q => k1 q) (fun q => k2 q)) (fun q1 => ?_) (fun q1 => ?_)
  · have h := h.1 q1
    refine A_p (fun T Q _ _ k => V_bipush (x := (-2)) (pc2 := 16) (dk D_X13_handings 6 rfl) (by decide) rfl k) ?_
    exact h
  · have h := h.2 q1
    refine A_p (fun T Q _ _ k => V_aload_n (pc2 := 8) (dk D_X13_handings 3 rfl) rfl (V_lg 0 rfl) rfl k) ?_
    refine A_sc (pc2 := 11) 83 (dk D_X13_handings 4 rfl) fl_13_482 (by decide) rfl (fun _ => rfl) rfl ?_
    refine A_p (fun T Q _ _ k => V_goto (tgt := 16) (dk D_X13_handings 5 rfl) (by decide) k) ?_
    exact h
theorem a_handings_16 {X : Cx} {b d : Nat} {σ : Rm} {Q : Res → Rm → Prop} (t0 : Int32) (h : Q (.inl (some (vI t0))) σ) : A X b d MX13_handings 16 [(0, vR b)] [vI t0] σ Q := by
  exact A_ret (fun T Q _ k => V_ireturn (dk D_X13_handings 7 rfl) rfl k) h
theorem a_handing_0 {X : Cx} {b d : Nat} {σ : Rm} {Q : Res → Rm → Prop} (x1 : Int32) (x2 : Int32) (h : (((sI σ 46) = 0 → Q (.inl (some (vI (-2)))) σ) ∧ (¬ (sI σ 46) = 0 → ∃ e2 : Nat, e2 + 1 ≤ d ∧ AC X b e2 MX13_in [vI x2, vI 0, vI 1] σ (aRI fun y5 s6 => ((y5 = 0 → Q (.inl (some (vI (-1)))) s6) ∧ (¬ y5 = 0 → ∃ e8 : Nat, e8 + 1 ≤ d ∧ AC X b e8 MX13_in [vI x1, vI 0, vI ((sI s6 83) - 1)] s6 (aRI fun y11 s12 => ((y11 = 0 → A X b d MX13_handing 42 [(0, vR b), (1, vI x1), (2, vI x2)] [] s12 Q) ∧ (¬ y11 = 0 → ((x1 < 300 → ((x2 = 0 → (vp_in x1 300) ∧ A X b d MX13_handing 66 [(0, vR b), (1, vI x1), (2, vI x2)] [vI (aI s12 84 (x1 : Int32).toNatClampNeg)] s12 Q) ∧ (¬ x2 = 0 → (vp_in x1 300) ∧ A X b d MX13_handing 66 [(0, vR b), (1, vI x1), (2, vI x2)] [vI (aI s12 85 (x1 : Int32).toNatClampNeg)] s12 Q))) ∧ (¬ x1 < 300 → A X b d MX13_handing 42 [(0, vR b), (1, vI x1), (2, vI x2)] [] s12 Q))))))))))) : A X b d MX13_handing 0 [(0, vR b), (1, vI x1), (2, vI x2)] [] σ Q := by
  refine A_p (fun T Q _ _ k => V_aload_n (pc2 := 1) (dk D_X13_handing 0 rfl) rfl (V_lg 0 rfl) rfl k) ?_
  refine A_sc (pc2 := 4) 46 (dk D_X13_handing 1 rfl) fl_13_448 (by decide) rfl (fun _ => rfl) rfl ?_
  refine A_if (pa := 7) (pb := 10) (fun T Q k1 k2 => V_ifne (tgt := 10) (pc2 := 7) (dk D_X13_handing 2 rfl) (by decide) rfl (fun q => k2 q) (fun q => k1 q)) (fun q1 => ?_) (fun q1 => ?_)
  · have h := h.1 q1
    refine A_p (fun T Q _ _ k => V_bipush (x := (-2)) (pc2 := 9) (dk D_X13_handing 3 rfl) (by decide) rfl k) ?_
    exact A_ret (fun T Q _ k => V_ireturn (dk D_X13_handing 4 rfl) rfl k) h
  · have h := h.2 q1
    refine A_p (fun T Q _ _ k => V_iload_n (pc2 := 11) (dk D_X13_handing 5 rfl) rfl (V_lg 2 rfl) rfl k) ?_
    refine A_p (fun T Q _ _ k => V_iconst (x := 0) (pc2 := 12) (dk D_X13_handing 6 rfl) (by decide) rfl k) ?_
    refine A_p (fun T Q _ _ k => V_iconst (x := 1) (pc2 := 13) (dk D_X13_handing 7 rfl) (by decide) rfl k) ?_
    obtain ⟨e2, he3, hc4⟩ := h
    refine A_call (st := []) (pc2 := 16) (fun T Q Qc L hc k => V_callS (as := [_, _, _]) (st := []) (M' := MX13_in) (pc2 := 16) (dk D_X13_handing 8 rfl) ml_13_292 mv_X13_in rfl rfl (Nat.le_of_ble_eq_true rfl) rfl he3 hc k) hc4 (aRI.k fun y5 s6 h => ?_)
    refine A_if (pa := 19) (pb := 21) (fun T Q k1 k2 => V_ifne (tgt := 21) (pc2 := 19) (dk D_X13_handing 9 rfl) (by decide) rfl (fun q => k2 q) (fun q => k1 q)) (fun q7 => ?_) (fun q7 => ?_)
    · have h := h.1 q7
      refine A_p (fun T Q _ _ k => V_iconst (x := (-1)) (pc2 := 20) (dk D_X13_handing 10 rfl) (by decide) rfl k) ?_
      exact A_ret (fun T Q _ k => V_ireturn (dk D_X13_handing 11 rfl) rfl k) h
    · have h := h.2 q7
      refine A_p (fun T Q _ _ k => V_iload_n (pc2 := 22) (dk D_X13_handing 12 rfl) rfl (V_lg 1 rfl) rfl k) ?_
      refine A_p (fun T Q _ _ k => V_iconst (x := 0) (pc2 := 23) (dk D_X13_handing 13 rfl) (by decide) rfl k) ?_
      refine A_p (fun T Q _ _ k => V_aload_n (pc2 := 24) (dk D_X13_handing 14 rfl) rfl (V_lg 0 rfl) rfl k) ?_
      refine A_sc (pc2 := 27) 83 (dk D_X13_handing 15 rfl) fl_13_482 (by decide) rfl (fun _ => rfl) rfl ?_
      refine A_p (fun T Q _ _ k => V_iconst (x := 1) (pc2 := 28) (dk D_X13_handing 16 rfl) (by decide) rfl k) ?_
      refine A_p (fun T Q _ _ k => V_isub (pc2 := 29) (dk D_X13_handing 17 rfl) rfl k) ?_
      obtain ⟨e8, he9, hc10⟩ := h
      refine A_call (st := []) (pc2 := 32) (fun T Q Qc L hc k => V_callS (as := [_, _, _]) (st := []) (M' := MX13_in) (pc2 := 32) (dk D_X13_handing 18 rfl) ml_13_292 mv_X13_in rfl rfl (Nat.le_of_ble_eq_true rfl) rfl he9 hc k) hc10 (aRI.k fun y11 s12 h => ?_)
      refine A_if (pa := 42) (pb := 35) (fun T Q k1 k2 => V_ifeq (tgt := 42) (pc2 := 35) (dk D_X13_handing 19 rfl) (by decide) rfl (fun q => k1 q) (fun q => k2 q)) (fun q13 => ?_) (fun q13 => ?_)
      · have h := h.1 q13
        exact h
      · have h := h.2 q13
        refine A_p (fun T Q _ _ k => V_iload_n (pc2 := 36) (dk D_X13_handing 20 rfl) rfl (V_lg 1 rfl) rfl k) ?_
        refine A_p (fun T Q _ _ k => V_sipush (x := 300) (pc2 := 39) (dk D_X13_handing 21 rfl) (by decide) rfl k) ?_
        refine A_if (pa := 47) (pb := 42) (fun T Q k1 k2 => V_cmplt (tgt := 47) (pc2 := 42) (dk D_X13_handing 22 rfl) (by decide) rfl (fun q => k1 q) (fun q => k2 q)) (fun q14 => ?_) (fun q14 => ?_)
        · have h := h.1 q14
          refine A_p (fun T Q _ _ k => V_iload_n (pc2 := 48) (dk D_X13_handing 25 rfl) rfl (V_lg 2 rfl) rfl k) ?_
          refine A_if (pa := 51) (pb := 60) (fun T Q k1 k2 => V_ifne (tgt := 60) (pc2 := 51) (dk D_X13_handing 26 rfl) (by decide) rfl (fun q => k2 q) (fun q => k1 q)) (fun q15 => ?_) (fun q15 => ?_)
          · have h := h.1 q15
            refine A_p (fun T Q _ _ k => V_aload_n (pc2 := 52) (dk D_X13_handing 27 rfl) rfl (V_lg 0 rfl) rfl k) ?_
            refine A_ar (pc2 := 55) (a := 61) 84 (dk D_X13_handing 28 rfl) fl_13_247 (by decide) (by decide) rfl (fun _ => rfl) rfl ?_
            refine A_p (fun T Q _ _ k => V_iload_n (pc2 := 56) (dk D_X13_handing 29 rfl) rfl (V_lg 1 rfl) rfl k) ?_
            obtain ⟨h16, h⟩ := h
            refine A_ild (pc2 := 57) 84 (dk D_X13_handing 30 rfl) rfl (by decide) rfl (by decide) rfl rfl h16 ?_
            refine A_p (fun T Q _ _ k => V_goto (tgt := 66) (dk D_X13_handing 31 rfl) (by decide) k) ?_
            exact h
          · have h := h.2 q15
            refine A_p (fun T Q _ _ k => V_aload_n (pc2 := 61) (dk D_X13_handing 32 rfl) rfl (V_lg 0 rfl) rfl k) ?_
            refine A_ar (pc2 := 64) (a := 62) 85 (dk D_X13_handing 33 rfl) fl_13_250 (by decide) (by decide) rfl (fun _ => rfl) rfl ?_
            refine A_p (fun T Q _ _ k => V_iload_n (pc2 := 65) (dk D_X13_handing 34 rfl) rfl (V_lg 1 rfl) rfl k) ?_
            obtain ⟨h17, h⟩ := h
            refine A_ild (pc2 := 66) 85 (dk D_X13_handing 35 rfl) rfl (by decide) rfl (by decide) rfl rfl h17 ?_
            exact h
        · have h := h.2 q14
          exact h
theorem a_failures_0 {X : Cx} {b d : Nat} {σ : Rm} {Q : Res → Rm → Prop}  (h : (((sI σ 46) = 0 → Q (.inl (some (vI (-2)))) σ) ∧ (¬ (sI σ 46) = 0 → ∃ e2 : Nat, e2 + 1 ≤ d ∧ AC X b e2 MX13_tellFailures [vR b] σ (aRV fun  s5 => Q (.inl (some (vI (sI s5 102)))) s5)))) : A X b d MX13_failures 0 [(0, vR b)] [] σ Q := by
  refine A_p (fun T Q _ _ k => V_aload_n (pc2 := 1) (dk D_X13_failures 0 rfl) rfl (V_lg 0 rfl) rfl k) ?_
  refine A_sc (pc2 := 4) 46 (dk D_X13_failures 1 rfl) fl_13_448 (by decide) rfl (fun _ => rfl) rfl ?_
  refine A_if (pa := 7) (pb := 10) (fun T Q k1 k2 => V_ifne (tgt := 10) (pc2 := 7) (dk D_X13_failures 2 rfl) (by decide) rfl (fun q => k2 q) (fun q => k1 q)) (fun q1 => ?_) (fun q1 => ?_)
  · have h := h.1 q1
    refine A_p (fun T Q _ _ k => V_bipush (x := (-2)) (pc2 := 9) (dk D_X13_failures 3 rfl) (by decide) rfl k) ?_
    exact A_ret (fun T Q _ k => V_ireturn (dk D_X13_failures 4 rfl) rfl k) h
  · have h := h.2 q1
    refine A_p (fun T Q _ _ k => V_aload_n (pc2 := 11) (dk D_X13_failures 5 rfl) rfl (V_lg 0 rfl) rfl k) ?_
    obtain ⟨e2, he3, hc4⟩ := h
    refine A_call (st := []) (pc2 := 14) (fun T Q Qc L hc k => V_callV (as := []) (st := []) (M' := MX13_tellFailures) (ci := 13) (pc2 := 14) (dk D_X13_failures 6 rfl) ml_13_649 mv_X13_tellFailures rfl rfl (by decide) rfl (Nat.le_of_ble_eq_true rfl) rfl he3 L.2.1 hc k) hc4 (aRV.k fun  s5 h => ?_)
    refine A_p (fun T Q _ _ k => V_aload_n (pc2 := 15) (dk D_X13_failures 7 rfl) rfl (V_lg 0 rfl) rfl k) ?_
    refine A_sc (pc2 := 18) 102 (dk D_X13_failures 8 rfl) fl_13_642 (by decide) rfl (fun _ => rfl) rfl ?_
    exact A_ret (fun T Q _ k => V_ireturn (dk D_X13_failures 9 rfl) rfl k) h
theorem a_failure__0 {X : Cx} {b d : Nat} {σ : Rm} {Q : Res → Rm → Prop} (x1 : Int32) (x2 : Int32) (h : (((sI σ 46) = 0 → Q (.inl (some (vI (-2)))) σ) ∧ (¬ (sI σ 46) = 0 → ∃ e2 : Nat, e2 + 1 ≤ d ∧ AC X b e2 MX13_tellFailures [vR b] σ (aRV fun  s5 => ∃ e6 : Nat, e6 + 1 ≤ d ∧ AC X b e6 MX13_in [vI x1, vI 0, vI ((sI s5 102) - 1)] s5 (aRI fun y9 s10 => ((y9 = 0 → A X b d MX13_failure_ 37 [(0, vR b), (1, vI x1), (2, vI x2)] [] s10 Q) ∧ (¬ y9 = 0 → ∃ e12 : Nat, e12 + 1 ≤ d ∧ AC X b e12 MX13_in [vI x2, vI 0, vI 5] s10 (aRI fun y15 s16 => ((y15 = 0 → A X b d MX13_failure_ 37 [(0, vR b), (1, vI x1), (2, vI x2)] [] s16 Q) ∧ (¬ y15 = 0 → (vp_in x1 40) ∧ ((x2 = 0 → (vp_in (aI s16 99 (x1 : Int32).toNatClampNeg) 8000) ∧ Q (.inl (some (vI (aI s16 89 ((aI s16 99 (x1 : Int32).toNatClampNeg) : Int32).toNatClampNeg)))) s16) ∧ (x2 = 1 → (vp_in (aI s16 99 (x1 : Int32).toNatClampNeg) 8000) ∧ Q (.inl (some (vI (aI s16 90 ((aI s16 99 (x1 : Int32).toNatClampNeg) : Int32).toNatClampNeg)))) s16) ∧ (x2 = 2 → (vp_in (aI s16 99 (x1 : Int32).toNatClampNeg) 8000) ∧ Q (.inl (some (vI (aI s16 91 ((aI s16 99 (x1 : Int32).toNatClampNeg) : Int32).toNatClampNeg)))) s16) ∧ (x2 = 3 → (vp_in (aI s16 99 (x1 : Int32).toNatClampNeg) 8000) ∧ Q (.inl (some (vI (aI s16 92 ((aI s16 99 (x1 : Int32).toNatClampNeg) : Int32).toNatClampNeg)))) s16) ∧ (x2 = 4 → (vp_in x1 40) ∧ Q (.inl (some (vI (aI s16 100 (x1 : Int32).toNatClampNeg)))) s16) ∧ (¬ (x2 = 0 ∨ x2 = 1 ∨ x2 = 2 ∨ x2 = 3 ∨ x2 = 4) → (vp_in x1 40) ∧ Q (.inl (some (vI (aI s16 101 (x1 : Int32).toNatClampNeg)))) s16)))))))))))) : A X b d MX13_failure_ 0 [(0, vR b), (1, vI x1), (2, vI x2)] [] σ Q := by
  refine A_p (fun T Q _ _ k => V_aload_n (pc2 := 1) (dk D_X13_failure_ 0 rfl) rfl (V_lg 0 rfl) rfl k) ?_
  refine A_sc (pc2 := 4) 46 (dk D_X13_failure_ 1 rfl) fl_13_448 (by decide) rfl (fun _ => rfl) rfl ?_
  refine A_if (pa := 7) (pb := 10) (fun T Q k1 k2 => V_ifne (tgt := 10) (pc2 := 7) (dk D_X13_failure_ 2 rfl) (by decide) rfl (fun q => k2 q) (fun q => k1 q)) (fun q1 => ?_) (fun q1 => ?_)
  · have h := h.1 q1
    refine A_p (fun T Q _ _ k => V_bipush (x := (-2)) (pc2 := 9) (dk D_X13_failure_ 3 rfl) (by decide) rfl k) ?_
    exact A_ret (fun T Q _ k => V_ireturn (dk D_X13_failure_ 4 rfl) rfl k) h
  · have h := h.2 q1
    refine A_p (fun T Q _ _ k => V_aload_n (pc2 := 11) (dk D_X13_failure_ 5 rfl) rfl (V_lg 0 rfl) rfl k) ?_
    obtain ⟨e2, he3, hc4⟩ := h
    refine A_call (st := []) (pc2 := 14) (fun T Q Qc L hc k => V_callV (as := []) (st := []) (M' := MX13_tellFailures) (ci := 13) (pc2 := 14) (dk D_X13_failure_ 6 rfl) ml_13_649 mv_X13_tellFailures rfl rfl (by decide) rfl (Nat.le_of_ble_eq_true rfl) rfl he3 L.2.1 hc k) hc4 (aRV.k fun  s5 h => ?_)
    refine A_p (fun T Q _ _ k => V_iload_n (pc2 := 15) (dk D_X13_failure_ 7 rfl) rfl (V_lg 1 rfl) rfl k) ?_
    refine A_p (fun T Q _ _ k => V_iconst (x := 0) (pc2 := 16) (dk D_X13_failure_ 8 rfl) (by decide) rfl k) ?_
    refine A_p (fun T Q _ _ k => V_aload_n (pc2 := 17) (dk D_X13_failure_ 9 rfl) rfl (V_lg 0 rfl) rfl k) ?_
    refine A_sc (pc2 := 20) 102 (dk D_X13_failure_ 10 rfl) fl_13_642 (by decide) rfl (fun _ => rfl) rfl ?_
    refine A_p (fun T Q _ _ k => V_iconst (x := 1) (pc2 := 21) (dk D_X13_failure_ 11 rfl) (by decide) rfl k) ?_
    refine A_p (fun T Q _ _ k => V_isub (pc2 := 22) (dk D_X13_failure_ 12 rfl) rfl k) ?_
    obtain ⟨e6, he7, hc8⟩ := h
    refine A_call (st := []) (pc2 := 25) (fun T Q Qc L hc k => V_callS (as := [_, _, _]) (st := []) (M' := MX13_in) (pc2 := 25) (dk D_X13_failure_ 13 rfl) ml_13_292 mv_X13_in rfl rfl (Nat.le_of_ble_eq_true rfl) rfl he7 hc k) hc8 (aRI.k fun y9 s10 h => ?_)
    refine A_if (pa := 37) (pb := 28) (fun T Q k1 k2 => V_ifeq (tgt := 37) (pc2 := 28) (dk D_X13_failure_ 14 rfl) (by decide) rfl (fun q => k1 q) (fun q => k2 q)) (fun q11 => ?_) (fun q11 => ?_)
    · have h := h.1 q11
      exact h
    · have h := h.2 q11
      refine A_p (fun T Q _ _ k => V_iload_n (pc2 := 29) (dk D_X13_failure_ 15 rfl) rfl (V_lg 2 rfl) rfl k) ?_
      refine A_p (fun T Q _ _ k => V_iconst (x := 0) (pc2 := 30) (dk D_X13_failure_ 16 rfl) (by decide) rfl k) ?_
      refine A_p (fun T Q _ _ k => V_iconst (x := 5) (pc2 := 31) (dk D_X13_failure_ 17 rfl) (by decide) rfl k) ?_
      obtain ⟨e12, he13, hc14⟩ := h
      refine A_call (st := []) (pc2 := 34) (fun T Q Qc L hc k => V_callS (as := [_, _, _]) (st := []) (M' := MX13_in) (pc2 := 34) (dk D_X13_failure_ 18 rfl) ml_13_292 mv_X13_in rfl rfl (Nat.le_of_ble_eq_true rfl) rfl he13 hc k) hc14 (aRI.k fun y15 s16 h => ?_)
      refine A_if (pa := 37) (pb := 39) (fun T Q k1 k2 => V_ifne (tgt := 39) (pc2 := 37) (dk D_X13_failure_ 19 rfl) (by decide) rfl (fun q => k2 q) (fun q => k1 q)) (fun q17 => ?_) (fun q17 => ?_)
      · have h := h.1 q17
        exact h
      · have h := h.2 q17
        refine A_p (fun T Q _ _ k => V_aload_n (pc2 := 40) (dk D_X13_failure_ 22 rfl) rfl (V_lg 0 rfl) rfl k) ?_
        refine A_ar (pc2 := 43) (a := 73) 99 (dk D_X13_failure_ 23 rfl) fl_13_283 (by decide) (by decide) rfl (fun _ => rfl) rfl ?_
        refine A_p (fun T Q _ _ k => V_iload_n (pc2 := 44) (dk D_X13_failure_ 24 rfl) rfl (V_lg 1 rfl) rfl k) ?_
        obtain ⟨h18, h⟩ := h
        refine A_ild (pc2 := 45) 99 (dk D_X13_failure_ 25 rfl) rfl (by decide) rfl (by decide) rfl rfl h18 ?_
        refine A_p (fun T Q _ _ k => V_istore_n (pc2 := 46) (lv2 := [(0, _), (1, _), (2, _), (3, _)]) (dk D_X13_failure_ 26 rfl) rfl (by decide) rfl rfl k) ?_
        refine A_p (fun T Q _ _ k => V_iload_n (pc2 := 47) (dk D_X13_failure_ 27 rfl) rfl (V_lg 2 rfl) rfl k) ?_
        refine A_table (dk D_X13_failure_ 28 rfl) [80, 87, 94, 101, 108] 115 (by decide) (by decide) rfl (by decide) (fun q19 => ?_) (fun j20 hj q19 => ?_)
        · have h := h.2.2.2.2.2 (by rintro (hk | hk | hk | hk | hk) <;> (rw [hk] at q19; revert q19; decide))
          refine A_p (fun T Q _ _ k => V_aload_n (pc2 := 116) (dk D_X13_failure_ 54 rfl) rfl (V_lg 0 rfl) rfl k) ?_
          refine A_ar (pc2 := 119) (a := 75) 101 (dk D_X13_failure_ 55 rfl) fl_13_289 (by decide) (by decide) rfl (fun _ => rfl) rfl ?_
          refine A_p (fun T Q _ _ k => V_iload_n (pc2 := 120) (dk D_X13_failure_ 56 rfl) rfl (V_lg 1 rfl) rfl k) ?_
          obtain ⟨h22, h⟩ := h
          refine A_ild (pc2 := 121) 101 (dk D_X13_failure_ 57 rfl) rfl (by decide) rfl (by decide) rfl rfl h22 ?_
          exact A_ret (fun T Q _ k => V_ireturn (dk D_X13_failure_ 58 rfl) rfl k) h
        · have hj2 : j20 = 0 ∨ j20 = 1 ∨ j20 = 2 ∨ j20 = 3 ∨ j20 = 4 := by simp at hj; omega
          clear hj
          rcases hj2 with rfl | rfl | rfl | rfl | rfl
          · have hx : x2 = 0 := Int32.toInt_inj.mp (by rw [q19]; decide)
            have h := h.1 hx
            refine A_p (fun T Q _ _ k => V_aload_n (pc2 := 81) (dk D_X13_failure_ 29 rfl) rfl (V_lg 0 rfl) rfl k) ?_
            refine A_ar (pc2 := 84) (a := 64) 89 (dk D_X13_failure_ 30 rfl) fl_13_256 (by decide) (by decide) rfl (fun _ => rfl) rfl ?_
            refine A_p (fun T Q _ _ k => V_iload_n (pc2 := 85) (dk D_X13_failure_ 31 rfl) rfl (V_lg 3 rfl) rfl k) ?_
            obtain ⟨h23, h⟩ := h
            refine A_ild (pc2 := 86) 89 (dk D_X13_failure_ 32 rfl) rfl (by decide) rfl (by decide) rfl rfl h23 ?_
            exact A_ret (fun T Q _ k => V_ireturn (dk D_X13_failure_ 33 rfl) rfl k) h
          · have hx : x2 = 1 := Int32.toInt_inj.mp (by rw [q19]; decide)
            have h := h.2.1 hx
            refine A_p (fun T Q _ _ k => V_aload_n (pc2 := 88) (dk D_X13_failure_ 34 rfl) rfl (V_lg 0 rfl) rfl k) ?_
            refine A_ar (pc2 := 91) (a := 65) 90 (dk D_X13_failure_ 35 rfl) fl_13_259 (by decide) (by decide) rfl (fun _ => rfl) rfl ?_
            refine A_p (fun T Q _ _ k => V_iload_n (pc2 := 92) (dk D_X13_failure_ 36 rfl) rfl (V_lg 3 rfl) rfl k) ?_
            obtain ⟨h24, h⟩ := h
            refine A_ild (pc2 := 93) 90 (dk D_X13_failure_ 37 rfl) rfl (by decide) rfl (by decide) rfl rfl h24 ?_
            exact A_ret (fun T Q _ k => V_ireturn (dk D_X13_failure_ 38 rfl) rfl k) h
          · have hx : x2 = 2 := Int32.toInt_inj.mp (by rw [q19]; decide)
            have h := h.2.2.1 hx
            refine A_p (fun T Q _ _ k => V_aload_n (pc2 := 95) (dk D_X13_failure_ 39 rfl) rfl (V_lg 0 rfl) rfl k) ?_
            refine A_ar (pc2 := 98) (a := 66) 91 (dk D_X13_failure_ 40 rfl) fl_13_262 (by decide) (by decide) rfl (fun _ => rfl) rfl ?_
            refine A_p (fun T Q _ _ k => V_iload_n (pc2 := 99) (dk D_X13_failure_ 41 rfl) rfl (V_lg 3 rfl) rfl k) ?_
            obtain ⟨h25, h⟩ := h
            refine A_ild (pc2 := 100) 91 (dk D_X13_failure_ 42 rfl) rfl (by decide) rfl (by decide) rfl rfl h25 ?_
            exact A_ret (fun T Q _ k => V_ireturn (dk D_X13_failure_ 43 rfl) rfl k) h
          · have hx : x2 = 3 := Int32.toInt_inj.mp (by rw [q19]; decide)
            have h := h.2.2.2.1 hx
            refine A_p (fun T Q _ _ k => V_aload_n (pc2 := 102) (dk D_X13_failure_ 44 rfl) rfl (V_lg 0 rfl) rfl k) ?_
            refine A_ar (pc2 := 105) (a := 67) 92 (dk D_X13_failure_ 45 rfl) fl_13_265 (by decide) (by decide) rfl (fun _ => rfl) rfl ?_
            refine A_p (fun T Q _ _ k => V_iload_n (pc2 := 106) (dk D_X13_failure_ 46 rfl) rfl (V_lg 3 rfl) rfl k) ?_
            obtain ⟨h26, h⟩ := h
            refine A_ild (pc2 := 107) 92 (dk D_X13_failure_ 47 rfl) rfl (by decide) rfl (by decide) rfl rfl h26 ?_
            exact A_ret (fun T Q _ k => V_ireturn (dk D_X13_failure_ 48 rfl) rfl k) h
          · have hx : x2 = 4 := Int32.toInt_inj.mp (by rw [q19]; decide)
            have h := h.2.2.2.2.1 hx
            refine A_p (fun T Q _ _ k => V_aload_n (pc2 := 109) (dk D_X13_failure_ 49 rfl) rfl (V_lg 0 rfl) rfl k) ?_
            refine A_ar (pc2 := 112) (a := 74) 100 (dk D_X13_failure_ 50 rfl) fl_13_286 (by decide) (by decide) rfl (fun _ => rfl) rfl ?_
            refine A_p (fun T Q _ _ k => V_iload_n (pc2 := 113) (dk D_X13_failure_ 51 rfl) rfl (V_lg 1 rfl) rfl k) ?_
            obtain ⟨h27, h⟩ := h
            refine A_ild (pc2 := 114) 100 (dk D_X13_failure_ 52 rfl) rfl (by decide) rfl (by decide) rfl rfl h27 ?_
            exact A_ret (fun T Q _ k => V_ireturn (dk D_X13_failure_ 53 rfl) rfl k) h
theorem a_ring_0 {X : Cx} {b d : Nat} {σ : Rm} {Q : Res → Rm → Prop} (x1 : Int32) (h : (((sI σ 46) = 0 → A X b d MX13_ring 37 [(0, vR b), (1, vI x1)] [vI (-2)] σ Q) ∧ (¬ (sI σ 46) = 0 → ∃ e2 : Nat, e2 + 1 ≤ d ∧ AC X b e2 MX13_in [vI x1, vI 0, vI ((sI σ 87) - 1)] σ (aRI fun y5 s6 => ((y5 = 0 → A X b d MX13_ring 37 [(0, vR b), (1, vI x1)] [vI (-9)] s6 Q) ∧ (¬ y5 = 0 → (vp_in x1 64) ∧ A X b d MX13_ring 37 [(0, vR b), (1, vI x1)] [vI (aI s6 86 (x1 : Int32).toNatClampNeg)] s6 Q)))))) : A X b d MX13_ring 0 [(0, vR b), (1, vI x1)] [] σ Q := by
  refine A_p (fun T Q _ _ k => V_aload_n (pc2 := 1) (dk D_X13_ring 0 rfl) rfl (V_lg 0 rfl) rfl k) ?_
  refine A_sc (pc2 := 4) 46 (dk D_X13_ring 1 rfl) fl_13_448 (by decide) rfl (fun _ => rfl) rfl ?_
  refine A_if (pa := 7) (pb := 12) (fun T Q k1 k2 => V_ifne (tgt := 12) (pc2 := 7) (dk D_X13_ring 2 rfl) (by decide) rfl (fun q => k2 q) (fun q => k1 q)) (fun q1 => ?_) (fun q1 => ?_)
  · have h := h.1 q1
    refine A_p (fun T Q _ _ k => V_bipush (x := (-2)) (pc2 := 9) (dk D_X13_ring 3 rfl) (by decide) rfl k) ?_
    refine A_p (fun T Q _ _ k => V_goto (tgt := 37) (dk D_X13_ring 4 rfl) (by decide) k) ?_
    exact h
  · have h := h.2 q1
    refine A_p (fun T Q _ _ k => V_iload_n (pc2 := 13) (dk D_X13_ring 5 rfl) rfl (V_lg 1 rfl) rfl k) ?_
    refine A_p (fun T Q _ _ k => V_iconst (x := 0) (pc2 := 14) (dk D_X13_ring 6 rfl) (by decide) rfl k) ?_
    refine A_p (fun T Q _ _ k => V_aload_n (pc2 := 15) (dk D_X13_ring 7 rfl) rfl (V_lg 0 rfl) rfl k) ?_
    refine A_sc (pc2 := 18) 87 (dk D_X13_ring 8 rfl) fl_13_485 (by decide) rfl (fun _ => rfl) rfl ?_
    refine A_p (fun T Q _ _ k => V_iconst (x := 1) (pc2 := 19) (dk D_X13_ring 9 rfl) (by decide) rfl k) ?_
    refine A_p (fun T Q _ _ k => V_isub (pc2 := 20) (dk D_X13_ring 10 rfl) rfl k) ?_
    obtain ⟨e2, he3, hc4⟩ := h
    refine A_call (st := []) (pc2 := 23) (fun T Q Qc L hc k => V_callS (as := [_, _, _]) (st := []) (M' := MX13_in) (pc2 := 23) (dk D_X13_ring 11 rfl) ml_13_292 mv_X13_in rfl rfl (Nat.le_of_ble_eq_true rfl) rfl he3 hc k) hc4 (aRI.k fun y5 s6 h => ?_)
    refine A_if (pa := 35) (pb := 26) (fun T Q k1 k2 => V_ifeq (tgt := 35) (pc2 := 26) (dk D_X13_ring 12 rfl) (by decide) rfl (fun q => k1 q) (fun q => k2 q)) (fun q7 => ?_) (fun q7 => ?_)
    · have h := h.1 q7
      refine A_p (fun T Q _ _ k => V_bipush (x := (-9)) (pc2 := 37) (dk D_X13_ring 18 rfl) (by decide) rfl k) ?_
      exact h
    · have h := h.2 q7
      refine A_p (fun T Q _ _ k => V_aload_n (pc2 := 27) (dk D_X13_ring 13 rfl) rfl (V_lg 0 rfl) rfl k) ?_
      refine A_ar (pc2 := 30) (a := 63) 86 (dk D_X13_ring 14 rfl) fl_13_253 (by decide) (by decide) rfl (fun _ => rfl) rfl ?_
      refine A_p (fun T Q _ _ k => V_iload_n (pc2 := 31) (dk D_X13_ring 15 rfl) rfl (V_lg 1 rfl) rfl k) ?_
      obtain ⟨h8, h⟩ := h
      refine A_ild (pc2 := 32) 86 (dk D_X13_ring 16 rfl) rfl (by decide) rfl (by decide) rfl rfl h8 ?_
      refine A_p (fun T Q _ _ k => V_goto (tgt := 37) (dk D_X13_ring 17 rfl) (by decide) k) ?_
      exact h
theorem a_ring_37 {X : Cx} {b d : Nat} {σ : Rm} {Q : Res → Rm → Prop} (x1 : Int32) (t0 : Int32) (h : Q (.inl (some (vI t0))) σ) : A X b d MX13_ring 37 [(0, vR b), (1, vI x1)] [vI t0] σ Q := by
  exact A_ret (fun T Q _ k => V_ireturn (dk D_X13_ring 19 rfl) rfl k) h
theorem a_count_0 {X : Cx} {b d : Nat} {σ : Rm} {Q : Res → Rm → Prop} (x1 : Int32) (h : (((sI σ 46) = 0 → Q (.inl (some (vI (-2)))) σ) ∧ (¬ (sI σ 46) = 0 → ((x1 = 0 → Q (.inl (some (vI (sI σ 18)))) σ) ∧ (x1 = 1 → Q (.inl (some (vI (sI σ 47)))) σ) ∧ (x1 = 2 → Q (.inl (some (vI (sI σ 48)))) σ) ∧ (x1 = 3 → Q (.inl (some (vI (sI σ 75)))) σ) ∧ (x1 = 4 → (((sI σ 76) = 0 → A X b d MX13_count 76 [(0, vR b), (1, vI x1)] [vI 0] σ Q) ∧ (¬ (sI σ 76) = 0 → A X b d MX13_count 76 [(0, vR b), (1, vI x1)] [vI 1] σ Q))) ∧ (¬ (x1 = 0 ∨ x1 = 1 ∨ x1 = 2 ∨ x1 = 3 ∨ x1 = 4) → Q (.inl (some (vI (-1)))) σ))))) : A X b d MX13_count 0 [(0, vR b), (1, vI x1)] [] σ Q := by
  refine A_p (fun T Q _ _ k => V_aload_n (pc2 := 1) (dk D_X13_count 0 rfl) rfl (V_lg 0 rfl) rfl k) ?_
  refine A_sc (pc2 := 4) 46 (dk D_X13_count 1 rfl) fl_13_448 (by decide) rfl (fun _ => rfl) rfl ?_
  refine A_if (pa := 7) (pb := 10) (fun T Q k1 k2 => V_ifne (tgt := 10) (pc2 := 7) (dk D_X13_count 2 rfl) (by decide) rfl (fun q => k2 q) (fun q => k1 q)) (fun q1 => ?_) (fun q1 => ?_)
  · have h := h.1 q1
    refine A_p (fun T Q _ _ k => V_bipush (x := (-2)) (pc2 := 9) (dk D_X13_count 3 rfl) (by decide) rfl k) ?_
    exact A_ret (fun T Q _ k => V_ireturn (dk D_X13_count 4 rfl) rfl k) h
  · have h := h.2 q1
    refine A_p (fun T Q _ _ k => V_iload_n (pc2 := 11) (dk D_X13_count 5 rfl) rfl (V_lg 1 rfl) rfl k) ?_
    refine A_table (dk D_X13_count 6 rfl) [44, 49, 54, 59, 64] 77 (by decide) (by decide) rfl (by decide) (fun q2 => ?_) (fun j3 hj q2 => ?_)
    · have h := h.2.2.2.2.2 (by rintro (hk | hk | hk | hk | hk) <;> (rw [hk] at q2; revert q2; decide))
      refine A_p (fun T Q _ _ k => V_iconst (x := (-1)) (pc2 := 78) (dk D_X13_count 26 rfl) (by decide) rfl k) ?_
      exact A_ret (fun T Q _ k => V_ireturn (dk D_X13_count 27 rfl) rfl k) h
    · have hj2 : j3 = 0 ∨ j3 = 1 ∨ j3 = 2 ∨ j3 = 3 ∨ j3 = 4 := by simp at hj; omega
      clear hj
      rcases hj2 with rfl | rfl | rfl | rfl | rfl
      · have hx : x1 = 0 := Int32.toInt_inj.mp (by rw [q2]; decide)
        have h := h.1 hx
        refine A_p (fun T Q _ _ k => V_aload_n (pc2 := 45) (dk D_X13_count 7 rfl) rfl (V_lg 0 rfl) rfl k) ?_
        refine A_sc (pc2 := 48) 18 (dk D_X13_count 8 rfl) fl_13_445 (by decide) rfl (fun _ => rfl) rfl ?_
        exact A_ret (fun T Q _ k => V_ireturn (dk D_X13_count 9 rfl) rfl k) h
      · have hx : x1 = 1 := Int32.toInt_inj.mp (by rw [q2]; decide)
        have h := h.2.1 hx
        refine A_p (fun T Q _ _ k => V_aload_n (pc2 := 50) (dk D_X13_count 10 rfl) rfl (V_lg 0 rfl) rfl k) ?_
        refine A_sc (pc2 := 53) 47 (dk D_X13_count 11 rfl) fl_13_461 (by decide) rfl (fun _ => rfl) rfl ?_
        exact A_ret (fun T Q _ k => V_ireturn (dk D_X13_count 12 rfl) rfl k) h
      · have hx : x1 = 2 := Int32.toInt_inj.mp (by rw [q2]; decide)
        have h := h.2.2.1 hx
        refine A_p (fun T Q _ _ k => V_aload_n (pc2 := 55) (dk D_X13_count 13 rfl) rfl (V_lg 0 rfl) rfl k) ?_
        refine A_sc (pc2 := 58) 48 (dk D_X13_count 14 rfl) fl_13_464 (by decide) rfl (fun _ => rfl) rfl ?_
        exact A_ret (fun T Q _ k => V_ireturn (dk D_X13_count 15 rfl) rfl k) h
      · have hx : x1 = 3 := Int32.toInt_inj.mp (by rw [q2]; decide)
        have h := h.2.2.2.1 hx
        refine A_p (fun T Q _ _ k => V_aload_n (pc2 := 60) (dk D_X13_count 16 rfl) rfl (V_lg 0 rfl) rfl k) ?_
        refine A_sc (pc2 := 63) 75 (dk D_X13_count 17 rfl) fl_13_467 (by decide) rfl (fun _ => rfl) rfl ?_
        exact A_ret (fun T Q _ k => V_ireturn (dk D_X13_count 18 rfl) rfl k) h
      · have hx : x1 = 4 := Int32.toInt_inj.mp (by rw [q2]; decide)
        have h := h.2.2.2.2.1 hx
        refine A_p (fun T Q _ _ k => V_aload_n (pc2 := 65) (dk D_X13_count 19 rfl) rfl (V_lg 0 rfl) rfl k) ?_
        refine A_sc (pc2 := 68) 76 (dk D_X13_count 20 rfl) fl_13_470 (by decide) rfl (fun _ => rfl) rfl ?_
        refine A_if (pa := 75) (pb := 71) (fun T Q k1 k2 => V_ifeq (tgt := 75) (pc2 := 71) (dk D_X13_count 21 rfl) (by decide) rfl (fun q => k1 q) (fun q => k2 q)) (fun q4 => ?_) (fun q4 => ?_)
        · have h := h.1 q4
          refine A_p (fun T Q _ _ k => V_iconst (x := 0) (pc2 := 76) (dk D_X13_count 24 rfl) (by decide) rfl k) ?_
          exact h
        · have h := h.2 q4
          refine A_p (fun T Q _ _ k => V_iconst (x := 1) (pc2 := 72) (dk D_X13_count 22 rfl) (by decide) rfl k) ?_
          refine A_p (fun T Q _ _ k => V_goto (tgt := 76) (dk D_X13_count 23 rfl) (by decide) k) ?_
          exact h
theorem a_digest_0 {X : Cx} {b d : Nat} {σ : Rm} {Q : Res → Rm → Prop}  (h : (((sI σ 46) = 0 → Q (.inl (some (vL 0))) σ) ∧ (¬ (sI σ 46) = 0 → A X b d MX13_digest 15 [(0, vR b), (1, vL 17), (3, vI 1)] [] σ Q))) : A X b d MX13_digest 0 [(0, vR b)] [] σ Q := by
  refine A_p (fun T Q _ _ k => V_aload_n (pc2 := 1) (dk D_X13_digest 0 rfl) rfl (V_lg 0 rfl) rfl k) ?_
  refine A_sc (pc2 := 4) 46 (dk D_X13_digest 1 rfl) fl_13_448 (by decide) rfl (fun _ => rfl) rfl ?_
  refine A_if (pa := 7) (pb := 9) (fun T Q k1 k2 => V_ifne (tgt := 9) (pc2 := 7) (dk D_X13_digest 2 rfl) (by decide) rfl (fun q => k2 q) (fun q => k1 q)) (fun q1 => ?_) (fun q1 => ?_)
  · have h := h.1 q1
    refine A_p (fun T Q _ _ k => V_lconst (x := 0) (pc2 := 8) (dk D_X13_digest 3 rfl) (by decide) rfl k) ?_
    exact A_ret (fun T Q _ k => V_lreturn (dk D_X13_digest 4 rfl) rfl k) h
  · have h := h.2 q1
    refine A_p (fun T Q _ _ k => V_ldc2 (x := 17) (pc2 := 12) (dk D_X13_digest 5 rfl) kl_13_652 rfl k) ?_
    refine A_p (fun T Q _ _ k => V_lstore_n (pc2 := 13) (lv2 := [(0, _), (1, _)]) (dk D_X13_digest 6 rfl) rfl (by decide) rfl rfl k) ?_
    refine A_p (fun T Q _ _ k => V_iconst (x := 1) (pc2 := 14) (dk D_X13_digest 7 rfl) (by decide) rfl k) ?_
    refine A_p (fun T Q _ _ k => V_istore_n (pc2 := 15) (lv2 := [(0, _), (1, _), (3, _)]) (dk D_X13_digest 8 rfl) rfl (by decide) rfl rfl k) ?_
    exact h
