theorem a_hands_0 {X : Cx} {b d : Nat} {σ : Rm} {Q : Res → Rm → Prop} (x1 : Int32) (x2 : Int32) (h : ((300 ≤ (sI σ 83) → A X b d MX13_hands 30 [(0, vR b), (1, vI x1), (2, vI x2)] [] σ Q) ∧ (¬ 300 ≤ (sI σ 83) → (vp_in (sI σ 83) 300) ∧ ∀ s3 : Rm, s3 = wI σ 84 (((sI σ 83) : Int32).toNatClampNeg) x1 → (vp_in (sI s3 83) 300) ∧ ∀ s5 : Rm, s5 = wI s3 85 (((sI s3 83) : Int32).toNatClampNeg) x2 → A X b d MX13_hands 30 [(0, vR b), (1, vI x1), (2, vI x2)] [] s5 Q))) : A X b d MX13_hands 0 [(0, vR b), (1, vI x1), (2, vI x2)] [] σ Q := by
  refine A_p (fun T Q _ _ k => V_aload_n (pc2 := 1) (dk D_X13_hands 0 rfl) rfl (V_lg 0 rfl) rfl k) ?_
  refine A_sc (pc2 := 4) 83 (dk D_X13_hands 1 rfl) fl_13_482 (by decide) rfl (fun _ => rfl) rfl ?_
  refine A_p (fun T Q _ _ k => V_sipush (x := 300) (pc2 := 7) (dk D_X13_hands 2 rfl) (by decide) rfl k) ?_
  refine A_if (pa := 30) (pb := 10) (fun T Q k1 k2 => V_cmpge (tgt := 30) (pc2 := 10) (dk D_X13_hands 3 rfl) (by decide) rfl (fun q => k1 q) (fun q => k2 q)) (fun q1 => ?_) (fun q1 => ?_)
  · have h := h.1 q1
    exact h
  · have h := h.2 q1
    refine A_p (fun T Q _ _ k => V_aload_n (pc2 := 11) (dk D_X13_hands 4 rfl) rfl (V_lg 0 rfl) rfl k) ?_
    refine A_ar (pc2 := 14) (a := 61) 84 (dk D_X13_hands 5 rfl) fl_13_247 (by decide) (by decide) rfl (fun _ => rfl) rfl ?_
    refine A_p (fun T Q _ _ k => V_aload_n (pc2 := 15) (dk D_X13_hands 6 rfl) rfl (V_lg 0 rfl) rfl k) ?_
    refine A_sc (pc2 := 18) 83 (dk D_X13_hands 7 rfl) fl_13_482 (by decide) rfl (fun _ => rfl) rfl ?_
    refine A_p (fun T Q _ _ k => V_iload_n (pc2 := 19) (dk D_X13_hands 8 rfl) rfl (V_lg 1 rfl) rfl k) ?_
    obtain ⟨h2, h⟩ := h
    refine A_ist (pc2 := 20) 84 (dk D_X13_hands 9 rfl) rfl (by decide) rfl (by decide) rfl rfl h2 ?_
    have h := h _ rfl
    refine A_p (fun T Q _ _ k => V_aload_n (pc2 := 21) (dk D_X13_hands 10 rfl) rfl (V_lg 0 rfl) rfl k) ?_
    refine A_ar (pc2 := 24) (a := 62) 85 (dk D_X13_hands 11 rfl) fl_13_250 (by decide) (by decide) rfl (fun _ => rfl) rfl ?_
    refine A_p (fun T Q _ _ k => V_aload_n (pc2 := 25) (dk D_X13_hands 12 rfl) rfl (V_lg 0 rfl) rfl k) ?_
    refine A_sc (pc2 := 28) 83 (dk D_X13_hands 13 rfl) fl_13_482 (by decide) rfl (fun _ => rfl) rfl ?_
    refine A_p (fun T Q _ _ k => V_iload_n (pc2 := 29) (dk D_X13_hands 14 rfl) rfl (V_lg 2 rfl) rfl k) ?_
    obtain ⟨h4, h⟩ := h
    refine A_ist (pc2 := 30) 85 (dk D_X13_hands 15 rfl) rfl (by decide) rfl (by decide) rfl rfl h4 ?_
    have h := h _ rfl
    exact h
theorem a_hands_30 {X : Cx} {b d : Nat} {σ : Rm} {Q : Res → Rm → Prop} (x1 : Int32) (x2 : Int32) (h : ∀ s1 : Rm, s1 = wS σ 83 ((sI σ 83) + 1) → Q (.inl none) s1) : A X b d MX13_hands 30 [(0, vR b), (1, vI x1), (2, vI x2)] [] σ Q := by
  refine A_p (fun T Q _ _ k => V_aload_n (pc2 := 31) (dk D_X13_hands 16 rfl) rfl (V_lg 0 rfl) rfl k) ?_
  refine A_p (fun T Q _ _ k => V_dup (pc2 := 32) (dk D_X13_hands 17 rfl) rfl rfl k) ?_
  refine A_sc (pc2 := 35) 83 (dk D_X13_hands 18 rfl) fl_13_482 (by decide) rfl (fun _ => rfl) rfl ?_
  refine A_p (fun T Q _ _ k => V_iconst (x := 1) (pc2 := 36) (dk D_X13_hands 19 rfl) (by decide) rfl k) ?_
  refine A_p (fun T Q _ _ k => V_iadd (pc2 := 37) (dk D_X13_hands 20 rfl) rfl k) ?_
  refine A_put (pc2 := 40) 83 (dk D_X13_hands 21 rfl) fl_13_482 (by decide) rfl rfl rfl rfl ?_
  have h := h _ rfl
  exact A_ret (fun T Q _ k => V_return (dk D_X13_hands 22 rfl) rfl k) h
theorem a_call_0 {X : Cx} {b d : Nat} {σ : Rm} {Q : Res → Rm → Prop} (x1 : Int32) (h : (vp_in x1 61) ∧ (vp_in x1 61) ∧ (vp_in (aI σ 58 (x1 : Int32).toNatClampNeg) 12) ∧ Q (.inl (some (vI (((60 * (aI σ 58 (x1 : Int32).toNatClampNeg)) + (aI σ 60 ((aI σ 58 (x1 : Int32).toNatClampNeg) : Int32).toNatClampNeg)) - 1)))) σ) : A X b d MX13_call 0 [(0, vR b), (1, vI x1)] [] σ Q := by
  refine A_p (fun T Q _ _ k => V_bipush (x := 60) (pc2 := 2) (dk D_X13_call 0 rfl) (by decide) rfl k) ?_
  refine A_p (fun T Q _ _ k => V_aload_n (pc2 := 3) (dk D_X13_call 1 rfl) rfl (V_lg 0 rfl) rfl k) ?_
  refine A_ar (pc2 := 6) (a := 42) 58 (dk D_X13_call 2 rfl) fl_13_189 (by decide) (by decide) rfl (fun _ => rfl) rfl ?_
  refine A_p (fun T Q _ _ k => V_iload_n (pc2 := 7) (dk D_X13_call 3 rfl) rfl (V_lg 1 rfl) rfl k) ?_
  obtain ⟨h1, h⟩ := h
  refine A_ild (pc2 := 8) 58 (dk D_X13_call 4 rfl) rfl (by decide) rfl (by decide) rfl rfl h1 ?_
  refine A_p (fun T Q _ _ k => V_imul (pc2 := 9) (dk D_X13_call 5 rfl) rfl k) ?_
  refine A_p (fun T Q _ _ k => V_aload_n (pc2 := 10) (dk D_X13_call 6 rfl) rfl (V_lg 0 rfl) rfl k) ?_
  refine A_ar (pc2 := 13) (a := 44) 60 (dk D_X13_call 7 rfl) fl_13_195 (by decide) (by decide) rfl (fun _ => rfl) rfl ?_
  refine A_p (fun T Q _ _ k => V_aload_n (pc2 := 14) (dk D_X13_call 8 rfl) rfl (V_lg 0 rfl) rfl k) ?_
  refine A_ar (pc2 := 17) (a := 42) 58 (dk D_X13_call 9 rfl) fl_13_189 (by decide) (by decide) rfl (fun _ => rfl) rfl ?_
  refine A_p (fun T Q _ _ k => V_iload_n (pc2 := 18) (dk D_X13_call 10 rfl) rfl (V_lg 1 rfl) rfl k) ?_
  obtain ⟨h2, h⟩ := h
  refine A_ild (pc2 := 19) 58 (dk D_X13_call 11 rfl) rfl (by decide) rfl (by decide) rfl rfl h2 ?_
  obtain ⟨h3, h⟩ := h
  refine A_ild (pc2 := 20) 60 (dk D_X13_call 12 rfl) rfl (by decide) rfl (by decide) rfl rfl h3 ?_
  refine A_p (fun T Q _ _ k => V_iadd (pc2 := 21) (dk D_X13_call 13 rfl) rfl k) ?_
  refine A_p (fun T Q _ _ k => V_iconst (x := 1) (pc2 := 22) (dk D_X13_call 14 rfl) (by decide) rfl k) ?_
  refine A_p (fun T Q _ _ k => V_isub (pc2 := 23) (dk D_X13_call 15 rfl) rfl k) ?_
  exact A_ret (fun T Q _ k => V_ireturn (dk D_X13_call 16 rfl) rfl k) h
theorem a_push_0 {X : Cx} {b d : Nat} {σ : Rm} {Q : Res → Rm → Prop} (x1 : Int32) (x2 : Int32) (h : (vp_in x1 61) ∧ (vp_in (aI σ 58 (x1 : Int32).toNatClampNeg) 12) ∧ (vp_in ((10200 * (aI σ 58 (x1 : Int32).toNatClampNeg)) + (aI σ 73 ((aI σ 58 (x1 : Int32).toNatClampNeg) : Int32).toNatClampNeg)) 122400) ∧ ∀ s4 : Rm, s4 = wI σ 74 ((((10200 * (aI σ 58 (x1 : Int32).toNatClampNeg)) + (aI σ 73 ((aI σ 58 (x1 : Int32).toNatClampNeg) : Int32).toNatClampNeg)) : Int32).toNatClampNeg) x2 → (vp_in (aI σ 58 (x1 : Int32).toNatClampNeg) 12) ∧ (vp_in (aI σ 58 (x1 : Int32).toNatClampNeg) 12) ∧ ∀ s7 : Rm, s7 = wI s4 73 (((aI σ 58 (x1 : Int32).toNatClampNeg) : Int32).toNatClampNeg) ((aI s4 73 ((aI σ 58 (x1 : Int32).toNatClampNeg) : Int32).toNatClampNeg) + 1) → Q (.inl none) s7) : A X b d MX13_push 0 [(0, vR b), (1, vI x1), (2, vI x2)] [] σ Q := by
  refine A_p (fun T Q _ _ k => V_aload_n (pc2 := 1) (dk D_X13_push 0 rfl) rfl (V_lg 0 rfl) rfl k) ?_
  refine A_ar (pc2 := 4) (a := 42) 58 (dk D_X13_push 1 rfl) fl_13_189 (by decide) (by decide) rfl (fun _ => rfl) rfl ?_
  refine A_p (fun T Q _ _ k => V_iload_n (pc2 := 5) (dk D_X13_push 2 rfl) rfl (V_lg 1 rfl) rfl k) ?_
  obtain ⟨h1, h⟩ := h
  refine A_ild (pc2 := 6) 58 (dk D_X13_push 3 rfl) rfl (by decide) rfl (by decide) rfl rfl h1 ?_
  refine A_p (fun T Q _ _ k => V_istore_n (pc2 := 7) (lv2 := [(0, _), (1, _), (2, _), (3, _)]) (dk D_X13_push 4 rfl) rfl (by decide) rfl rfl k) ?_
  refine A_p (fun T Q _ _ k => V_aload_n (pc2 := 8) (dk D_X13_push 5 rfl) rfl (V_lg 0 rfl) rfl k) ?_
  refine A_ar (pc2 := 11) (a := 58) 74 (dk D_X13_push 6 rfl) fl_13_238 (by decide) (by decide) rfl (fun _ => rfl) rfl ?_
  refine A_p (fun T Q _ _ k => V_sipush (x := 10200) (pc2 := 14) (dk D_X13_push 7 rfl) (by decide) rfl k) ?_
  refine A_p (fun T Q _ _ k => V_iload_n (pc2 := 15) (dk D_X13_push 8 rfl) rfl (V_lg 3 rfl) rfl k) ?_
  refine A_p (fun T Q _ _ k => V_imul (pc2 := 16) (dk D_X13_push 9 rfl) rfl k) ?_
  refine A_p (fun T Q _ _ k => V_aload_n (pc2 := 17) (dk D_X13_push 10 rfl) rfl (V_lg 0 rfl) rfl k) ?_
  refine A_ar (pc2 := 20) (a := 57) 73 (dk D_X13_push 11 rfl) fl_13_234 (by decide) (by decide) rfl (fun _ => rfl) rfl ?_
  refine A_p (fun T Q _ _ k => V_iload_n (pc2 := 21) (dk D_X13_push 12 rfl) rfl (V_lg 3 rfl) rfl k) ?_
  obtain ⟨h2, h⟩ := h
  refine A_ild (pc2 := 22) 73 (dk D_X13_push 13 rfl) rfl (by decide) rfl (by decide) rfl rfl h2 ?_
  refine A_p (fun T Q _ _ k => V_iadd (pc2 := 23) (dk D_X13_push 14 rfl) rfl k) ?_
  refine A_p (fun T Q _ _ k => V_iload_n (pc2 := 24) (dk D_X13_push 15 rfl) rfl (V_lg 2 rfl) rfl k) ?_
  obtain ⟨h3, h⟩ := h
  refine A_ist (pc2 := 25) 74 (dk D_X13_push 16 rfl) rfl (by decide) rfl (by decide) rfl rfl h3 ?_
  have h := h _ rfl
  refine A_p (fun T Q _ _ k => V_aload_n (pc2 := 26) (dk D_X13_push 17 rfl) rfl (V_lg 0 rfl) rfl k) ?_
  refine A_ar (pc2 := 29) (a := 57) 73 (dk D_X13_push 18 rfl) fl_13_234 (by decide) (by decide) rfl (fun _ => rfl) rfl ?_
  refine A_p (fun T Q _ _ k => V_iload_n (pc2 := 30) (dk D_X13_push 19 rfl) rfl (V_lg 3 rfl) rfl k) ?_
  refine A_p (fun T Q _ _ k => V_dup2 (pc2 := 31) (dk D_X13_push 20 rfl) rfl rfl rfl k) ?_
  obtain ⟨h5, h⟩ := h
  refine A_ild (pc2 := 32) 73 (dk D_X13_push 21 rfl) rfl (by decide) rfl (by decide) rfl rfl h5 ?_
  refine A_p (fun T Q _ _ k => V_iconst (x := 1) (pc2 := 33) (dk D_X13_push 22 rfl) (by decide) rfl k) ?_
  refine A_p (fun T Q _ _ k => V_iadd (pc2 := 34) (dk D_X13_push 23 rfl) rfl k) ?_
  obtain ⟨h6, h⟩ := h
  refine A_ist (pc2 := 35) 73 (dk D_X13_push 24 rfl) rfl (by decide) rfl (by decide) rfl rfl h6 ?_
  have h := h _ rfl
  exact A_ret (fun T Q _ k => V_return (dk D_X13_push 25 rfl) rfl k) h
theorem a_pop_0 {X : Cx} {b d : Nat} {σ : Rm} {Q : Res → Rm → Prop} (x1 : Int32) (h : (vp_in x1 61) ∧ (vp_in (aI σ 58 (x1 : Int32).toNatClampNeg) 12) ∧ (vp_in (aI σ 58 (x1 : Int32).toNatClampNeg) 12) ∧ ∀ s4 : Rm, s4 = wI σ 73 (((aI σ 58 (x1 : Int32).toNatClampNeg) : Int32).toNatClampNeg) ((aI σ 73 ((aI σ 58 (x1 : Int32).toNatClampNeg) : Int32).toNatClampNeg) - 1) → (vp_in (aI σ 58 (x1 : Int32).toNatClampNeg) 12) ∧ (vp_in ((10200 * (aI σ 58 (x1 : Int32).toNatClampNeg)) + (aI s4 73 ((aI σ 58 (x1 : Int32).toNatClampNeg) : Int32).toNatClampNeg)) 122400) ∧ Q (.inl (some (vI (aI s4 74 (((10200 * (aI σ 58 (x1 : Int32).toNatClampNeg)) + (aI s4 73 ((aI σ 58 (x1 : Int32).toNatClampNeg) : Int32).toNatClampNeg)) : Int32).toNatClampNeg)))) s4) : A X b d MX13_pop 0 [(0, vR b), (1, vI x1)] [] σ Q := by
  refine A_p (fun T Q _ _ k => V_aload_n (pc2 := 1) (dk D_X13_pop 0 rfl) rfl (V_lg 0 rfl) rfl k) ?_
  refine A_ar (pc2 := 4) (a := 42) 58 (dk D_X13_pop 1 rfl) fl_13_189 (by decide) (by decide) rfl (fun _ => rfl) rfl ?_
  refine A_p (fun T Q _ _ k => V_iload_n (pc2 := 5) (dk D_X13_pop 2 rfl) rfl (V_lg 1 rfl) rfl k) ?_
  obtain ⟨h1, h⟩ := h
  refine A_ild (pc2 := 6) 58 (dk D_X13_pop 3 rfl) rfl (by decide) rfl (by decide) rfl rfl h1 ?_
  refine A_p (fun T Q _ _ k => V_istore_n (pc2 := 7) (lv2 := [(0, _), (1, _), (2, _)]) (dk D_X13_pop 4 rfl) rfl (by decide) rfl rfl k) ?_
  refine A_p (fun T Q _ _ k => V_aload_n (pc2 := 8) (dk D_X13_pop 5 rfl) rfl (V_lg 0 rfl) rfl k) ?_
  refine A_ar (pc2 := 11) (a := 57) 73 (dk D_X13_pop 6 rfl) fl_13_234 (by decide) (by decide) rfl (fun _ => rfl) rfl ?_
  refine A_p (fun T Q _ _ k => V_iload_n (pc2 := 12) (dk D_X13_pop 7 rfl) rfl (V_lg 2 rfl) rfl k) ?_
  refine A_p (fun T Q _ _ k => V_dup2 (pc2 := 13) (dk D_X13_pop 8 rfl) rfl rfl rfl k) ?_
  obtain ⟨h2, h⟩ := h
  refine A_ild (pc2 := 14) 73 (dk D_X13_pop 9 rfl) rfl (by decide) rfl (by decide) rfl rfl h2 ?_
  refine A_p (fun T Q _ _ k => V_iconst (x := 1) (pc2 := 15) (dk D_X13_pop 10 rfl) (by decide) rfl k) ?_
  refine A_p (fun T Q _ _ k => V_isub (pc2 := 16) (dk D_X13_pop 11 rfl) rfl k) ?_
  obtain ⟨h3, h⟩ := h
  refine A_ist (pc2 := 17) 73 (dk D_X13_pop 12 rfl) rfl (by decide) rfl (by decide) rfl rfl h3 ?_
  have h := h _ rfl
  refine A_p (fun T Q _ _ k => V_aload_n (pc2 := 18) (dk D_X13_pop 13 rfl) rfl (V_lg 0 rfl) rfl k) ?_
  refine A_ar (pc2 := 21) (a := 58) 74 (dk D_X13_pop 14 rfl) fl_13_238 (by decide) (by decide) rfl (fun _ => rfl) rfl ?_
  refine A_p (fun T Q _ _ k => V_sipush (x := 10200) (pc2 := 24) (dk D_X13_pop 15 rfl) (by decide) rfl k) ?_
  refine A_p (fun T Q _ _ k => V_iload_n (pc2 := 25) (dk D_X13_pop 16 rfl) rfl (V_lg 2 rfl) rfl k) ?_
  refine A_p (fun T Q _ _ k => V_imul (pc2 := 26) (dk D_X13_pop 17 rfl) rfl k) ?_
  refine A_p (fun T Q _ _ k => V_aload_n (pc2 := 27) (dk D_X13_pop 18 rfl) rfl (V_lg 0 rfl) rfl k) ?_
  refine A_ar (pc2 := 30) (a := 57) 73 (dk D_X13_pop 19 rfl) fl_13_234 (by decide) (by decide) rfl (fun _ => rfl) rfl ?_
  refine A_p (fun T Q _ _ k => V_iload_n (pc2 := 31) (dk D_X13_pop 20 rfl) rfl (V_lg 2 rfl) rfl k) ?_
  obtain ⟨h5, h⟩ := h
  refine A_ild (pc2 := 32) 73 (dk D_X13_pop 21 rfl) rfl (by decide) rfl (by decide) rfl rfl h5 ?_
  refine A_p (fun T Q _ _ k => V_iadd (pc2 := 33) (dk D_X13_pop 22 rfl) rfl k) ?_
  obtain ⟨h6, h⟩ := h
  refine A_ild (pc2 := 34) 74 (dk D_X13_pop 23 rfl) rfl (by decide) rfl (by decide) rfl rfl h6 ?_
  exact A_ret (fun T Q _ k => V_ireturn (dk D_X13_pop 24 rfl) rfl k) h
theorem a_enter_0 {X : Cx} {b d : Nat} {σ : Rm} {Q : Res → Rm → Prop} (x1 : Int32) (x2 : Int32) (x3 : Int32) (h : (vp_in x1 61) ∧ (vp_in (aI σ 58 (x1 : Int32).toNatClampNeg) 12) ∧ (vp_in (aI σ 58 (x1 : Int32).toNatClampNeg) 12) ∧ (vp_in (aI σ 58 (x1 : Int32).toNatClampNeg) 12) ∧ ∀ s5 : Rm, s5 = wI σ 60 (((aI σ 58 (x1 : Int32).toNatClampNeg) : Int32).toNatClampNeg) ((aI σ 60 ((aI σ 58 (x1 : Int32).toNatClampNeg) : Int32).toNatClampNeg) + 1) → A X b d MX13_enter 37 [(0, vR b), (1, vI x1), (2, vI x2), (3, vI x3), (4, vI (aI σ 58 (x1 : Int32).toNatClampNeg)), (5, vI ((60 * (aI σ 58 (x1 : Int32).toNatClampNeg)) + (aI σ 60 ((aI σ 58 (x1 : Int32).toNatClampNeg) : Int32).toNatClampNeg))), (6, vI 0)] [] s5 Q) : A X b d MX13_enter 0 [(0, vR b), (1, vI x1), (2, vI x2), (3, vI x3)] [] σ Q := by
  refine A_p (fun T Q _ _ k => V_aload_n (pc2 := 1) (dk D_X13_enter 0 rfl) rfl (V_lg 0 rfl) rfl k) ?_
  refine A_ar (pc2 := 4) (a := 42) 58 (dk D_X13_enter 1 rfl) fl_13_189 (by decide) (by decide) rfl (fun _ => rfl) rfl ?_
  refine A_p (fun T Q _ _ k => V_iload_n (pc2 := 5) (dk D_X13_enter 2 rfl) rfl (V_lg 1 rfl) rfl k) ?_
  obtain ⟨h1, h⟩ := h
  refine A_ild (pc2 := 6) 58 (dk D_X13_enter 3 rfl) rfl (by decide) rfl (by decide) rfl rfl h1 ?_
  refine A_p (fun T Q _ _ k => V_istore (pc2 := 8) (lv2 := [(0, _), (1, _), (2, _), (3, _), (4, _)]) (dk D_X13_enter 4 rfl) (by decide) rfl rfl k) ?_
  refine A_p (fun T Q _ _ k => V_bipush (x := 60) (pc2 := 10) (dk D_X13_enter 5 rfl) (by decide) rfl k) ?_
  refine A_p (fun T Q _ _ k => V_iload (pc2 := 12) (dk D_X13_enter 6 rfl) (V_lg 4 rfl) rfl k) ?_
  refine A_p (fun T Q _ _ k => V_imul (pc2 := 13) (dk D_X13_enter 7 rfl) rfl k) ?_
  refine A_p (fun T Q _ _ k => V_aload_n (pc2 := 14) (dk D_X13_enter 8 rfl) rfl (V_lg 0 rfl) rfl k) ?_
  refine A_ar (pc2 := 17) (a := 44) 60 (dk D_X13_enter 9 rfl) fl_13_195 (by decide) (by decide) rfl (fun _ => rfl) rfl ?_
  refine A_p (fun T Q _ _ k => V_iload (pc2 := 19) (dk D_X13_enter 10 rfl) (V_lg 4 rfl) rfl k) ?_
  obtain ⟨h2, h⟩ := h
  refine A_ild (pc2 := 20) 60 (dk D_X13_enter 11 rfl) rfl (by decide) rfl (by decide) rfl rfl h2 ?_
  refine A_p (fun T Q _ _ k => V_iadd (pc2 := 21) (dk D_X13_enter 12 rfl) rfl k) ?_
  refine A_p (fun T Q _ _ k => V_istore (pc2 := 23) (lv2 := [(0, _), (1, _), (2, _), (3, _), (4, _), (5, _)]) (dk D_X13_enter 13 rfl) (by decide) rfl rfl k) ?_
  refine A_p (fun T Q _ _ k => V_aload_n (pc2 := 24) (dk D_X13_enter 14 rfl) rfl (V_lg 0 rfl) rfl k) ?_
  refine A_ar (pc2 := 27) (a := 44) 60 (dk D_X13_enter 15 rfl) fl_13_195 (by decide) (by decide) rfl (fun _ => rfl) rfl ?_
  refine A_p (fun T Q _ _ k => V_iload (pc2 := 29) (dk D_X13_enter 16 rfl) (V_lg 4 rfl) rfl k) ?_
  refine A_p (fun T Q _ _ k => V_dup2 (pc2 := 30) (dk D_X13_enter 17 rfl) rfl rfl rfl k) ?_
  obtain ⟨h3, h⟩ := h
  refine A_ild (pc2 := 31) 60 (dk D_X13_enter 18 rfl) rfl (by decide) rfl (by decide) rfl rfl h3 ?_
  refine A_p (fun T Q _ _ k => V_iconst (x := 1) (pc2 := 32) (dk D_X13_enter 19 rfl) (by decide) rfl k) ?_
  refine A_p (fun T Q _ _ k => V_iadd (pc2 := 33) (dk D_X13_enter 20 rfl) rfl k) ?_
  obtain ⟨h4, h⟩ := h
  refine A_ist (pc2 := 34) 60 (dk D_X13_enter 21 rfl) rfl (by decide) rfl (by decide) rfl rfl h4 ?_
  have h := h _ rfl
  refine A_p (fun T Q _ _ k => V_iconst (x := 0) (pc2 := 35) (dk D_X13_enter 22 rfl) (by decide) rfl k) ?_
  refine A_p (fun T Q _ _ k => V_istore (pc2 := 37) (lv2 := [(0, _), (1, _), (2, _), (3, _), (4, _), (5, _), (6, _)]) (dk D_X13_enter 23 rfl) (by decide) rfl rfl k) ?_
  exact h
theorem a_enter_37 {X : Cx} {b d : Nat} {σ : Rm} {Q : Res → Rm → Prop} (x1 : Int32) (x2 : Int32) (x3 : Int32) (x4 : Int32) (x5 : Int32) (x6 : Int32) (h : ((40 ≤ x6 → A X b d MX13_enter 69 [(0, vR b), (1, vI x1), (2, vI x2), (3, vI x3), (4, vI x4), (5, vI x5), (6, vI (x3 - 1))] [] σ Q) ∧ (¬ 40 ≤ x6 → (vp_in ((40 * x5) + x6) 28800) ∧ ∀ s3 : Rm, s3 = wI σ 66 ((((40 * x5) + x6) : Int32).toNatClampNeg) 0 → A X b d MX13_enter 37 [(0, vR b), (1, vI x1), (2, vI x2), (3, vI x3), (4, vI x4), (5, vI x5), (6, vI (x6 + 1))] [] s3 Q))) : A X b d MX13_enter 37 [(0, vR b), (1, vI x1), (2, vI x2), (3, vI x3), (4, vI x4), (5, vI x5), (6, vI x6)] [] σ Q := by
  refine A_p (fun T Q _ _ k => V_iload (pc2 := 39) (dk D_X13_enter 24 rfl) (V_lg 6 rfl) rfl k) ?_
  refine A_p (fun T Q _ _ k => V_bipush (x := 40) (pc2 := 41) (dk D_X13_enter 25 rfl) (by decide) rfl k) ?_
  refine A_if (pa := 64) (pb := 44) (fun T Q k1 k2 => V_cmpge (tgt := 64) (pc2 := 44) (dk D_X13_enter 26 rfl) (by decide) rfl (fun q => k1 q) (fun q => k2 q)) (fun q1 => ?_) (fun q1 => ?_)
  · have h := h.1 q1
    refine A_p (fun T Q _ _ k => V_iload_n (pc2 := 65) (dk D_X13_enter 38 rfl) rfl (V_lg 3 rfl) rfl k) ?_
    refine A_p (fun T Q _ _ k => V_iconst (x := 1) (pc2 := 66) (dk D_X13_enter 39 rfl) (by decide) rfl k) ?_
    refine A_p (fun T Q _ _ k => V_isub (pc2 := 67) (dk D_X13_enter 40 rfl) rfl k) ?_
    refine A_p (fun T Q _ _ k => V_istore (pc2 := 69) (lv2 := [(0, _), (1, _), (2, _), (3, _), (4, _), (5, _), (6, _)]) (dk D_X13_enter 41 rfl) (by decide) rfl rfl k) ?_
    exact h
  · have h := h.2 q1
    refine A_p (fun T Q _ _ k => V_aload_n (pc2 := 45) (dk D_X13_enter 27 rfl) rfl (V_lg 0 rfl) rfl k) ?_
    refine A_ar (pc2 := 48) (a := 50) 66 (dk D_X13_enter 28 rfl) fl_13_213 (by decide) (by decide) rfl (fun _ => rfl) rfl ?_
    refine A_p (fun T Q _ _ k => V_bipush (x := 40) (pc2 := 50) (dk D_X13_enter 29 rfl) (by decide) rfl k) ?_
    refine A_p (fun T Q _ _ k => V_iload (pc2 := 52) (dk D_X13_enter 30 rfl) (V_lg 5 rfl) rfl k) ?_
    refine A_p (fun T Q _ _ k => V_imul (pc2 := 53) (dk D_X13_enter 31 rfl) rfl k) ?_
    refine A_p (fun T Q _ _ k => V_iload (pc2 := 55) (dk D_X13_enter 32 rfl) (V_lg 6 rfl) rfl k) ?_
    refine A_p (fun T Q _ _ k => V_iadd (pc2 := 56) (dk D_X13_enter 33 rfl) rfl k) ?_
    refine A_p (fun T Q _ _ k => V_iconst (x := 0) (pc2 := 57) (dk D_X13_enter 34 rfl) (by decide) rfl k) ?_
    obtain ⟨h2, h⟩ := h
    refine A_ist (pc2 := 58) 66 (dk D_X13_enter 35 rfl) rfl (by decide) rfl (by decide) rfl rfl h2 ?_
    have h := h _ rfl
    refine A_p (fun T Q _ _ k => V_iinc (y := _ + 1) (pc2 := 61) (lv2 := [(0, _), (1, _), (2, _), (3, _), (4, _), (5, _), (6, _)]) (dk D_X13_enter 36 rfl) (V_lg 6 rfl) rfl (by decide) rfl rfl k) ?_
    refine A_p (fun T Q _ _ k => V_goto (tgt := 37) (dk D_X13_enter 37 rfl) (by decide) k) ?_
    exact h
theorem a_enter_69 {X : Cx} {b d : Nat} {σ : Rm} {Q : Res → Rm → Prop} (x1 : Int32) (x2 : Int32) (x3 : Int32) (x4 : Int32) (x5 : Int32) (x6 : Int32) (h : ((x6 < 0 → (vp_in x5 720) ∧ ∀ s3 : Rm, s3 = wI σ 61 ((x5 : Int32).toNatClampNeg) x2 → (vp_in x2 12) ∧ (vp_in x5 720) ∧ ∀ s6 : Rm, s6 = wI s3 62 ((x5 : Int32).toNatClampNeg) (aI s3 23 (x2 : Int32).toNatClampNeg) → (vp_in x5 720) ∧ ∀ s8 : Rm, s8 = wI s6 63 ((x5 : Int32).toNatClampNeg) (-9) → (vp_in x4 12) ∧ (vp_in x5 720) ∧ ∀ s11 : Rm, s11 = wI s8 64 ((x5 : Int32).toNatClampNeg) (aI s8 68 (x4 : Int32).toNatClampNeg) → (vp_in x4 12) ∧ (vp_in x5 720) ∧ ∀ s14 : Rm, s14 = wI s11 65 ((x5 : Int32).toNatClampNeg) (aI s11 73 (x4 : Int32).toNatClampNeg) → Q (.inl none) s14) ∧ (¬ x6 < 0 → ∃ e15 : Nat, e15 + 1 ≤ d ∧ AC X b e15 MX13_pop [vR b, vI x1] σ (aRI fun y18 s19 => (vp_in ((40 * x5) + x6) 28800) ∧ ∀ s21 : Rm, s21 = wI s19 66 ((((40 * x5) + x6) : Int32).toNatClampNeg) y18 → A X b d MX13_enter 69 [(0, vR b), (1, vI x1), (2, vI x2), (3, vI x3), (4, vI x4), (5, vI x5), (6, vI (x6 + (-1)))] [] s21 Q)))) : A X b d MX13_enter 69 [(0, vR b), (1, vI x1), (2, vI x2), (3, vI x3), (4, vI x4), (5, vI x5), (6, vI x6)] [] σ Q := by
  refine A_p (fun T Q _ _ k => V_iload (pc2 := 71) (dk D_X13_enter 42 rfl) (V_lg 6 rfl) rfl k) ?_
  refine A_if (pa := 98) (pb := 74) (fun T Q k1 k2 => V_iflt (tgt := 98) (pc2 := 74) (dk D_X13_enter 43 rfl) (by decide) rfl (fun q => k1 q) (fun q => k2 q)) (fun q1 => ?_) (fun q1 => ?_)
  · have h := h.1 q1
    refine A_p (fun T Q _ _ k => V_aload_n (pc2 := 99) (dk D_X13_enter 57 rfl) rfl (V_lg 0 rfl) rfl k) ?_
    refine A_ar (pc2 := 102) (a := 45) 61 (dk D_X13_enter 58 rfl) fl_13_198 (by decide) (by decide) rfl (fun _ => rfl) rfl ?_
    refine A_p (fun T Q _ _ k => V_iload (pc2 := 104) (dk D_X13_enter 59 rfl) (V_lg 5 rfl) rfl k) ?_
    refine A_p (fun T Q _ _ k => V_iload_n (pc2 := 105) (dk D_X13_enter 60 rfl) rfl (V_lg 2 rfl) rfl k) ?_
    obtain ⟨h2, h⟩ := h
    refine A_ist (pc2 := 106) 61 (dk D_X13_enter 61 rfl) rfl (by decide) rfl (by decide) rfl rfl h2 ?_
    have h := h _ rfl
    refine A_p (fun T Q _ _ k => V_aload_n (pc2 := 107) (dk D_X13_enter 62 rfl) rfl (V_lg 0 rfl) rfl k) ?_
    refine A_ar (pc2 := 110) (a := 46) 62 (dk D_X13_enter 63 rfl) fl_13_201 (by decide) (by decide) rfl (fun _ => rfl) rfl ?_
    refine A_p (fun T Q _ _ k => V_iload (pc2 := 112) (dk D_X13_enter 64 rfl) (V_lg 5 rfl) rfl k) ?_
    refine A_p (fun T Q _ _ k => V_aload_n (pc2 := 113) (dk D_X13_enter 65 rfl) rfl (V_lg 0 rfl) rfl k) ?_
    refine A_ar (pc2 := 116) (a := 18) 23 (dk D_X13_enter 66 rfl) fl_13_116 (by decide) (by decide) rfl (fun _ => rfl) rfl ?_
    refine A_p (fun T Q _ _ k => V_iload_n (pc2 := 117) (dk D_X13_enter 67 rfl) rfl (V_lg 2 rfl) rfl k) ?_
    obtain ⟨h4, h⟩ := h
    refine A_ild (pc2 := 118) 23 (dk D_X13_enter 68 rfl) rfl (by decide) rfl (by decide) rfl rfl h4 ?_
    obtain ⟨h5, h⟩ := h
    refine A_ist (pc2 := 119) 62 (dk D_X13_enter 69 rfl) rfl (by decide) rfl (by decide) rfl rfl h5 ?_
    have h := h _ rfl
    refine A_p (fun T Q _ _ k => V_aload_n (pc2 := 120) (dk D_X13_enter 70 rfl) rfl (V_lg 0 rfl) rfl k) ?_
    refine A_ar (pc2 := 123) (a := 47) 63 (dk D_X13_enter 71 rfl) fl_13_204 (by decide) (by decide) rfl (fun _ => rfl) rfl ?_
    refine A_p (fun T Q _ _ k => V_iload (pc2 := 125) (dk D_X13_enter 72 rfl) (V_lg 5 rfl) rfl k) ?_
    refine A_p (fun T Q _ _ k => V_bipush (x := (-9)) (pc2 := 127) (dk D_X13_enter 73 rfl) (by decide) rfl k) ?_
    obtain ⟨h7, h⟩ := h
    refine A_ist (pc2 := 128) 63 (dk D_X13_enter 74 rfl) rfl (by decide) rfl (by decide) rfl rfl h7 ?_
    have h := h _ rfl
    refine A_p (fun T Q _ _ k => V_aload_n (pc2 := 129) (dk D_X13_enter 75 rfl) rfl (V_lg 0 rfl) rfl k) ?_
    refine A_ar (pc2 := 132) (a := 48) 64 (dk D_X13_enter 76 rfl) fl_13_207 (by decide) (by decide) rfl (fun _ => rfl) rfl ?_
    refine A_p (fun T Q _ _ k => V_iload (pc2 := 134) (dk D_X13_enter 77 rfl) (V_lg 5 rfl) rfl k) ?_
    refine A_p (fun T Q _ _ k => V_aload_n (pc2 := 135) (dk D_X13_enter 78 rfl) rfl (V_lg 0 rfl) rfl k) ?_
    refine A_ar (pc2 := 138) (a := 52) 68 (dk D_X13_enter 79 rfl) fl_13_219 (by decide) (by decide) rfl (fun _ => rfl) rfl ?_
    refine A_p (fun T Q _ _ k => V_iload (pc2 := 140) (dk D_X13_enter 80 rfl) (V_lg 4 rfl) rfl k) ?_
    obtain ⟨h9, h⟩ := h
    refine A_ild (pc2 := 141) 68 (dk D_X13_enter 81 rfl) rfl (by decide) rfl (by decide) rfl rfl h9 ?_
    obtain ⟨h10, h⟩ := h
    refine A_ist (pc2 := 142) 64 (dk D_X13_enter 82 rfl) rfl (by decide) rfl (by decide) rfl rfl h10 ?_
    have h := h _ rfl
    refine A_p (fun T Q _ _ k => V_aload_n (pc2 := 143) (dk D_X13_enter 83 rfl) rfl (V_lg 0 rfl) rfl k) ?_
    refine A_ar (pc2 := 146) (a := 49) 65 (dk D_X13_enter 84 rfl) fl_13_210 (by decide) (by decide) rfl (fun _ => rfl) rfl ?_
    refine A_p (fun T Q _ _ k => V_iload (pc2 := 148) (dk D_X13_enter 85 rfl) (V_lg 5 rfl) rfl k) ?_
    refine A_p (fun T Q _ _ k => V_aload_n (pc2 := 149) (dk D_X13_enter 86 rfl) rfl (V_lg 0 rfl) rfl k) ?_
    refine A_ar (pc2 := 152) (a := 57) 73 (dk D_X13_enter 87 rfl) fl_13_234 (by decide) (by decide) rfl (fun _ => rfl) rfl ?_
    refine A_p (fun T Q _ _ k => V_iload (pc2 := 154) (dk D_X13_enter 88 rfl) (V_lg 4 rfl) rfl k) ?_
    obtain ⟨h12, h⟩ := h
    refine A_ild (pc2 := 155) 73 (dk D_X13_enter 89 rfl) rfl (by decide) rfl (by decide) rfl rfl h12 ?_
    obtain ⟨h13, h⟩ := h
    refine A_ist (pc2 := 156) 65 (dk D_X13_enter 90 rfl) rfl (by decide) rfl (by decide) rfl rfl h13 ?_
    have h := h _ rfl
    exact A_ret (fun T Q _ k => V_return (dk D_X13_enter 91 rfl) rfl k) h
  · have h := h.2 q1
    refine A_p (fun T Q _ _ k => V_aload_n (pc2 := 75) (dk D_X13_enter 44 rfl) rfl (V_lg 0 rfl) rfl k) ?_
    refine A_ar (pc2 := 78) (a := 50) 66 (dk D_X13_enter 45 rfl) fl_13_213 (by decide) (by decide) rfl (fun _ => rfl) rfl ?_
    refine A_p (fun T Q _ _ k => V_bipush (x := 40) (pc2 := 80) (dk D_X13_enter 46 rfl) (by decide) rfl k) ?_
    refine A_p (fun T Q _ _ k => V_iload (pc2 := 82) (dk D_X13_enter 47 rfl) (V_lg 5 rfl) rfl k) ?_
    refine A_p (fun T Q _ _ k => V_imul (pc2 := 83) (dk D_X13_enter 48 rfl) rfl k) ?_
    refine A_p (fun T Q _ _ k => V_iload (pc2 := 85) (dk D_X13_enter 49 rfl) (V_lg 6 rfl) rfl k) ?_
    refine A_p (fun T Q _ _ k => V_iadd (pc2 := 86) (dk D_X13_enter 50 rfl) rfl k) ?_
    refine A_p (fun T Q _ _ k => V_aload_n (pc2 := 87) (dk D_X13_enter 51 rfl) rfl (V_lg 0 rfl) rfl k) ?_
    refine A_p (fun T Q _ _ k => V_iload_n (pc2 := 88) (dk D_X13_enter 52 rfl) rfl (V_lg 1 rfl) rfl k) ?_
    obtain ⟨e15, he16, hc17⟩ := h
    refine A_call (st := [_, _]) (pc2 := 91) (fun T Q Qc L hc k => V_callV (as := [_]) (st := [_, _]) (M' := MX13_pop) (ci := 13) (pc2 := 91) (dk D_X13_enter 53 rfl) ml_13_494 mv_X13_pop rfl rfl (by decide) rfl (Nat.le_of_ble_eq_true rfl) rfl he16 L.2.1 hc k) hc17 (aRI.k fun y18 s19 h => ?_)
    obtain ⟨h20, h⟩ := h
    refine A_ist (pc2 := 92) 66 (dk D_X13_enter 54 rfl) rfl (by decide) rfl (by decide) rfl rfl h20 ?_
    have h := h _ rfl
    refine A_p (fun T Q _ _ k => V_iinc (y := _ + (-1)) (pc2 := 95) (lv2 := [(0, _), (1, _), (2, _), (3, _), (4, _), (5, _), (6, _)]) (dk D_X13_enter 55 rfl) (V_lg 6 rfl) rfl (by decide) rfl rfl k) ?_
    refine A_p (fun T Q _ _ k => V_goto (tgt := 69) (dk D_X13_enter 56 rfl) (by decide) k) ?_
    exact h
theorem a_start_0 {X : Cx} {b d : Nat} {σ : Rm} {Q : Res → Rm → Prop} (x1 : Int32) (h : A X b d MX13_start 2 [(0, vR b), (1, vI x1), (2, vI 0)] [] σ Q) : A X b d MX13_start 0 [(0, vR b), (1, vI x1)] [] σ Q := by
  refine A_p (fun T Q _ _ k => V_iconst (x := 0) (pc2 := 1) (dk D_X13_start 0 rfl) (by decide) rfl k) ?_
  refine A_p (fun T Q _ _ k => V_istore_n (pc2 := 2) (lv2 := [(0, _), (1, _), (2, _)]) (dk D_X13_start 1 rfl) rfl (by decide) rfl rfl k) ?_
  exact h
theorem a_start_2 {X : Cx} {b d : Nat} {σ : Rm} {Q : Res → Rm → Prop} (x1 : Int32) (x2 : Int32) (h : (vp_in x2 12) ∧ (((aI σ 59 (x2 : Int32).toNatClampNeg) = 0 → (vp_in x2 12) ∧ ∀ s4 : Rm, s4 = wI σ 59 ((x2 : Int32).toNatClampNeg) 1 → (vp_in x1 61) ∧ ∀ s6 : Rm, s6 = wI s4 58 ((x1 : Int32).toNatClampNeg) x2 → (vp_in x2 12) ∧ ∀ s8 : Rm, s8 = wI s6 60 ((x2 : Int32).toNatClampNeg) 0 → (vp_in x2 12) ∧ ∀ s10 : Rm, s10 = wI s8 68 ((x2 : Int32).toNatClampNeg) 0 → (vp_in x2 12) ∧ ∀ s12 : Rm, s12 = wI s10 73 ((x2 : Int32).toNatClampNeg) 0 → (vp_in x1 61) ∧ (vp_in (aI s12 50 (x1 : Int32).toNatClampNeg) 12) ∧ (((aI s12 20 ((aI s12 50 (x1 : Int32).toNatClampNeg) : Int32).toNatClampNeg) ≤ 0 → A X b d MX13_start 77 [(0, vR b), (1, vI x1), (2, vI x2)] [] s12 Q) ∧ (¬ (aI s12 20 ((aI s12 50 (x1 : Int32).toNatClampNeg) : Int32).toNatClampNeg) ≤ 0 → (vp_in x1 61) ∧ ∃ e17 : Nat, e17 + 1 ≤ d ∧ AC X b e17 MX13_push [vR b, vI x1, vI (aI s12 51 (x1 : Int32).toNatClampNeg)] s12 (aRV fun  s20 => A X b d MX13_start 77 [(0, vR b), (1, vI x1), (2, vI x2)] [] s20 Q)))) ∧ (¬ (aI σ 59 (x2 : Int32).toNatClampNeg) = 0 → A X b d MX13_start 2 [(0, vR b), (1, vI x1), (2, vI (x2 + 1))] [] σ Q))) : A X b d MX13_start 2 [(0, vR b), (1, vI x1), (2, vI x2)] [] σ Q := by
  refine A_p (fun T Q _ _ k => V_aload_n (pc2 := 3) (dk D_X13_start 2 rfl) rfl (V_lg 0 rfl) rfl k) ?_
  refine A_ar (pc2 := 6) (a := 43) 59 (dk D_X13_start 3 rfl) fl_13_192 (by decide) (by decide) rfl (fun _ => rfl) rfl ?_
  refine A_p (fun T Q _ _ k => V_iload_n (pc2 := 7) (dk D_X13_start 4 rfl) rfl (V_lg 2 rfl) rfl k) ?_
  obtain ⟨h1, h⟩ := h
  refine A_zld (pc2 := 8) 59 (dk D_X13_start 5 rfl) rfl (by decide) rfl (by decide) rfl rfl h1 ?_
  refine A_if (pa := 17) (pb := 11) (fun T Q k1 k2 => V_ifeq (tgt := 17) (pc2 := 11) (dk D_X13_start 6 rfl) (by decide) rfl (fun q => k1 q) (fun q => k2 q)) (fun q2 => ?_) (fun q2 => ?_)
  · have h := h.1 q2
    refine A_p (fun T Q _ _ k => V_aload_n (pc2 := 18) (dk D_X13_start 9 rfl) rfl (V_lg 0 rfl) rfl k) ?_
    refine A_ar (pc2 := 21) (a := 43) 59 (dk D_X13_start 10 rfl) fl_13_192 (by decide) (by decide) rfl (fun _ => rfl) rfl ?_
    refine A_p (fun T Q _ _ k => V_iload_n (pc2 := 22) (dk D_X13_start 11 rfl) rfl (V_lg 2 rfl) rfl k) ?_
    refine A_p (fun T Q _ _ k => V_iconst (x := 1) (pc2 := 23) (dk D_X13_start 12 rfl) (by decide) rfl k) ?_
    obtain ⟨h3, h⟩ := h
    refine A_zst (pc2 := 24) 59 (dk D_X13_start 13 rfl) rfl (by decide) rfl (by decide) rfl rfl h3 (Or.inr rfl) ?_
    have h := h _ rfl
    refine A_p (fun T Q _ _ k => V_aload_n (pc2 := 25) (dk D_X13_start 14 rfl) rfl (V_lg 0 rfl) rfl k) ?_
    refine A_ar (pc2 := 28) (a := 42) 58 (dk D_X13_start 15 rfl) fl_13_189 (by decide) (by decide) rfl (fun _ => rfl) rfl ?_
    refine A_p (fun T Q _ _ k => V_iload_n (pc2 := 29) (dk D_X13_start 16 rfl) rfl (V_lg 1 rfl) rfl k) ?_
    refine A_p (fun T Q _ _ k => V_iload_n (pc2 := 30) (dk D_X13_start 17 rfl) rfl (V_lg 2 rfl) rfl k) ?_
    obtain ⟨h5, h⟩ := h
    refine A_ist (pc2 := 31) 58 (dk D_X13_start 18 rfl) rfl (by decide) rfl (by decide) rfl rfl h5 ?_
    have h := h _ rfl
    refine A_p (fun T Q _ _ k => V_aload_n (pc2 := 32) (dk D_X13_start 19 rfl) rfl (V_lg 0 rfl) rfl k) ?_
    refine A_ar (pc2 := 35) (a := 44) 60 (dk D_X13_start 20 rfl) fl_13_195 (by decide) (by decide) rfl (fun _ => rfl) rfl ?_
    refine A_p (fun T Q _ _ k => V_iload_n (pc2 := 36) (dk D_X13_start 21 rfl) rfl (V_lg 2 rfl) rfl k) ?_
    refine A_p (fun T Q _ _ k => V_iconst (x := 0) (pc2 := 37) (dk D_X13_start 22 rfl) (by decide) rfl k) ?_
    obtain ⟨h7, h⟩ := h
    refine A_ist (pc2 := 38) 60 (dk D_X13_start 23 rfl) rfl (by decide) rfl (by decide) rfl rfl h7 ?_
    have h := h _ rfl
    refine A_p (fun T Q _ _ k => V_aload_n (pc2 := 39) (dk D_X13_start 24 rfl) rfl (V_lg 0 rfl) rfl k) ?_
    refine A_ar (pc2 := 42) (a := 52) 68 (dk D_X13_start 25 rfl) fl_13_219 (by decide) (by decide) rfl (fun _ => rfl) rfl ?_
    refine A_p (fun T Q _ _ k => V_iload_n (pc2 := 43) (dk D_X13_start 26 rfl) rfl (V_lg 2 rfl) rfl k) ?_
    refine A_p (fun T Q _ _ k => V_iconst (x := 0) (pc2 := 44) (dk D_X13_start 27 rfl) (by decide) rfl k) ?_
    obtain ⟨h9, h⟩ := h
    refine A_ist (pc2 := 45) 68 (dk D_X13_start 28 rfl) rfl (by decide) rfl (by decide) rfl rfl h9 ?_
    have h := h _ rfl
    refine A_p (fun T Q _ _ k => V_aload_n (pc2 := 46) (dk D_X13_start 29 rfl) rfl (V_lg 0 rfl) rfl k) ?_
    refine A_ar (pc2 := 49) (a := 57) 73 (dk D_X13_start 30 rfl) fl_13_234 (by decide) (by decide) rfl (fun _ => rfl) rfl ?_
    refine A_p (fun T Q _ _ k => V_iload_n (pc2 := 50) (dk D_X13_start 31 rfl) rfl (V_lg 2 rfl) rfl k) ?_
    refine A_p (fun T Q _ _ k => V_iconst (x := 0) (pc2 := 51) (dk D_X13_start 32 rfl) (by decide) rfl k) ?_
    obtain ⟨h11, h⟩ := h
    refine A_ist (pc2 := 52) 73 (dk D_X13_start 33 rfl) rfl (by decide) rfl (by decide) rfl rfl h11 ?_
    have h := h _ rfl
    refine A_p (fun T Q _ _ k => V_aload_n (pc2 := 53) (dk D_X13_start 34 rfl) rfl (V_lg 0 rfl) rfl k) ?_
    refine A_ar (pc2 := 56) (a := 15) 20 (dk D_X13_start 35 rfl) fl_13_107 (by decide) (by decide) rfl (fun _ => rfl) rfl ?_
    refine A_p (fun T Q _ _ k => V_aload_n (pc2 := 57) (dk D_X13_start 36 rfl) rfl (V_lg 0 rfl) rfl k) ?_
    refine A_ar (pc2 := 60) (a := 34) 50 (dk D_X13_start 37 rfl) fl_13_164 (by decide) (by decide) rfl (fun _ => rfl) rfl ?_
    refine A_p (fun T Q _ _ k => V_iload_n (pc2 := 61) (dk D_X13_start 38 rfl) rfl (V_lg 1 rfl) rfl k) ?_
    obtain ⟨h13, h⟩ := h
    refine A_ild (pc2 := 62) 50 (dk D_X13_start 39 rfl) rfl (by decide) rfl (by decide) rfl rfl h13 ?_
    obtain ⟨h14, h⟩ := h
    refine A_ild (pc2 := 63) 20 (dk D_X13_start 40 rfl) rfl (by decide) rfl (by decide) rfl rfl h14 ?_
    refine A_if (pa := 77) (pb := 66) (fun T Q k1 k2 => V_ifle (tgt := 77) (pc2 := 66) (dk D_X13_start 41 rfl) (by decide) rfl (fun q => k1 q) (fun q => k2 q)) (fun q15 => ?_) (fun q15 => ?_)
    · have h := h.1 q15
      exact h
    · have h := h.2 q15
      refine A_p (fun T Q _ _ k => V_aload_n (pc2 := 67) (dk D_X13_start 42 rfl) rfl (V_lg 0 rfl) rfl k) ?_
      refine A_p (fun T Q _ _ k => V_iload_n (pc2 := 68) (dk D_X13_start 43 rfl) rfl (V_lg 1 rfl) rfl k) ?_
      refine A_p (fun T Q _ _ k => V_aload_n (pc2 := 69) (dk D_X13_start 44 rfl) rfl (V_lg 0 rfl) rfl k) ?_
      refine A_ar (pc2 := 72) (a := 35) 51 (dk D_X13_start 45 rfl) fl_13_167 (by decide) (by decide) rfl (fun _ => rfl) rfl ?_
      refine A_p (fun T Q _ _ k => V_iload_n (pc2 := 73) (dk D_X13_start 46 rfl) rfl (V_lg 1 rfl) rfl k) ?_
      obtain ⟨h16, h⟩ := h
      refine A_ild (pc2 := 74) 51 (dk D_X13_start 47 rfl) rfl (by decide) rfl (by decide) rfl rfl h16 ?_
      obtain ⟨e17, he18, hc19⟩ := h
      refine A_call (st := []) (pc2 := 77) (fun T Q Qc L hc k => V_callV (as := [_, _]) (st := []) (M' := MX13_push) (ci := 13) (pc2 := 77) (dk D_X13_start 48 rfl) ml_13_497 mv_X13_push rfl rfl (by decide) rfl (Nat.le_of_ble_eq_true rfl) rfl he18 L.2.1 hc k) hc19 (aRV.k fun  s20 h => ?_)
      exact h
  · have h := h.2 q2
    refine A_p (fun T Q _ _ k => V_iinc (y := _ + 1) (pc2 := 14) (lv2 := [(0, _), (1, _), (2, _)]) (dk D_X13_start 7 rfl) (V_lg 2 rfl) rfl (by decide) rfl rfl k) ?_
    refine A_p (fun T Q _ _ k => V_goto (tgt := 2) (dk D_X13_start 8 rfl) (by decide) k) ?_
    exact h
theorem a_start_77 {X : Cx} {b d : Nat} {σ : Rm} {Q : Res → Rm → Prop} (x1 : Int32) (x2 : Int32) (h : (vp_in x1 61) ∧ (vp_in x1 61) ∧ (vp_in (aI σ 50 (x1 : Int32).toNatClampNeg) 12) ∧ ∃ e4 : Nat, e4 + 1 ≤ d ∧ AC X b e4 MX13_enter [vR b, vI x1, vI (aI σ 50 (x1 : Int32).toNatClampNeg), vI (aI σ 20 ((aI σ 50 (x1 : Int32).toNatClampNeg) : Int32).toNatClampNeg)] σ (aRV fun  s7 => Q (.inl none) s7)) : A X b d MX13_start 77 [(0, vR b), (1, vI x1), (2, vI x2)] [] σ Q := by
  refine A_p (fun T Q _ _ k => V_aload_n (pc2 := 78) (dk D_X13_start 49 rfl) rfl (V_lg 0 rfl) rfl k) ?_
  refine A_p (fun T Q _ _ k => V_iload_n (pc2 := 79) (dk D_X13_start 50 rfl) rfl (V_lg 1 rfl) rfl k) ?_
  refine A_p (fun T Q _ _ k => V_aload_n (pc2 := 80) (dk D_X13_start 51 rfl) rfl (V_lg 0 rfl) rfl k) ?_
  refine A_ar (pc2 := 83) (a := 34) 50 (dk D_X13_start 52 rfl) fl_13_164 (by decide) (by decide) rfl (fun _ => rfl) rfl ?_
  refine A_p (fun T Q _ _ k => V_iload_n (pc2 := 84) (dk D_X13_start 53 rfl) rfl (V_lg 1 rfl) rfl k) ?_
  obtain ⟨h1, h⟩ := h
  refine A_ild (pc2 := 85) 50 (dk D_X13_start 54 rfl) rfl (by decide) rfl (by decide) rfl rfl h1 ?_
  refine A_p (fun T Q _ _ k => V_aload_n (pc2 := 86) (dk D_X13_start 55 rfl) rfl (V_lg 0 rfl) rfl k) ?_
  refine A_ar (pc2 := 89) (a := 15) 20 (dk D_X13_start 56 rfl) fl_13_107 (by decide) (by decide) rfl (fun _ => rfl) rfl ?_
  refine A_p (fun T Q _ _ k => V_aload_n (pc2 := 90) (dk D_X13_start 57 rfl) rfl (V_lg 0 rfl) rfl k) ?_
  refine A_ar (pc2 := 93) (a := 34) 50 (dk D_X13_start 58 rfl) fl_13_164 (by decide) (by decide) rfl (fun _ => rfl) rfl ?_
  refine A_p (fun T Q _ _ k => V_iload_n (pc2 := 94) (dk D_X13_start 59 rfl) rfl (V_lg 1 rfl) rfl k) ?_
  obtain ⟨h2, h⟩ := h
  refine A_ild (pc2 := 95) 50 (dk D_X13_start 60 rfl) rfl (by decide) rfl (by decide) rfl rfl h2 ?_
  obtain ⟨h3, h⟩ := h
  refine A_ild (pc2 := 96) 20 (dk D_X13_start 61 rfl) rfl (by decide) rfl (by decide) rfl rfl h3 ?_
  obtain ⟨e4, he5, hc6⟩ := h
  refine A_call (st := []) (pc2 := 99) (fun T Q Qc L hc k => V_callV (as := [_, _, _]) (st := []) (M' := MX13_enter) (ci := 13) (pc2 := 99) (dk D_X13_start 62 rfl) ml_13_501 mv_X13_enter rfl rfl (by decide) rfl (Nat.le_of_ble_eq_true rfl) rfl he5 L.2.1 hc k) hc6 (aRV.k fun  s7 h => ?_)
  exact A_ret (fun T Q _ k => V_return (dk D_X13_start 63 rfl) rfl k) h
theorem a_over_0 {X : Cx} {b d : Nat} {σ : Rm} {Q : Res → Rm → Prop} (x1 : Int32) (x2 : Int32) (h : (vp_in x1 61) ∧ ∀ s2 : Rm, s2 = wI σ 49 ((x1 : Int32).toNatClampNeg) x2 → ∀ s3 : Rm, s3 = wS s2 48 ((sI s2 48) - 1) → (vp_in x1 61) ∧ (((aI s3 58 (x1 : Int32).toNatClampNeg) < 0 → A X b d MX13_over 46 [(0, vR b), (1, vI x1), (2, vI x2)] [] s3 Q) ∧ (¬ (aI s3 58 (x1 : Int32).toNatClampNeg) < 0 → (vp_in x1 61) ∧ (vp_in (aI s3 58 (x1 : Int32).toNatClampNeg) 12) ∧ ∀ s8 : Rm, s8 = wI s3 59 (((aI s3 58 (x1 : Int32).toNatClampNeg) : Int32).toNatClampNeg) 0 → (vp_in x1 61) ∧ ∀ s10 : Rm, s10 = wI s8 58 ((x1 : Int32).toNatClampNeg) (-9) → A X b d MX13_over 46 [(0, vR b), (1, vI x1), (2, vI x2)] [] s10 Q))) : A X b d MX13_over 0 [(0, vR b), (1, vI x1), (2, vI x2)] [] σ Q := by
  refine A_p (fun T Q _ _ k => V_aload_n (pc2 := 1) (dk D_X13_over 0 rfl) rfl (V_lg 0 rfl) rfl k) ?_
  refine A_ar (pc2 := 4) (a := 33) 49 (dk D_X13_over 1 rfl) fl_13_161 (by decide) (by decide) rfl (fun _ => rfl) rfl ?_
  refine A_p (fun T Q _ _ k => V_iload_n (pc2 := 5) (dk D_X13_over 2 rfl) rfl (V_lg 1 rfl) rfl k) ?_
  refine A_p (fun T Q _ _ k => V_iload_n (pc2 := 6) (dk D_X13_over 3 rfl) rfl (V_lg 2 rfl) rfl k) ?_
  obtain ⟨h1, h⟩ := h
  refine A_ist (pc2 := 7) 49 (dk D_X13_over 4 rfl) rfl (by decide) rfl (by decide) rfl rfl h1 ?_
  have h := h _ rfl
  refine A_p (fun T Q _ _ k => V_aload_n (pc2 := 8) (dk D_X13_over 5 rfl) rfl (V_lg 0 rfl) rfl k) ?_
  refine A_p (fun T Q _ _ k => V_dup (pc2 := 9) (dk D_X13_over 6 rfl) rfl rfl k) ?_
  refine A_sc (pc2 := 12) 48 (dk D_X13_over 7 rfl) fl_13_464 (by decide) rfl (fun _ => rfl) rfl ?_
  refine A_p (fun T Q _ _ k => V_iconst (x := 1) (pc2 := 13) (dk D_X13_over 8 rfl) (by decide) rfl k) ?_
  refine A_p (fun T Q _ _ k => V_isub (pc2 := 14) (dk D_X13_over 9 rfl) rfl k) ?_
  refine A_put (pc2 := 17) 48 (dk D_X13_over 10 rfl) fl_13_464 (by decide) rfl rfl rfl rfl ?_
  have h := h _ rfl
  refine A_p (fun T Q _ _ k => V_aload_n (pc2 := 18) (dk D_X13_over 11 rfl) rfl (V_lg 0 rfl) rfl k) ?_
  refine A_ar (pc2 := 21) (a := 42) 58 (dk D_X13_over 12 rfl) fl_13_189 (by decide) (by decide) rfl (fun _ => rfl) rfl ?_
  refine A_p (fun T Q _ _ k => V_iload_n (pc2 := 22) (dk D_X13_over 13 rfl) rfl (V_lg 1 rfl) rfl k) ?_
  obtain ⟨h4, h⟩ := h
  refine A_ild (pc2 := 23) 58 (dk D_X13_over 14 rfl) rfl (by decide) rfl (by decide) rfl rfl h4 ?_
  refine A_if (pa := 46) (pb := 26) (fun T Q k1 k2 => V_iflt (tgt := 46) (pc2 := 26) (dk D_X13_over 15 rfl) (by decide) rfl (fun q => k1 q) (fun q => k2 q)) (fun q5 => ?_) (fun q5 => ?_)
  · have h := h.1 q5
    exact h
  · have h := h.2 q5
    refine A_p (fun T Q _ _ k => V_aload_n (pc2 := 27) (dk D_X13_over 16 rfl) rfl (V_lg 0 rfl) rfl k) ?_
    refine A_ar (pc2 := 30) (a := 43) 59 (dk D_X13_over 17 rfl) fl_13_192 (by decide) (by decide) rfl (fun _ => rfl) rfl ?_
    refine A_p (fun T Q _ _ k => V_aload_n (pc2 := 31) (dk D_X13_over 18 rfl) rfl (V_lg 0 rfl) rfl k) ?_
    refine A_ar (pc2 := 34) (a := 42) 58 (dk D_X13_over 19 rfl) fl_13_189 (by decide) (by decide) rfl (fun _ => rfl) rfl ?_
    refine A_p (fun T Q _ _ k => V_iload_n (pc2 := 35) (dk D_X13_over 20 rfl) rfl (V_lg 1 rfl) rfl k) ?_
    obtain ⟨h6, h⟩ := h
    refine A_ild (pc2 := 36) 58 (dk D_X13_over 21 rfl) rfl (by decide) rfl (by decide) rfl rfl h6 ?_
    refine A_p (fun T Q _ _ k => V_iconst (x := 0) (pc2 := 37) (dk D_X13_over 22 rfl) (by decide) rfl k) ?_
    obtain ⟨h7, h⟩ := h
    refine A_zst (pc2 := 38) 59 (dk D_X13_over 23 rfl) rfl (by decide) rfl (by decide) rfl rfl h7 (Or.inl rfl) ?_
    have h := h _ rfl
    refine A_p (fun T Q _ _ k => V_aload_n (pc2 := 39) (dk D_X13_over 24 rfl) rfl (V_lg 0 rfl) rfl k) ?_
    refine A_ar (pc2 := 42) (a := 42) 58 (dk D_X13_over 25 rfl) fl_13_189 (by decide) (by decide) rfl (fun _ => rfl) rfl ?_
    refine A_p (fun T Q _ _ k => V_iload_n (pc2 := 43) (dk D_X13_over 26 rfl) rfl (V_lg 1 rfl) rfl k) ?_
    refine A_p (fun T Q _ _ k => V_bipush (x := (-9)) (pc2 := 45) (dk D_X13_over 27 rfl) (by decide) rfl k) ?_
    obtain ⟨h9, h⟩ := h
    refine A_ist (pc2 := 46) 58 (dk D_X13_over 28 rfl) rfl (by decide) rfl (by decide) rfl rfl h9 ?_
    have h := h _ rfl
    exact h
theorem a_over_46 {X : Cx} {b d : Nat} {σ : Rm} {Q : Res → Rm → Prop} (x1 : Int32) (x2 : Int32) (h : Q (.inl none) σ) : A X b d MX13_over 46 [(0, vR b), (1, vI x1), (2, vI x2)] [] σ Q := by
  exact A_ret (fun T Q _ k => V_return (dk D_X13_over 29 rfl) rfl k) h
theorem a_placeOf_0 {X : Cx} {b d : Nat} {σ : Rm} {Q : Res → Rm → Prop} (x1 : Int32) (h : ((x1 = 0 → A X b d MX13_placeOf 19 [(0, vR b), (1, vI x1)] [vI (-9)] σ Q) ∧ (¬ x1 = 0 → ∃ e2 : Nat, e2 + 1 ≤ d ∧ AC X b e2 MX13_call [vR b, vI x1] σ (aRI fun y5 s6 => (vp_in y5 720) ∧ A X b d MX13_placeOf 19 [(0, vR b), (1, vI x1)] [vI (aI s6 63 (y5 : Int32).toNatClampNeg)] s6 Q)))) : A X b d MX13_placeOf 0 [(0, vR b), (1, vI x1)] [] σ Q := by
  refine A_p (fun T Q _ _ k => V_iload_n (pc2 := 1) (dk D_X13_placeOf 0 rfl) rfl (V_lg 1 rfl) rfl k) ?_
  refine A_if (pa := 4) (pb := 9) (fun T Q k1 k2 => V_ifne (tgt := 9) (pc2 := 4) (dk D_X13_placeOf 1 rfl) (by decide) rfl (fun q => k2 q) (fun q => k1 q)) (fun q1 => ?_) (fun q1 => ?_)
  · have h := h.1 q1
    refine A_p (fun T Q _ _ k => V_bipush (x := (-9)) (pc2 := 6) (dk D_X13_placeOf 2 rfl) (by decide) rfl k) ?_
    refine A_p (fun T Q _ _ k => V_goto (tgt := 19) (dk D_X13_placeOf 3 rfl) (by decide) k) ?_
    exact h
  · have h := h.2 q1
    refine A_p (fun T Q _ _ k => V_aload_n (pc2 := 10) (dk D_X13_placeOf 4 rfl) rfl (V_lg 0 rfl) rfl k) ?_
    refine A_ar (pc2 := 13) (a := 47) 63 (dk D_X13_placeOf 5 rfl) fl_13_204 (by decide) (by decide) rfl (fun _ => rfl) rfl ?_
    refine A_p (fun T Q _ _ k => V_aload_n (pc2 := 14) (dk D_X13_placeOf 6 rfl) rfl (V_lg 0 rfl) rfl k) ?_
    refine A_p (fun T Q _ _ k => V_iload_n (pc2 := 15) (dk D_X13_placeOf 7 rfl) rfl (V_lg 1 rfl) rfl k) ?_
    obtain ⟨e2, he3, hc4⟩ := h
    refine A_call (st := [_]) (pc2 := 18) (fun T Q Qc L hc k => V_callV (as := [_]) (st := [_]) (M' := MX13_call) (ci := 13) (pc2 := 18) (dk D_X13_placeOf 8 rfl) ml_13_504 mv_X13_call rfl rfl (by decide) rfl (Nat.le_of_ble_eq_true rfl) rfl he3 L.2.1 hc k) hc4 (aRI.k fun y5 s6 h => ?_)
    obtain ⟨h7, h⟩ := h
    refine A_ild (pc2 := 19) 63 (dk D_X13_placeOf 9 rfl) rfl (by decide) rfl (by decide) rfl rfl h7 ?_
    exact h
theorem a_placeOf_19 {X : Cx} {b d : Nat} {σ : Rm} {Q : Res → Rm → Prop} (x1 : Int32) (t0 : Int32) (h : Q (.inl (some (vI t0))) σ) : A X b d MX13_placeOf 19 [(0, vR b), (1, vI x1)] [vI t0] σ Q := by
  exact A_ret (fun T Q _ k => V_ireturn (dk D_X13_placeOf 10 rfl) rfl k) h
theorem a_step_0 {X : Cx} {b d : Nat} {σ : Rm} {Q : Res → Rm → Prop} (x1 : Int32) (h : (((sI σ 75) = 6000 → ∃ e2 : Nat, e2 + 1 ≤ d ∧ AC X b e2 MX13_spend [vR b, vI x1] σ (aRV fun  s5 => Q (.inl (some (vI 0))) s5)) ∧ (¬ (sI σ 75) = 6000 → ∀ s6 : Rm, s6 = wS σ 75 ((sI σ 75) + 1) → (vp_in x1 61) ∧ (vp_in x1 61) ∧ ∀ s9 : Rm, s9 = wI s6 52 ((x1 : Int32).toNatClampNeg) ((aI s6 52 (x1 : Int32).toNatClampNeg) + 1) → Q (.inl (some (vI 1))) s9))) : A X b d MX13_step 0 [(0, vR b), (1, vI x1)] [] σ Q := by
  refine A_p (fun T Q _ _ k => V_aload_n (pc2 := 1) (dk D_X13_step 0 rfl) rfl (V_lg 0 rfl) rfl k) ?_
  refine A_sc (pc2 := 4) 75 (dk D_X13_step 1 rfl) fl_13_467 (by decide) rfl (fun _ => rfl) rfl ?_
  refine A_p (fun T Q _ _ k => V_sipush (x := 6000) (pc2 := 7) (dk D_X13_step 2 rfl) (by decide) rfl k) ?_
  refine A_if (pa := 10) (pb := 17) (fun T Q k1 k2 => V_cmpne (tgt := 17) (pc2 := 10) (dk D_X13_step 3 rfl) (by decide) rfl (fun q => k2 q) (fun q => k1 q)) (fun q1 => ?_) (fun q1 => ?_)
  · have h := h.1 q1
    refine A_p (fun T Q _ _ k => V_aload_n (pc2 := 11) (dk D_X13_step 4 rfl) rfl (V_lg 0 rfl) rfl k) ?_
    refine A_p (fun T Q _ _ k => V_iload_n (pc2 := 12) (dk D_X13_step 5 rfl) rfl (V_lg 1 rfl) rfl k) ?_
    obtain ⟨e2, he3, hc4⟩ := h
    refine A_call (st := []) (pc2 := 15) (fun T Q Qc L hc k => V_callV (as := [_]) (st := []) (M' := MX13_spend) (ci := 13) (pc2 := 15) (dk D_X13_step 6 rfl) ml_13_507 mv_X13_spend rfl rfl (by decide) rfl (Nat.le_of_ble_eq_true rfl) rfl he3 L.2.1 hc k) hc4 (aRV.k fun  s5 h => ?_)
    refine A_p (fun T Q _ _ k => V_iconst (x := 0) (pc2 := 16) (dk D_X13_step 7 rfl) (by decide) rfl k) ?_
    exact A_ret (fun T Q _ k => V_zreturn (dk D_X13_step 8 rfl) rfl (Or.inl rfl) k) h
  · have h := h.2 q1
    refine A_p (fun T Q _ _ k => V_aload_n (pc2 := 18) (dk D_X13_step 9 rfl) rfl (V_lg 0 rfl) rfl k) ?_
    refine A_p (fun T Q _ _ k => V_dup (pc2 := 19) (dk D_X13_step 10 rfl) rfl rfl k) ?_
    refine A_sc (pc2 := 22) 75 (dk D_X13_step 11 rfl) fl_13_467 (by decide) rfl (fun _ => rfl) rfl ?_
    refine A_p (fun T Q _ _ k => V_iconst (x := 1) (pc2 := 23) (dk D_X13_step 12 rfl) (by decide) rfl k) ?_
    refine A_p (fun T Q _ _ k => V_iadd (pc2 := 24) (dk D_X13_step 13 rfl) rfl k) ?_
    refine A_put (pc2 := 27) 75 (dk D_X13_step 14 rfl) fl_13_467 (by decide) rfl rfl rfl rfl ?_
    have h := h _ rfl
    refine A_p (fun T Q _ _ k => V_aload_n (pc2 := 28) (dk D_X13_step 15 rfl) rfl (V_lg 0 rfl) rfl k) ?_
    refine A_ar (pc2 := 31) (a := 36) 52 (dk D_X13_step 16 rfl) fl_13_170 (by decide) (by decide) rfl (fun _ => rfl) rfl ?_
    refine A_p (fun T Q _ _ k => V_iload_n (pc2 := 32) (dk D_X13_step 17 rfl) rfl (V_lg 1 rfl) rfl k) ?_
    refine A_p (fun T Q _ _ k => V_dup2 (pc2 := 33) (dk D_X13_step 18 rfl) rfl rfl rfl k) ?_
    obtain ⟨h7, h⟩ := h
    refine A_ild (pc2 := 34) 52 (dk D_X13_step 19 rfl) rfl (by decide) rfl (by decide) rfl rfl h7 ?_
    refine A_p (fun T Q _ _ k => V_iconst (x := 1) (pc2 := 35) (dk D_X13_step 20 rfl) (by decide) rfl k) ?_
    refine A_p (fun T Q _ _ k => V_iadd (pc2 := 36) (dk D_X13_step 21 rfl) rfl k) ?_
    obtain ⟨h8, h⟩ := h
    refine A_ist (pc2 := 37) 52 (dk D_X13_step 22 rfl) rfl (by decide) rfl (by decide) rfl rfl h8 ?_
    have h := h _ rfl
    refine A_p (fun T Q _ _ k => V_iconst (x := 1) (pc2 := 38) (dk D_X13_step 23 rfl) (by decide) rfl k) ?_
    exact A_ret (fun T Q _ k => V_zreturn (dk D_X13_step 24 rfl) rfl (Or.inr rfl) k) h
theorem a_spend_0 {X : Cx} {b d : Nat} {σ : Rm} {Q : Res → Rm → Prop} (x1 : Int32) (h : ∀ s1 : Rm, s1 = wS σ 76 1 → A X b d MX13_spend 7 [(0, vR b), (1, vI x1), (2, vI 1)] [] s1 Q) : A X b d MX13_spend 0 [(0, vR b), (1, vI x1)] [] σ Q := by
  refine A_p (fun T Q _ _ k => V_aload_n (pc2 := 1) (dk D_X13_spend 0 rfl) rfl (V_lg 0 rfl) rfl k) ?_
  refine A_p (fun T Q _ _ k => V_iconst (x := 1) (pc2 := 2) (dk D_X13_spend 1 rfl) (by decide) rfl k) ?_
  refine A_putZ (pc2 := 5) 76 (dk D_X13_spend 2 rfl) fl_13_470 (by decide) rfl rfl rfl rfl (Or.inr rfl) ?_
  have h := h _ rfl
  refine A_p (fun T Q _ _ k => V_iconst (x := 1) (pc2 := 6) (dk D_X13_spend 3 rfl) (by decide) rfl k) ?_
  refine A_p (fun T Q _ _ k => V_istore_n (pc2 := 7) (lv2 := [(0, _), (1, _), (2, _)]) (dk D_X13_spend 4 rfl) rfl (by decide) rfl rfl k) ?_
  exact h
theorem a_spend_7 {X : Cx} {b d : Nat} {σ : Rm} {Q : Res → Rm → Prop} (x1 : Int32) (x2 : Int32) (h : (((sI σ 47) < x2 → ∃ e2 : Nat, e2 + 1 ≤ d ∧ AC X b e2 MX13_hands [vR b, vI x1, vI 0] σ (aRV fun  s5 => ∀ s6 : Rm, s6 = wS s5 77 0 → ∀ s7 : Rm, s7 = wS s6 78 4 → Q (.inl none) s7)) ∧ (¬ (sI σ 47) < x2 → ∃ e8 : Nat, e8 + 1 ≤ d ∧ AC X b e8 MX13_isOver [vR b, vI x2] σ (aRI fun y11 s12 => ((y11 = 0 → ∃ e14 : Nat, e14 + 1 ≤ d ∧ AC X b e14 MX13_over [vR b, vI x2, vI 5] s12 (aRV fun  s17 => A X b d MX13_spend 29 [(0, vR b), (1, vI x1), (2, vI x2)] [] s17 Q)) ∧ (¬ y11 = 0 → A X b d MX13_spend 29 [(0, vR b), (1, vI x1), (2, vI x2)] [] s12 Q)))))) : A X b d MX13_spend 7 [(0, vR b), (1, vI x1), (2, vI x2)] [] σ Q := by
  refine A_p (fun T Q _ _ k => V_iload_n (pc2 := 8) (dk D_X13_spend 5 rfl) rfl (V_lg 2 rfl) rfl k) ?_
  refine A_p (fun T Q _ _ k => V_aload_n (pc2 := 9) (dk D_X13_spend 6 rfl) rfl (V_lg 0 rfl) rfl k) ?_
  refine A_sc (pc2 := 12) 47 (dk D_X13_spend 7 rfl) fl_13_461 (by decide) rfl (fun _ => rfl) rfl ?_
  refine A_if (pa := 35) (pb := 15) (fun T Q k1 k2 => V_cmpgt (tgt := 35) (pc2 := 15) (dk D_X13_spend 8 rfl) (by decide) rfl (fun q => k1 q) (fun q => k2 q)) (fun q1 => ?_) (fun q1 => ?_)
  · have h := h.1 q1
    refine A_p (fun T Q _ _ k => V_aload_n (pc2 := 36) (dk D_X13_spend 19 rfl) rfl (V_lg 0 rfl) rfl k) ?_
    refine A_p (fun T Q _ _ k => V_iload_n (pc2 := 37) (dk D_X13_spend 20 rfl) rfl (V_lg 1 rfl) rfl k) ?_
    refine A_p (fun T Q _ _ k => V_iconst (x := 0) (pc2 := 38) (dk D_X13_spend 21 rfl) (by decide) rfl k) ?_
    obtain ⟨e2, he3, hc4⟩ := h
    refine A_call (st := []) (pc2 := 41) (fun T Q Qc L hc k => V_callV (as := [_, _]) (st := []) (M' := MX13_hands) (ci := 13) (pc2 := 41) (dk D_X13_spend 22 rfl) ml_13_516 mv_X13_hands rfl rfl (by decide) rfl (Nat.le_of_ble_eq_true rfl) rfl he3 L.2.1 hc k) hc4 (aRV.k fun  s5 h => ?_)
    refine A_p (fun T Q _ _ k => V_aload_n (pc2 := 42) (dk D_X13_spend 23 rfl) rfl (V_lg 0 rfl) rfl k) ?_
    refine A_p (fun T Q _ _ k => V_iconst (x := 0) (pc2 := 43) (dk D_X13_spend 24 rfl) (by decide) rfl k) ?_
    refine A_put (pc2 := 46) 77 (dk D_X13_spend 25 rfl) fl_13_473 (by decide) rfl rfl rfl rfl ?_
    have h := h _ rfl
    refine A_p (fun T Q _ _ k => V_aload_n (pc2 := 47) (dk D_X13_spend 26 rfl) rfl (V_lg 0 rfl) rfl k) ?_
    refine A_p (fun T Q _ _ k => V_iconst (x := 4) (pc2 := 48) (dk D_X13_spend 27 rfl) (by decide) rfl k) ?_
    refine A_put (pc2 := 51) 78 (dk D_X13_spend 28 rfl) fl_13_519 (by decide) rfl rfl rfl rfl ?_
    have h := h _ rfl
    exact A_ret (fun T Q _ k => V_return (dk D_X13_spend 29 rfl) rfl k) h
  · have h := h.2 q1
    refine A_p (fun T Q _ _ k => V_aload_n (pc2 := 16) (dk D_X13_spend 9 rfl) rfl (V_lg 0 rfl) rfl k) ?_
    refine A_p (fun T Q _ _ k => V_iload_n (pc2 := 17) (dk D_X13_spend 10 rfl) rfl (V_lg 2 rfl) rfl k) ?_
    obtain ⟨e8, he9, hc10⟩ := h
    refine A_call (st := []) (pc2 := 20) (fun T Q Qc L hc k => V_callV (as := [_]) (st := []) (M' := MX13_isOver) (ci := 13) (pc2 := 20) (dk D_X13_spend 11 rfl) ml_13_510 mv_X13_isOver rfl rfl (by decide) rfl (Nat.le_of_ble_eq_true rfl) rfl he9 L.2.1 hc k) hc10 (aRI.k fun y11 s12 h => ?_)
    refine A_if (pa := 23) (pb := 29) (fun T Q k1 k2 => V_ifne (tgt := 29) (pc2 := 23) (dk D_X13_spend 12 rfl) (by decide) rfl (fun q => k2 q) (fun q => k1 q)) (fun q13 => ?_) (fun q13 => ?_)
    · have h := h.1 q13
      refine A_p (fun T Q _ _ k => V_aload_n (pc2 := 24) (dk D_X13_spend 13 rfl) rfl (V_lg 0 rfl) rfl k) ?_
      refine A_p (fun T Q _ _ k => V_iload_n (pc2 := 25) (dk D_X13_spend 14 rfl) rfl (V_lg 2 rfl) rfl k) ?_
      refine A_p (fun T Q _ _ k => V_iconst (x := 5) (pc2 := 26) (dk D_X13_spend 15 rfl) (by decide) rfl k) ?_
      obtain ⟨e14, he15, hc16⟩ := h
      refine A_call (st := []) (pc2 := 29) (fun T Q Qc L hc k => V_callV (as := [_, _]) (st := []) (M' := MX13_over) (ci := 13) (pc2 := 29) (dk D_X13_spend 16 rfl) ml_13_513 mv_X13_over rfl rfl (by decide) rfl (Nat.le_of_ble_eq_true rfl) rfl he15 L.2.1 hc k) hc16 (aRV.k fun  s17 h => ?_)
      exact h
    · have h := h.2 q13
      exact h
theorem a_spend_29 {X : Cx} {b d : Nat} {σ : Rm} {Q : Res → Rm → Prop} (x1 : Int32) (x2 : Int32) (h : A X b d MX13_spend 7 [(0, vR b), (1, vI x1), (2, vI (x2 + 1))] [] σ Q) : A X b d MX13_spend 29 [(0, vR b), (1, vI x1), (2, vI x2)] [] σ Q := by
  refine A_p (fun T Q _ _ k => V_iinc (y := _ + 1) (pc2 := 32) (lv2 := [(0, _), (1, _), (2, _)]) (dk D_X13_spend 17 rfl) (V_lg 2 rfl) rfl (by decide) rfl rfl k) ?_
  refine A_p (fun T Q _ _ k => V_goto (tgt := 7) (dk D_X13_spend 18 rfl) (by decide) k) ?_
  exact h
theorem a_arises_0 {X : Cx} {b d : Nat} {σ : Rm} {Q : Res → Rm → Prop} (x1 : Int32) (x2 : Int32) (h : ∃ e1 : Nat, e1 + 1 ≤ d ∧ AC X b e1 MX13_placeOf [vR b, vI x1] σ (aRI fun y4 s5 => ∃ e6 : Nat, e6 + 1 ≤ d ∧ AC X b e6 MX13_failure [vR b, vI x2, vI 0, vI x1, vI y4, vI (-9)] s5 (aRI fun y9 s10 => ∃ e11 : Nat, e11 + 1 ≤ d ∧ AC X b e11 MX13_raise [vR b, vI x1, vI y9] s10 (aRV fun  s14 => Q (.inl none) s14)))) : A X b d MX13_arises 0 [(0, vR b), (1, vI x1), (2, vI x2)] [] σ Q := by
  refine A_p (fun T Q _ _ k => V_aload_n (pc2 := 1) (dk D_X13_arises 0 rfl) rfl (V_lg 0 rfl) rfl k) ?_
  refine A_p (fun T Q _ _ k => V_iload_n (pc2 := 2) (dk D_X13_arises 1 rfl) rfl (V_lg 1 rfl) rfl k) ?_
  refine A_p (fun T Q _ _ k => V_aload_n (pc2 := 3) (dk D_X13_arises 2 rfl) rfl (V_lg 0 rfl) rfl k) ?_
  refine A_p (fun T Q _ _ k => V_iload_n (pc2 := 4) (dk D_X13_arises 3 rfl) rfl (V_lg 2 rfl) rfl k) ?_
  refine A_p (fun T Q _ _ k => V_iconst (x := 0) (pc2 := 5) (dk D_X13_arises 4 rfl) (by decide) rfl k) ?_
  refine A_p (fun T Q _ _ k => V_iload_n (pc2 := 6) (dk D_X13_arises 5 rfl) rfl (V_lg 1 rfl) rfl k) ?_
  refine A_p (fun T Q _ _ k => V_aload_n (pc2 := 7) (dk D_X13_arises 6 rfl) rfl (V_lg 0 rfl) rfl k) ?_
  refine A_p (fun T Q _ _ k => V_iload_n (pc2 := 8) (dk D_X13_arises 7 rfl) rfl (V_lg 1 rfl) rfl k) ?_
  obtain ⟨e1, he2, hc3⟩ := h
  refine A_call (st := [_, _, _, _, _, _]) (pc2 := 11) (fun T Q Qc L hc k => V_callV (as := [_]) (st := [_, _, _, _, _, _]) (M' := MX13_placeOf) (ci := 13) (pc2 := 11) (dk D_X13_arises 8 rfl) ml_13_522 mv_X13_placeOf rfl rfl (by decide) rfl (Nat.le_of_ble_eq_true rfl) rfl he2 L.2.1 hc k) hc3 (aRI.k fun y4 s5 h => ?_)
  refine A_p (fun T Q _ _ k => V_bipush (x := (-9)) (pc2 := 13) (dk D_X13_arises 9 rfl) (by decide) rfl k) ?_
  obtain ⟨e6, he7, hc8⟩ := h
  refine A_call (st := [_, _]) (pc2 := 16) (fun T Q Qc L hc k => V_callV (as := [_, _, _, _, _]) (st := [_, _]) (M' := MX13_failure) (ci := 13) (pc2 := 16) (dk D_X13_arises 10 rfl) ml_13_525 mv_X13_failure rfl rfl (by decide) rfl (Nat.le_of_ble_eq_true rfl) rfl he7 L.2.1 hc k) hc8 (aRI.k fun y9 s10 h => ?_)
  obtain ⟨e11, he12, hc13⟩ := h
  refine A_call (st := []) (pc2 := 19) (fun T Q Qc L hc k => V_callV (as := [_, _]) (st := []) (M' := MX13_raise) (ci := 13) (pc2 := 19) (dk D_X13_arises 11 rfl) ml_13_529 mv_X13_raise rfl rfl (by decide) rfl (Nat.le_of_ble_eq_true rfl) rfl he12 L.2.1 hc k) hc13 (aRV.k fun  s14 h => ?_)
  exact A_ret (fun T Q _ k => V_return (dk D_X13_arises 12 rfl) rfl k) h
theorem a_raiseIn_0 {X : Cx} {b d : Nat} {σ : Rm} {Q : Res → Rm → Prop} (x1 : Int32) (x2 : Int32) (h : (vp_in x1 61) ∧ A X b d MX13_raiseIn 7 [(0, vR b), (1, vI x1), (2, vI x2), (3, vI (aI σ 58 (x1 : Int32).toNatClampNeg))] [] σ Q) : A X b d MX13_raiseIn 0 [(0, vR b), (1, vI x1), (2, vI x2)] [] σ Q := by
  refine A_p (fun T Q _ _ k => V_aload_n (pc2 := 1) (dk D_X13_raiseIn 0 rfl) rfl (V_lg 0 rfl) rfl k) ?_
  refine A_ar (pc2 := 4) (a := 42) 58 (dk D_X13_raiseIn 1 rfl) fl_13_189 (by decide) (by decide) rfl (fun _ => rfl) rfl ?_
  refine A_p (fun T Q _ _ k => V_iload_n (pc2 := 5) (dk D_X13_raiseIn 2 rfl) rfl (V_lg 1 rfl) rfl k) ?_
  obtain ⟨h1, h⟩ := h
  refine A_ild (pc2 := 6) 58 (dk D_X13_raiseIn 3 rfl) rfl (by decide) rfl (by decide) rfl rfl h1 ?_
  refine A_p (fun T Q _ _ k => V_istore_n (pc2 := 7) (lv2 := [(0, _), (1, _), (2, _), (3, _)]) (dk D_X13_raiseIn 4 rfl) rfl (by decide) rfl rfl k) ?_
  exact h
theorem a_raiseIn_7 {X : Cx} {b d : Nat} {σ : Rm} {Q : Res → Rm → Prop} (x1 : Int32) (x2 : Int32) (x3 : Int32) (h : ∃ e1 : Nat, e1 + 1 ≤ d ∧ AC X b e1 MX13_call [vR b, vI x1] σ (aRI fun y4 s5 => (vp_in x3 12) ∧ (vp_in y4 720) ∧ (((aI s5 68 (x3 : Int32).toNatClampNeg) = (aI s5 64 (y4 : Int32).toNatClampNeg) → (vp_in x3 12) ∧ (vp_in x3 12) ∧ ∀ s11 : Rm, s11 = wI s5 60 ((x3 : Int32).toNatClampNeg) ((aI s5 60 (x3 : Int32).toNatClampNeg) - 1) → (vp_in x3 12) ∧ (((aI s11 60 (x3 : Int32).toNatClampNeg) = 0 → ∃ e14 : Nat, e14 + 1 ≤ d ∧ AC X b e14 MX13_leaves [vR b, vI x1, vI x2] s11 (aRV fun  s17 => Q (.inl none) s17)) ∧ (¬ (aI s11 60 (x3 : Int32).toNatClampNeg) = 0 → A X b d MX13_raiseIn 7 [(0, vR b), (1, vI x1), (2, vI x2), (3, vI x3)] [] s11 Q))) ∧ (¬ (aI s5 68 (x3 : Int32).toNatClampNeg) = (aI s5 64 (y4 : Int32).toNatClampNeg) → (vp_in x3 12) ∧ (vp_in (((1500 * x3) + (aI s5 68 (x3 : Int32).toNatClampNeg)) - 1) 18000) ∧ (vp_in (((1500 * x3) + (aI s5 68 (x3 : Int32).toNatClampNeg)) - 1) 18000) ∧ (((aI s5 70 ((((1500 * x3) + (aI s5 68 (x3 : Int32).toNatClampNeg)) - 1) : Int32).toNatClampNeg) = 0 → ∃ e22 : Nat, e22 + 1 ≤ d ∧ AC X b e22 MX13_isCaught [vR b, vI x1, vI y4, vI (((1500 * x3) + (aI s5 68 (x3 : Int32).toNatClampNeg)) - 1), vI x2] s5 (aRI fun y25 s26 => ((y25 = 0 → A X b d MX13_raiseIn 105 [(0, vR b), (1, vI x1), (2, vI x2), (3, vI x3), (4, vI y4), (5, vI (((1500 * x3) + (aI s5 68 (x3 : Int32).toNatClampNeg)) - 1)), (6, vI (aI s5 69 ((((1500 * x3) + (aI s5 68 (x3 : Int32).toNatClampNeg)) - 1) : Int32).toNatClampNeg))] [] s26 Q) ∧ (¬ y25 = 0 → Q (.inl none) s26)))) ∧ (¬ (aI s5 70 ((((1500 * x3) + (aI s5 68 (x3 : Int32).toNatClampNeg)) - 1) : Int32).toNatClampNeg) = 0 → A X b d MX13_raiseIn 105 [(0, vR b), (1, vI x1), (2, vI x2), (3, vI x3), (4, vI y4), (5, vI (((1500 * x3) + (aI s5 68 (x3 : Int32).toNatClampNeg)) - 1)), (6, vI (aI s5 69 ((((1500 * x3) + (aI s5 68 (x3 : Int32).toNatClampNeg)) - 1) : Int32).toNatClampNeg))] [] s5 Q)))))) : A X b d MX13_raiseIn 7 [(0, vR b), (1, vI x1), (2, vI x2), (3, vI x3)] [] σ Q := by
  refine A_p (fun T Q _ _ k => V_aload_n (pc2 := 8) (dk D_X13_raiseIn 5 rfl) rfl (V_lg 0 rfl) rfl k) ?_
  refine A_p (fun T Q _ _ k => V_iload_n (pc2 := 9) (dk D_X13_raiseIn 6 rfl) rfl (V_lg 1 rfl) rfl k) ?_
  obtain ⟨e1, he2, hc3⟩ := h
  refine A_call (st := []) (pc2 := 12) (fun T Q Qc L hc k => V_callV (as := [_]) (st := []) (M' := MX13_call) (ci := 13) (pc2 := 12) (dk D_X13_raiseIn 7 rfl) ml_13_504 mv_X13_call rfl rfl (by decide) rfl (Nat.le_of_ble_eq_true rfl) rfl he2 L.2.1 hc k) hc3 (aRI.k fun y4 s5 h => ?_)
  refine A_p (fun T Q _ _ k => V_istore (pc2 := 14) (lv2 := [(0, _), (1, _), (2, _), (3, _), (4, _)]) (dk D_X13_raiseIn 8 rfl) (by decide) rfl rfl k) ?_
  refine A_p (fun T Q _ _ k => V_aload_n (pc2 := 15) (dk D_X13_raiseIn 9 rfl) rfl (V_lg 0 rfl) rfl k) ?_
  refine A_ar (pc2 := 18) (a := 52) 68 (dk D_X13_raiseIn 10 rfl) fl_13_219 (by decide) (by decide) rfl (fun _ => rfl) rfl ?_
  refine A_p (fun T Q _ _ k => V_iload_n (pc2 := 19) (dk D_X13_raiseIn 11 rfl) rfl (V_lg 3 rfl) rfl k) ?_
  obtain ⟨h6, h⟩ := h
  refine A_ild (pc2 := 20) 68 (dk D_X13_raiseIn 12 rfl) rfl (by decide) rfl (by decide) rfl rfl h6 ?_
  refine A_p (fun T Q _ _ k => V_aload_n (pc2 := 21) (dk D_X13_raiseIn 13 rfl) rfl (V_lg 0 rfl) rfl k) ?_
  refine A_ar (pc2 := 24) (a := 48) 64 (dk D_X13_raiseIn 14 rfl) fl_13_207 (by decide) (by decide) rfl (fun _ => rfl) rfl ?_
  refine A_p (fun T Q _ _ k => V_iload (pc2 := 26) (dk D_X13_raiseIn 15 rfl) (V_lg 4 rfl) rfl k) ?_
  obtain ⟨h7, h⟩ := h
  refine A_ild (pc2 := 27) 64 (dk D_X13_raiseIn 16 rfl) rfl (by decide) rfl (by decide) rfl rfl h7 ?_
  refine A_if (pa := 30) (pb := 56) (fun T Q k1 k2 => V_cmpne (tgt := 56) (pc2 := 30) (dk D_X13_raiseIn 17 rfl) (by decide) rfl (fun q => k2 q) (fun q => k1 q)) (fun q8 => ?_) (fun q8 => ?_)
  · have h := h.1 q8
    refine A_p (fun T Q _ _ k => V_aload_n (pc2 := 31) (dk D_X13_raiseIn 18 rfl) rfl (V_lg 0 rfl) rfl k) ?_
    refine A_ar (pc2 := 34) (a := 44) 60 (dk D_X13_raiseIn 19 rfl) fl_13_195 (by decide) (by decide) rfl (fun _ => rfl) rfl ?_
    refine A_p (fun T Q _ _ k => V_iload_n (pc2 := 35) (dk D_X13_raiseIn 20 rfl) rfl (V_lg 3 rfl) rfl k) ?_
    refine A_p (fun T Q _ _ k => V_dup2 (pc2 := 36) (dk D_X13_raiseIn 21 rfl) rfl rfl rfl k) ?_
    obtain ⟨h9, h⟩ := h
    refine A_ild (pc2 := 37) 60 (dk D_X13_raiseIn 22 rfl) rfl (by decide) rfl (by decide) rfl rfl h9 ?_
    refine A_p (fun T Q _ _ k => V_iconst (x := 1) (pc2 := 38) (dk D_X13_raiseIn 23 rfl) (by decide) rfl k) ?_
    refine A_p (fun T Q _ _ k => V_isub (pc2 := 39) (dk D_X13_raiseIn 24 rfl) rfl k) ?_
    obtain ⟨h10, h⟩ := h
    refine A_ist (pc2 := 40) 60 (dk D_X13_raiseIn 25 rfl) rfl (by decide) rfl (by decide) rfl rfl h10 ?_
    have h := h _ rfl
    refine A_p (fun T Q _ _ k => V_aload_n (pc2 := 41) (dk D_X13_raiseIn 26 rfl) rfl (V_lg 0 rfl) rfl k) ?_
    refine A_ar (pc2 := 44) (a := 44) 60 (dk D_X13_raiseIn 27 rfl) fl_13_195 (by decide) (by decide) rfl (fun _ => rfl) rfl ?_
    refine A_p (fun T Q _ _ k => V_iload_n (pc2 := 45) (dk D_X13_raiseIn 28 rfl) rfl (V_lg 3 rfl) rfl k) ?_
    obtain ⟨h12, h⟩ := h
    refine A_ild (pc2 := 46) 60 (dk D_X13_raiseIn 29 rfl) rfl (by decide) rfl (by decide) rfl rfl h12 ?_
    refine A_if (pa := 49) (pb := 7) (fun T Q k1 k2 => V_ifne (tgt := 7) (pc2 := 49) (dk D_X13_raiseIn 30 rfl) (by decide) rfl (fun q => k2 q) (fun q => k1 q)) (fun q13 => ?_) (fun q13 => ?_)
    · have h := h.1 q13
      refine A_p (fun T Q _ _ k => V_aload_n (pc2 := 50) (dk D_X13_raiseIn 31 rfl) rfl (V_lg 0 rfl) rfl k) ?_
      refine A_p (fun T Q _ _ k => V_iload_n (pc2 := 51) (dk D_X13_raiseIn 32 rfl) rfl (V_lg 1 rfl) rfl k) ?_
      refine A_p (fun T Q _ _ k => V_iload_n (pc2 := 52) (dk D_X13_raiseIn 33 rfl) rfl (V_lg 2 rfl) rfl k) ?_
      obtain ⟨e14, he15, hc16⟩ := h
      refine A_call (st := []) (pc2 := 55) (fun T Q Qc L hc k => V_callV (as := [_, _]) (st := []) (M' := MX13_leaves) (ci := 13) (pc2 := 55) (dk D_X13_raiseIn 34 rfl) ml_13_532 mv_X13_leaves rfl rfl (by decide) rfl (Nat.le_of_ble_eq_true rfl) rfl he15 L.2.1 hc k) hc16 (aRV.k fun  s17 h => ?_)
      exact A_ret (fun T Q _ k => V_return (dk D_X13_raiseIn 35 rfl) rfl k) h
    · have h := h.2 q13
      refine A_p (fun T Q _ _ k => V_pick [0, 1, 2, 3] (lv2 := [(0, _), (1, _), (2, _), (3, _)]) rfl k) ?_
      exact h
  · have h := h.2 q8
    refine A_p (fun T Q _ _ k => V_sipush (x := 1500) (pc2 := 59) (dk D_X13_raiseIn 36 rfl) (by decide) rfl k) ?_
    refine A_p (fun T Q _ _ k => V_iload_n (pc2 := 60) (dk D_X13_raiseIn 37 rfl) rfl (V_lg 3 rfl) rfl k) ?_
    refine A_p (fun T Q _ _ k => V_imul (pc2 := 61) (dk D_X13_raiseIn 38 rfl) rfl k) ?_
    refine A_p (fun T Q _ _ k => V_aload_n (pc2 := 62) (dk D_X13_raiseIn 39 rfl) rfl (V_lg 0 rfl) rfl k) ?_
    refine A_ar (pc2 := 65) (a := 52) 68 (dk D_X13_raiseIn 40 rfl) fl_13_219 (by decide) (by decide) rfl (fun _ => rfl) rfl ?_
    refine A_p (fun T Q _ _ k => V_iload_n (pc2 := 66) (dk D_X13_raiseIn 41 rfl) rfl (V_lg 3 rfl) rfl k) ?_
    obtain ⟨h18, h⟩ := h
    refine A_ild (pc2 := 67) 68 (dk D_X13_raiseIn 42 rfl) rfl (by decide) rfl (by decide) rfl rfl h18 ?_
    refine A_p (fun T Q _ _ k => V_iadd (pc2 := 68) (dk D_X13_raiseIn 43 rfl) rfl k) ?_
    refine A_p (fun T Q _ _ k => V_iconst (x := 1) (pc2 := 69) (dk D_X13_raiseIn 44 rfl) (by decide) rfl k) ?_
    refine A_p (fun T Q _ _ k => V_isub (pc2 := 70) (dk D_X13_raiseIn 45 rfl) rfl k) ?_
    refine A_p (fun T Q _ _ k => V_istore (pc2 := 72) (lv2 := [(0, _), (1, _), (2, _), (3, _), (4, _), (5, _)]) (dk D_X13_raiseIn 46 rfl) (by decide) rfl rfl k) ?_
    refine A_p (fun T Q _ _ k => V_aload_n (pc2 := 73) (dk D_X13_raiseIn 47 rfl) rfl (V_lg 0 rfl) rfl k) ?_
    refine A_ar (pc2 := 76) (a := 53) 69 (dk D_X13_raiseIn 48 rfl) fl_13_222 (by decide) (by decide) rfl (fun _ => rfl) rfl ?_
    refine A_p (fun T Q _ _ k => V_iload (pc2 := 78) (dk D_X13_raiseIn 49 rfl) (V_lg 5 rfl) rfl k) ?_
    obtain ⟨h19, h⟩ := h
    refine A_ild (pc2 := 79) 69 (dk D_X13_raiseIn 50 rfl) rfl (by decide) rfl (by decide) rfl rfl h19 ?_
    refine A_p (fun T Q _ _ k => V_istore (pc2 := 81) (lv2 := [(0, _), (1, _), (2, _), (3, _), (4, _), (5, _), (6, _)]) (dk D_X13_raiseIn 51 rfl) (by decide) rfl rfl k) ?_
    refine A_p (fun T Q _ _ k => V_aload_n (pc2 := 82) (dk D_X13_raiseIn 52 rfl) rfl (V_lg 0 rfl) rfl k) ?_
    refine A_ar (pc2 := 85) (a := 54) 70 (dk D_X13_raiseIn 53 rfl) fl_13_225 (by decide) (by decide) rfl (fun _ => rfl) rfl ?_
    refine A_p (fun T Q _ _ k => V_iload (pc2 := 87) (dk D_X13_raiseIn 54 rfl) (V_lg 5 rfl) rfl k) ?_
    obtain ⟨h20, h⟩ := h
    refine A_ild (pc2 := 88) 70 (dk D_X13_raiseIn 55 rfl) rfl (by decide) rfl (by decide) rfl rfl h20 ?_
    refine A_if (pa := 91) (pb := 105) (fun T Q k1 k2 => V_ifne (tgt := 105) (pc2 := 91) (dk D_X13_raiseIn 56 rfl) (by decide) rfl (fun q => k2 q) (fun q => k1 q)) (fun q21 => ?_) (fun q21 => ?_)
    · have h := h.1 q21
      refine A_p (fun T Q _ _ k => V_aload_n (pc2 := 92) (dk D_X13_raiseIn 57 rfl) rfl (V_lg 0 rfl) rfl k) ?_
      refine A_p (fun T Q _ _ k => V_iload_n (pc2 := 93) (dk D_X13_raiseIn 58 rfl) rfl (V_lg 1 rfl) rfl k) ?_
      refine A_p (fun T Q _ _ k => V_iload (pc2 := 95) (dk D_X13_raiseIn 59 rfl) (V_lg 4 rfl) rfl k) ?_
      refine A_p (fun T Q _ _ k => V_iload (pc2 := 97) (dk D_X13_raiseIn 60 rfl) (V_lg 5 rfl) rfl k) ?_
      refine A_p (fun T Q _ _ k => V_iload_n (pc2 := 98) (dk D_X13_raiseIn 61 rfl) rfl (V_lg 2 rfl) rfl k) ?_
      obtain ⟨e22, he23, hc24⟩ := h
      refine A_call (st := []) (pc2 := 101) (fun T Q Qc L hc k => V_callV (as := [_, _, _, _]) (st := []) (M' := MX13_isCaught) (ci := 13) (pc2 := 101) (dk D_X13_raiseIn 62 rfl) ml_13_535 mv_X13_isCaught rfl rfl (by decide) rfl (Nat.le_of_ble_eq_true rfl) rfl he23 L.2.1 hc k) hc24 (aRI.k fun y25 s26 h => ?_)
      refine A_if (pa := 105) (pb := 104) (fun T Q k1 k2 => V_ifeq (tgt := 105) (pc2 := 104) (dk D_X13_raiseIn 63 rfl) (by decide) rfl (fun q => k1 q) (fun q => k2 q)) (fun q27 => ?_) (fun q27 => ?_)
      · have h := h.1 q27
        exact h
      · have h := h.2 q27
        exact A_ret (fun T Q _ k => V_return (dk D_X13_raiseIn 64 rfl) rfl k) h
    · have h := h.2 q21
      exact h
theorem a_raiseIn_105 {X : Cx} {b d : Nat} {σ : Rm} {Q : Res → Rm → Prop} (x1 : Int32) (x2 : Int32) (x3 : Int32) (x4 : Int32) (x5 : Int32) (x6 : Int32) (h : (vp_in x5 18000) ∧ ((2 ≤ (aI σ 70 (x5 : Int32).toNatClampNeg) → A X b d MX13_raiseIn 136 [(0, vR b), (1, vI x1), (2, vI x2), (3, vI x3), (4, vI x4), (5, vI x5), (6, vI x6)] [] σ Q) ∧ (¬ 2 ≤ (aI σ 70 (x5 : Int32).toNatClampNeg) → (vp_in x6 1000) ∧ (((aI σ 27 (x6 : Int32).toNatClampNeg) < 0 → A X b d MX13_raiseIn 136 [(0, vR b), (1, vI x1), (2, vI x2), (3, vI x3), (4, vI x4), (5, vI x5), (6, vI x6)] [] σ Q) ∧ (¬ (aI σ 27 (x6 : Int32).toNatClampNeg) < 0 → ∃ e5 : Nat, e5 + 1 ≤ d ∧ AC X b e5 MX13_finishes [vR b, vI x1, vI x5, vI 1, vI x2] σ (aRV fun  s8 => Q (.inl none) s8)))))) : A X b d MX13_raiseIn 105 [(0, vR b), (1, vI x1), (2, vI x2), (3, vI x3), (4, vI x4), (5, vI x5), (6, vI x6)] [] σ Q := by
  refine A_p (fun T Q _ _ k => V_aload_n (pc2 := 106) (dk D_X13_raiseIn 65 rfl) rfl (V_lg 0 rfl) rfl k) ?_
  refine A_ar (pc2 := 109) (a := 54) 70 (dk D_X13_raiseIn 66 rfl) fl_13_225 (by decide) (by decide) rfl (fun _ => rfl) rfl ?_
  refine A_p (fun T Q _ _ k => V_iload (pc2 := 111) (dk D_X13_raiseIn 67 rfl) (V_lg 5 rfl) rfl k) ?_
  obtain ⟨h1, h⟩ := h
  refine A_ild (pc2 := 112) 70 (dk D_X13_raiseIn 68 rfl) rfl (by decide) rfl (by decide) rfl rfl h1 ?_
  refine A_p (fun T Q _ _ k => V_iconst (x := 2) (pc2 := 113) (dk D_X13_raiseIn 69 rfl) (by decide) rfl k) ?_
  refine A_if (pa := 136) (pb := 116) (fun T Q k1 k2 => V_cmpge (tgt := 136) (pc2 := 116) (dk D_X13_raiseIn 70 rfl) (by decide) rfl (fun q => k1 q) (fun q => k2 q)) (fun q2 => ?_) (fun q2 => ?_)
  · have h := h.1 q2
    exact h
  · have h := h.2 q2
    refine A_p (fun T Q _ _ k => V_aload_n (pc2 := 117) (dk D_X13_raiseIn 71 rfl) rfl (V_lg 0 rfl) rfl k) ?_
    refine A_ar (pc2 := 120) (a := 21) 27 (dk D_X13_raiseIn 72 rfl) fl_13_125 (by decide) (by decide) rfl (fun _ => rfl) rfl ?_
    refine A_p (fun T Q _ _ k => V_iload (pc2 := 122) (dk D_X13_raiseIn 73 rfl) (V_lg 6 rfl) rfl k) ?_
    obtain ⟨h3, h⟩ := h
    refine A_ild (pc2 := 123) 27 (dk D_X13_raiseIn 74 rfl) rfl (by decide) rfl (by decide) rfl rfl h3 ?_
    refine A_if (pa := 136) (pb := 126) (fun T Q k1 k2 => V_iflt (tgt := 136) (pc2 := 126) (dk D_X13_raiseIn 75 rfl) (by decide) rfl (fun q => k1 q) (fun q => k2 q)) (fun q4 => ?_) (fun q4 => ?_)
    · have h := h.1 q4
      exact h
    · have h := h.2 q4
      refine A_p (fun T Q _ _ k => V_aload_n (pc2 := 127) (dk D_X13_raiseIn 76 rfl) rfl (V_lg 0 rfl) rfl k) ?_
      refine A_p (fun T Q _ _ k => V_iload_n (pc2 := 128) (dk D_X13_raiseIn 77 rfl) rfl (V_lg 1 rfl) rfl k) ?_
      refine A_p (fun T Q _ _ k => V_iload (pc2 := 130) (dk D_X13_raiseIn 78 rfl) (V_lg 5 rfl) rfl k) ?_
      refine A_p (fun T Q _ _ k => V_iconst (x := 1) (pc2 := 131) (dk D_X13_raiseIn 79 rfl) (by decide) rfl k) ?_
      refine A_p (fun T Q _ _ k => V_iload_n (pc2 := 132) (dk D_X13_raiseIn 80 rfl) rfl (V_lg 2 rfl) rfl k) ?_
      obtain ⟨e5, he6, hc7⟩ := h
      refine A_call (st := []) (pc2 := 135) (fun T Q Qc L hc k => V_callV (as := [_, _, _, _]) (st := []) (M' := MX13_finishes) (ci := 13) (pc2 := 135) (dk D_X13_raiseIn 81 rfl) ml_13_539 mv_X13_finishes rfl rfl (by decide) rfl (Nat.le_of_ble_eq_true rfl) rfl he6 L.2.1 hc k) hc7 (aRV.k fun  s8 h => ?_)
      exact A_ret (fun T Q _ k => V_return (dk D_X13_raiseIn 82 rfl) rfl k) h
theorem a_raiseIn_136 {X : Cx} {b d : Nat} {σ : Rm} {Q : Res → Rm → Prop} (x1 : Int32) (x2 : Int32) (x3 : Int32) (x4 : Int32) (x5 : Int32) (x6 : Int32) (h : (vp_in x5 18000) ∧ (((aI σ 70 (x5 : Int32).toNatClampNeg) = 2 → (vp_in x5 18000) ∧ (((aI σ 71 (x5 : Int32).toNatClampNeg) = 1 → (vp_in x5 18000) ∧ ∃ e6 : Nat, e6 + 1 ≤ d ∧ AC X b e6 MX13_beneath [vR b, vI (aI σ 72 (x5 : Int32).toNatClampNeg), vI x2] σ (aRV fun  s9 => A X b d MX13_raiseIn 170 [(0, vR b), (1, vI x1), (2, vI x2), (3, vI x3), (4, vI x4), (5, vI x5), (6, vI x6)] [] s9 Q)) ∧ (¬ (aI σ 71 (x5 : Int32).toNatClampNeg) = 1 → A X b d MX13_raiseIn 170 [(0, vR b), (1, vI x1), (2, vI x2), (3, vI x3), (4, vI x4), (5, vI x5), (6, vI x6)] [] σ Q))) ∧ (¬ (aI σ 70 (x5 : Int32).toNatClampNeg) = 2 → A X b d MX13_raiseIn 170 [(0, vR b), (1, vI x1), (2, vI x2), (3, vI x3), (4, vI x4), (5, vI x5), (6, vI x6)] [] σ Q))) : A X b d MX13_raiseIn 136 [(0, vR b), (1, vI x1), (2, vI x2), (3, vI x3), (4, vI x4), (5, vI x5), (6, vI x6)] [] σ Q := by
  refine A_p (fun T Q _ _ k => V_aload_n (pc2 := 137) (dk D_X13_raiseIn 83 rfl) rfl (V_lg 0 rfl) rfl k) ?_
  refine A_ar (pc2 := 140) (a := 54) 70 (dk D_X13_raiseIn 84 rfl) fl_13_225 (by decide) (by decide) rfl (fun _ => rfl) rfl ?_
  refine A_p (fun T Q _ _ k => V_iload (pc2 := 142) (dk D_X13_raiseIn 85 rfl) (V_lg 5 rfl) rfl k) ?_
  obtain ⟨h1, h⟩ := h
  refine A_ild (pc2 := 143) 70 (dk D_X13_raiseIn 86 rfl) rfl (by decide) rfl (by decide) rfl rfl h1 ?_
  refine A_p (fun T Q _ _ k => V_iconst (x := 2) (pc2 := 144) (dk D_X13_raiseIn 87 rfl) (by decide) rfl k) ?_
  refine A_if (pa := 147) (pb := 170) (fun T Q k1 k2 => V_cmpne (tgt := 170) (pc2 := 147) (dk D_X13_raiseIn 88 rfl) (by decide) rfl (fun q => k2 q) (fun q => k1 q)) (fun q2 => ?_) (fun q2 => ?_)
  · have h := h.1 q2
    refine A_p (fun T Q _ _ k => V_aload_n (pc2 := 148) (dk D_X13_raiseIn 89 rfl) rfl (V_lg 0 rfl) rfl k) ?_
    refine A_ar (pc2 := 151) (a := 55) 71 (dk D_X13_raiseIn 90 rfl) fl_13_228 (by decide) (by decide) rfl (fun _ => rfl) rfl ?_
    refine A_p (fun T Q _ _ k => V_iload (pc2 := 153) (dk D_X13_raiseIn 91 rfl) (V_lg 5 rfl) rfl k) ?_
    obtain ⟨h3, h⟩ := h
    refine A_ild (pc2 := 154) 71 (dk D_X13_raiseIn 92 rfl) rfl (by decide) rfl (by decide) rfl rfl h3 ?_
    refine A_p (fun T Q _ _ k => V_iconst (x := 1) (pc2 := 155) (dk D_X13_raiseIn 93 rfl) (by decide) rfl k) ?_
    refine A_if (pa := 158) (pb := 170) (fun T Q k1 k2 => V_cmpne (tgt := 170) (pc2 := 158) (dk D_X13_raiseIn 94 rfl) (by decide) rfl (fun q => k2 q) (fun q => k1 q)) (fun q4 => ?_) (fun q4 => ?_)
    · have h := h.1 q4
      refine A_p (fun T Q _ _ k => V_aload_n (pc2 := 159) (dk D_X13_raiseIn 95 rfl) rfl (V_lg 0 rfl) rfl k) ?_
      refine A_p (fun T Q _ _ k => V_aload_n (pc2 := 160) (dk D_X13_raiseIn 96 rfl) rfl (V_lg 0 rfl) rfl k) ?_
      refine A_ar (pc2 := 163) (a := 56) 72 (dk D_X13_raiseIn 97 rfl) fl_13_231 (by decide) (by decide) rfl (fun _ => rfl) rfl ?_
      refine A_p (fun T Q _ _ k => V_iload (pc2 := 165) (dk D_X13_raiseIn 98 rfl) (V_lg 5 rfl) rfl k) ?_
      obtain ⟨h5, h⟩ := h
      refine A_ild (pc2 := 166) 72 (dk D_X13_raiseIn 99 rfl) rfl (by decide) rfl (by decide) rfl rfl h5 ?_
      refine A_p (fun T Q _ _ k => V_iload_n (pc2 := 167) (dk D_X13_raiseIn 100 rfl) rfl (V_lg 2 rfl) rfl k) ?_
      obtain ⟨e6, he7, hc8⟩ := h
      refine A_call (st := []) (pc2 := 170) (fun T Q Qc L hc k => V_callV (as := [_, _]) (st := []) (M' := MX13_beneath) (ci := 13) (pc2 := 170) (dk D_X13_raiseIn 101 rfl) ml_13_543 mv_X13_beneath rfl rfl (by decide) rfl (Nat.le_of_ble_eq_true rfl) rfl he7 L.2.1 hc k) hc8 (aRV.k fun  s9 h => ?_)
      exact h
    · have h := h.2 q4
      exact h
  · have h := h.2 q2
    exact h
theorem a_raiseIn_170 {X : Cx} {b d : Nat} {σ : Rm} {Q : Res → Rm → Prop} (x1 : Int32) (x2 : Int32) (x3 : Int32) (x4 : Int32) (x5 : Int32) (x6 : Int32) (h : (vp_in x3 12) ∧ (vp_in x3 12) ∧ ∀ s3 : Rm, s3 = wI σ 68 ((x3 : Int32).toNatClampNeg) ((aI σ 68 (x3 : Int32).toNatClampNeg) - 1) → A X b d MX13_raiseIn 7 [(0, vR b), (1, vI x1), (2, vI x2), (3, vI x3)] [] s3 Q) : A X b d MX13_raiseIn 170 [(0, vR b), (1, vI x1), (2, vI x2), (3, vI x3), (4, vI x4), (5, vI x5), (6, vI x6)] [] σ Q := by
  refine A_p (fun T Q _ _ k => V_aload_n (pc2 := 171) (dk D_X13_raiseIn 102 rfl) rfl (V_lg 0 rfl) rfl k) ?_
  refine A_ar (pc2 := 174) (a := 52) 68 (dk D_X13_raiseIn 103 rfl) fl_13_219 (by decide) (by decide) rfl (fun _ => rfl) rfl ?_
  refine A_p (fun T Q _ _ k => V_iload_n (pc2 := 175) (dk D_X13_raiseIn 104 rfl) rfl (V_lg 3 rfl) rfl k) ?_
  refine A_p (fun T Q _ _ k => V_dup2 (pc2 := 176) (dk D_X13_raiseIn 105 rfl) rfl rfl rfl k) ?_
  obtain ⟨h1, h⟩ := h
  refine A_ild (pc2 := 177) 68 (dk D_X13_raiseIn 106 rfl) rfl (by decide) rfl (by decide) rfl rfl h1 ?_
  refine A_p (fun T Q _ _ k => V_iconst (x := 1) (pc2 := 178) (dk D_X13_raiseIn 107 rfl) (by decide) rfl k) ?_
  refine A_p (fun T Q _ _ k => V_isub (pc2 := 179) (dk D_X13_raiseIn 108 rfl) rfl k) ?_
  obtain ⟨h2, h⟩ := h
  refine A_ist (pc2 := 180) 68 (dk D_X13_raiseIn 109 rfl) rfl (by decide) rfl (by decide) rfl rfl h2 ?_
  have h := h _ rfl
  refine A_p (fun T Q _ _ k => V_goto (tgt := 7) (dk D_X13_raiseIn 110 rfl) (by decide) k) ?_
  refine A_p (fun T Q _ _ k => V_pick [0, 1, 2, 3] (lv2 := [(0, _), (1, _), (2, _), (3, _)]) rfl k) ?_
  exact h
theorem a_raise_0 {X : Cx} {b d : Nat} {σ : Rm} {Q : Res → Rm → Prop} (x1 : Int32) (x2 : Int32) (h : ∃ e1 : Nat, e1 + 1 ≤ d ∧ AC X b e1 MX13_raiseIn [vR b, vI x1, vI x2] σ (aRV fun  s4 => Q (.inl none) s4)) : A X b d MX13_raise 0 [(0, vR b), (1, vI x1), (2, vI x2)] [] σ Q := by
  refine A_p (fun T Q _ _ k => V_aload_n (pc2 := 1) (dk D_X13_raise 0 rfl) rfl (V_lg 0 rfl) rfl k) ?_
  refine A_p (fun T Q _ _ k => V_iload_n (pc2 := 2) (dk D_X13_raise 1 rfl) rfl (V_lg 1 rfl) rfl k) ?_
  refine A_p (fun T Q _ _ k => V_iload_n (pc2 := 3) (dk D_X13_raise 2 rfl) rfl (V_lg 2 rfl) rfl k) ?_
  obtain ⟨e1, he2, hc3⟩ := h
  refine A_call (st := []) (pc2 := 6) (fun T Q Qc L hc k => V_callS (as := [_, _, _]) (st := []) (M' := MX13_raiseIn) (pc2 := 6) (dk D_X13_raise 3 rfl) ml_13_546 mv_X13_raiseIn rfl rfl (Nat.le_of_ble_eq_true rfl) rfl he2 hc k) hc3 (aRV.k fun  s4 h => ?_)
  exact A_ret (fun T Q _ k => V_return (dk D_X13_raise 4 rfl) rfl k) h
theorem a_beneath_0 {X : Cx} {b d : Nat} {σ : Rm} {Q : Res → Rm → Prop} (x1 : Int32) (x2 : Int32) (h : (vp_in x2 8000) ∧ (((aI σ 94 (x2 : Int32).toNatClampNeg) = (-9) → (vp_in x2 8000) ∧ ∀ s4 : Rm, s4 = wI σ 94 ((x2 : Int32).toNatClampNeg) x1 → A X b d MX13_beneath 33 [(0, vR b), (1, vI x1), (2, vI x2)] [] s4 Q) ∧ (¬ (aI σ 94 (x2 : Int32).toNatClampNeg) = (-9) → (vp_in x2 8000) ∧ (vp_in (aI σ 95 (x2 : Int32).toNatClampNeg) 8000) ∧ ∀ s7 : Rm, s7 = wI σ 96 (((aI σ 95 (x2 : Int32).toNatClampNeg) : Int32).toNatClampNeg) x1 → A X b d MX13_beneath 33 [(0, vR b), (1, vI x1), (2, vI x2)] [] s7 Q))) : A X b d MX13_beneath 0 [(0, vR b), (1, vI x1), (2, vI x2)] [] σ Q := by
  refine A_p (fun T Q _ _ k => V_aload_n (pc2 := 1) (dk D_X13_beneath 0 rfl) rfl (V_lg 0 rfl) rfl k) ?_
  refine A_ar (pc2 := 4) (a := 69) 94 (dk D_X13_beneath 1 rfl) fl_13_271 (by decide) (by decide) rfl (fun _ => rfl) rfl ?_
  refine A_p (fun T Q _ _ k => V_iload_n (pc2 := 5) (dk D_X13_beneath 2 rfl) rfl (V_lg 2 rfl) rfl k) ?_
  obtain ⟨h1, h⟩ := h
  refine A_ild (pc2 := 6) 94 (dk D_X13_beneath 3 rfl) rfl (by decide) rfl (by decide) rfl rfl h1 ?_
  refine A_p (fun T Q _ _ k => V_bipush (x := (-9)) (pc2 := 8) (dk D_X13_beneath 4 rfl) (by decide) rfl k) ?_
  refine A_if (pa := 11) (pb := 21) (fun T Q k1 k2 => V_cmpne (tgt := 21) (pc2 := 11) (dk D_X13_beneath 5 rfl) (by decide) rfl (fun q => k2 q) (fun q => k1 q)) (fun q2 => ?_) (fun q2 => ?_)
  · have h := h.1 q2
    refine A_p (fun T Q _ _ k => V_aload_n (pc2 := 12) (dk D_X13_beneath 6 rfl) rfl (V_lg 0 rfl) rfl k) ?_
    refine A_ar (pc2 := 15) (a := 69) 94 (dk D_X13_beneath 7 rfl) fl_13_271 (by decide) (by decide) rfl (fun _ => rfl) rfl ?_
    refine A_p (fun T Q _ _ k => V_iload_n (pc2 := 16) (dk D_X13_beneath 8 rfl) rfl (V_lg 2 rfl) rfl k) ?_
    refine A_p (fun T Q _ _ k => V_iload_n (pc2 := 17) (dk D_X13_beneath 9 rfl) rfl (V_lg 1 rfl) rfl k) ?_
    obtain ⟨h3, h⟩ := h
    refine A_ist (pc2 := 18) 94 (dk D_X13_beneath 10 rfl) rfl (by decide) rfl (by decide) rfl rfl h3 ?_
    have h := h _ rfl
    refine A_p (fun T Q _ _ k => V_goto (tgt := 33) (dk D_X13_beneath 11 rfl) (by decide) k) ?_
    exact h
  · have h := h.2 q2
    refine A_p (fun T Q _ _ k => V_aload_n (pc2 := 22) (dk D_X13_beneath 12 rfl) rfl (V_lg 0 rfl) rfl k) ?_
    refine A_ar (pc2 := 25) (a := 71) 96 (dk D_X13_beneath 13 rfl) fl_13_277 (by decide) (by decide) rfl (fun _ => rfl) rfl ?_
    refine A_p (fun T Q _ _ k => V_aload_n (pc2 := 26) (dk D_X13_beneath 14 rfl) rfl (V_lg 0 rfl) rfl k) ?_
    refine A_ar (pc2 := 29) (a := 70) 95 (dk D_X13_beneath 15 rfl) fl_13_274 (by decide) (by decide) rfl (fun _ => rfl) rfl ?_
    refine A_p (fun T Q _ _ k => V_iload_n (pc2 := 30) (dk D_X13_beneath 16 rfl) rfl (V_lg 2 rfl) rfl k) ?_
    obtain ⟨h5, h⟩ := h
    refine A_ild (pc2 := 31) 95 (dk D_X13_beneath 17 rfl) rfl (by decide) rfl (by decide) rfl rfl h5 ?_
    refine A_p (fun T Q _ _ k => V_iload_n (pc2 := 32) (dk D_X13_beneath 18 rfl) rfl (V_lg 1 rfl) rfl k) ?_
    obtain ⟨h6, h⟩ := h
    refine A_ist (pc2 := 33) 96 (dk D_X13_beneath 19 rfl) rfl (by decide) rfl (by decide) rfl rfl h6 ?_
    have h := h _ rfl
    exact h
theorem a_beneath_33 {X : Cx} {b d : Nat} {σ : Rm} {Q : Res → Rm → Prop} (x1 : Int32) (x2 : Int32) (h : (vp_in x2 8000) ∧ ∀ s2 : Rm, s2 = wI σ 95 ((x2 : Int32).toNatClampNeg) x1 → Q (.inl none) s2) : A X b d MX13_beneath 33 [(0, vR b), (1, vI x1), (2, vI x2)] [] σ Q := by
  refine A_p (fun T Q _ _ k => V_aload_n (pc2 := 34) (dk D_X13_beneath 20 rfl) rfl (V_lg 0 rfl) rfl k) ?_
  refine A_ar (pc2 := 37) (a := 70) 95 (dk D_X13_beneath 21 rfl) fl_13_274 (by decide) (by decide) rfl (fun _ => rfl) rfl ?_
  refine A_p (fun T Q _ _ k => V_iload_n (pc2 := 38) (dk D_X13_beneath 22 rfl) rfl (V_lg 2 rfl) rfl k) ?_
  refine A_p (fun T Q _ _ k => V_iload_n (pc2 := 39) (dk D_X13_beneath 23 rfl) rfl (V_lg 1 rfl) rfl k) ?_
  obtain ⟨h1, h⟩ := h
  refine A_ist (pc2 := 40) 95 (dk D_X13_beneath 24 rfl) rfl (by decide) rfl (by decide) rfl rfl h1 ?_
  have h := h _ rfl
  exact A_ret (fun T Q _ k => V_return (dk D_X13_beneath 25 rfl) rfl k) h
theorem a_isCaught_0 {X : Cx} {b d : Nat} {σ : Rm} {Q : Res → Rm → Prop} (x1 : Int32) (x2 : Int32) (x3 : Int32) (x4 : Int32) (h : A X b d MX13_isCaught 3 [(0, vR b), (1, vI x1), (2, vI x2), (3, vI x3), (4, vI x4), (5, vI 0)] [] σ Q) : A X b d MX13_isCaught 0 [(0, vR b), (1, vI x1), (2, vI x2), (3, vI x3), (4, vI x4)] [] σ Q := by
  refine A_p (fun T Q _ _ k => V_iconst (x := 0) (pc2 := 1) (dk D_X13_isCaught 0 rfl) (by decide) rfl k) ?_
  refine A_p (fun T Q _ _ k => V_istore (pc2 := 3) (lv2 := [(0, _), (1, _), (2, _), (3, _), (4, _), (5, _)]) (dk D_X13_isCaught 1 rfl) (by decide) rfl rfl k) ?_
  exact h
theorem a_isCaught_3 {X : Cx} {b d : Nat} {σ : Rm} {Q : Res → Rm → Prop} (x1 : Int32) (x2 : Int32) (x3 : Int32) (x4 : Int32) (x5 : Int32) (h : (((sI σ 34) ≤ x5 → Q (.inl (some (vI 0))) σ) ∧ (¬ (sI σ 34) ≤ x5 → (vp_in x5 1000) ∧ (vp_in x3 18000) ∧ (((aI σ 45 (x5 : Int32).toNatClampNeg) = (aI σ 69 (x3 : Int32).toNatClampNeg) → (vp_in x4 8000) ∧ (((aI σ 89 (x4 : Int32).toNatClampNeg) = 14 → A X b d MX13_isCaught 73 [(0, vR b), (1, vI x1), (2, vI x2), (3, vI x3), (4, vI x4), (5, vI x5)] [] σ Q) ∧ (¬ (aI σ 89 (x4 : Int32).toNatClampNeg) = 14 → (vp_in x5 1000) ∧ (((aI σ 30 (x5 : Int32).toNatClampNeg) = (-9) → A X b d MX13_isCaught 69 [(0, vR b), (1, vI x1), (2, vI x2), (3, vI x3), (4, vI x4), (5, vI x5)] [] σ Q) ∧ (¬ (aI σ 30 (x5 : Int32).toNatClampNeg) = (-9) → (vp_in x5 1000) ∧ (vp_in x4 8000) ∧ (((aI σ 30 (x5 : Int32).toNatClampNeg) = (aI σ 89 (x4 : Int32).toNatClampNeg) → A X b d MX13_isCaught 69 [(0, vR b), (1, vI x1), (2, vI x2), (3, vI x3), (4, vI x4), (5, vI x5)] [] σ Q) ∧ (¬ (aI σ 30 (x5 : Int32).toNatClampNeg) = (aI σ 89 (x4 : Int32).toNatClampNeg) → A X b d MX13_isCaught 73 [(0, vR b), (1, vI x1), (2, vI x2), (3, vI x3), (4, vI x4), (5, vI x5)] [] σ Q))))))) ∧ (¬ (aI σ 45 (x5 : Int32).toNatClampNeg) = (aI σ 69 (x3 : Int32).toNatClampNeg) → A X b d MX13_isCaught 73 [(0, vR b), (1, vI x1), (2, vI x2), (3, vI x3), (4, vI x4), (5, vI x5)] [] σ Q))))) : A X b d MX13_isCaught 3 [(0, vR b), (1, vI x1), (2, vI x2), (3, vI x3), (4, vI x4), (5, vI x5)] [] σ Q := by
  refine A_p (fun T Q _ _ k => V_iload (pc2 := 5) (dk D_X13_isCaught 2 rfl) (V_lg 5 rfl) rfl k) ?_
  refine A_p (fun T Q _ _ k => V_aload_n (pc2 := 6) (dk D_X13_isCaught 3 rfl) rfl (V_lg 0 rfl) rfl k) ?_
  refine A_sc (pc2 := 9) 34 (dk D_X13_isCaught 4 rfl) fl_13_416 (by decide) rfl (fun _ => rfl) rfl ?_
  refine A_if (pa := 169) (pb := 12) (fun T Q k1 k2 => V_cmpge (tgt := 169) (pc2 := 12) (dk D_X13_isCaught 5 rfl) (by decide) rfl (fun q => k1 q) (fun q => k2 q)) (fun q1 => ?_) (fun q1 => ?_)
  · have h := h.1 q1
    refine A_p (fun T Q _ _ k => V_iconst (x := 0) (pc2 := 170) (dk D_X13_isCaught 97 rfl) (by decide) rfl k) ?_
    exact A_ret (fun T Q _ k => V_zreturn (dk D_X13_isCaught 98 rfl) rfl (Or.inl rfl) k) h
  · have h := h.2 q1
    refine A_p (fun T Q _ _ k => V_aload_n (pc2 := 13) (dk D_X13_isCaught 6 rfl) rfl (V_lg 0 rfl) rfl k) ?_
    refine A_ar (pc2 := 16) (a := 32) 45 (dk D_X13_isCaught 7 rfl) fl_13_158 (by decide) (by decide) rfl (fun _ => rfl) rfl ?_
    refine A_p (fun T Q _ _ k => V_iload (pc2 := 18) (dk D_X13_isCaught 8 rfl) (V_lg 5 rfl) rfl k) ?_
    obtain ⟨h2, h⟩ := h
    refine A_ild (pc2 := 19) 45 (dk D_X13_isCaught 9 rfl) rfl (by decide) rfl (by decide) rfl rfl h2 ?_
    refine A_p (fun T Q _ _ k => V_aload_n (pc2 := 20) (dk D_X13_isCaught 10 rfl) rfl (V_lg 0 rfl) rfl k) ?_
    refine A_ar (pc2 := 23) (a := 53) 69 (dk D_X13_isCaught 11 rfl) fl_13_222 (by decide) (by decide) rfl (fun _ => rfl) rfl ?_
    refine A_p (fun T Q _ _ k => V_iload_n (pc2 := 24) (dk D_X13_isCaught 12 rfl) rfl (V_lg 3 rfl) rfl k) ?_
    obtain ⟨h3, h⟩ := h
    refine A_ild (pc2 := 25) 69 (dk D_X13_isCaught 13 rfl) rfl (by decide) rfl (by decide) rfl rfl h3 ?_
    refine A_if (pa := 28) (pb := 73) (fun T Q k1 k2 => V_cmpne (tgt := 73) (pc2 := 28) (dk D_X13_isCaught 14 rfl) (by decide) rfl (fun q => k2 q) (fun q => k1 q)) (fun q4 => ?_) (fun q4 => ?_)
    · have h := h.1 q4
      refine A_p (fun T Q _ _ k => V_aload_n (pc2 := 29) (dk D_X13_isCaught 15 rfl) rfl (V_lg 0 rfl) rfl k) ?_
      refine A_ar (pc2 := 32) (a := 64) 89 (dk D_X13_isCaught 16 rfl) fl_13_256 (by decide) (by decide) rfl (fun _ => rfl) rfl ?_
      refine A_p (fun T Q _ _ k => V_iload (pc2 := 34) (dk D_X13_isCaught 17 rfl) (V_lg 4 rfl) rfl k) ?_
      obtain ⟨h5, h⟩ := h
      refine A_ild (pc2 := 35) 89 (dk D_X13_isCaught 18 rfl) rfl (by decide) rfl (by decide) rfl rfl h5 ?_
      refine A_p (fun T Q _ _ k => V_bipush (x := 14) (pc2 := 37) (dk D_X13_isCaught 19 rfl) (by decide) rfl k) ?_
      refine A_if (pa := 73) (pb := 40) (fun T Q k1 k2 => V_cmpeq (tgt := 73) (pc2 := 40) (dk D_X13_isCaught 20 rfl) (by decide) rfl (fun q => k1 q) (fun q => k2 q)) (fun q6 => ?_) (fun q6 => ?_)
      · have h := h.1 q6
        exact h
      · have h := h.2 q6
        refine A_p (fun T Q _ _ k => V_aload_n (pc2 := 41) (dk D_X13_isCaught 21 rfl) rfl (V_lg 0 rfl) rfl k) ?_
        refine A_ar (pc2 := 44) (a := 23) 30 (dk D_X13_isCaught 22 rfl) fl_13_131 (by decide) (by decide) rfl (fun _ => rfl) rfl ?_
        refine A_p (fun T Q _ _ k => V_iload (pc2 := 46) (dk D_X13_isCaught 23 rfl) (V_lg 5 rfl) rfl k) ?_
        obtain ⟨h7, h⟩ := h
        refine A_ild (pc2 := 47) 30 (dk D_X13_isCaught 24 rfl) rfl (by decide) rfl (by decide) rfl rfl h7 ?_
        refine A_p (fun T Q _ _ k => V_bipush (x := (-9)) (pc2 := 49) (dk D_X13_isCaught 25 rfl) (by decide) rfl k) ?_
        refine A_if (pa := 69) (pb := 52) (fun T Q k1 k2 => V_cmpeq (tgt := 69) (pc2 := 52) (dk D_X13_isCaught 26 rfl) (by decide) rfl (fun q => k1 q) (fun q => k2 q)) (fun q8 => ?_) (fun q8 => ?_)
        · have h := h.1 q8
          exact h
        · have h := h.2 q8
          refine A_p (fun T Q _ _ k => V_aload_n (pc2 := 53) (dk D_X13_isCaught 27 rfl) rfl (V_lg 0 rfl) rfl k) ?_
          refine A_ar (pc2 := 56) (a := 23) 30 (dk D_X13_isCaught 28 rfl) fl_13_131 (by decide) (by decide) rfl (fun _ => rfl) rfl ?_
          refine A_p (fun T Q _ _ k => V_iload (pc2 := 58) (dk D_X13_isCaught 29 rfl) (V_lg 5 rfl) rfl k) ?_
          obtain ⟨h9, h⟩ := h
          refine A_ild (pc2 := 59) 30 (dk D_X13_isCaught 30 rfl) rfl (by decide) rfl (by decide) rfl rfl h9 ?_
          refine A_p (fun T Q _ _ k => V_aload_n (pc2 := 60) (dk D_X13_isCaught 31 rfl) rfl (V_lg 0 rfl) rfl k) ?_
          refine A_ar (pc2 := 63) (a := 64) 89 (dk D_X13_isCaught 32 rfl) fl_13_256 (by decide) (by decide) rfl (fun _ => rfl) rfl ?_
          refine A_p (fun T Q _ _ k => V_iload (pc2 := 65) (dk D_X13_isCaught 33 rfl) (V_lg 4 rfl) rfl k) ?_
          obtain ⟨h10, h⟩ := h
          refine A_ild (pc2 := 66) 89 (dk D_X13_isCaught 34 rfl) rfl (by decide) rfl (by decide) rfl rfl h10 ?_
          refine A_if (pa := 69) (pb := 73) (fun T Q k1 k2 => V_cmpne (tgt := 73) (pc2 := 69) (dk D_X13_isCaught 35 rfl) (by decide) rfl (fun q => k2 q) (fun q => k1 q)) (fun q11 => ?_) (fun q11 => ?_)
          · have h := h.1 q11
            exact h
          · have h := h.2 q11
            exact h
    · have h := h.2 q4
      exact h
theorem a_isCaught_69 {X : Cx} {b d : Nat} {σ : Rm} {Q : Res → Rm → Prop} (x1 : Int32) (x2 : Int32) (x3 : Int32) (x4 : Int32) (x5 : Int32) (h : A X b d MX13_isCaught 74 [(0, vR b), (1, vI x1), (2, vI x2), (3, vI x3), (4, vI x4), (5, vI x5)] [vI 1] σ Q) : A X b d MX13_isCaught 69 [(0, vR b), (1, vI x1), (2, vI x2), (3, vI x3), (4, vI x4), (5, vI x5)] [] σ Q := by
  refine A_p (fun T Q _ _ k => V_iconst (x := 1) (pc2 := 70) (dk D_X13_isCaught 36 rfl) (by decide) rfl k) ?_
  refine A_p (fun T Q _ _ k => V_goto (tgt := 74) (dk D_X13_isCaught 37 rfl) (by decide) k) ?_
  exact h
theorem a_isCaught_73 {X : Cx} {b d : Nat} {σ : Rm} {Q : Res → Rm → Prop} (x1 : Int32) (x2 : Int32) (x3 : Int32) (x4 : Int32) (x5 : Int32) (h : A X b d MX13_isCaught 74 [(0, vR b), (1, vI x1), (2, vI x2), (3, vI x3), (4, vI x4), (5, vI x5)] [vI 0] σ Q) : A X b d MX13_isCaught 73 [(0, vR b), (1, vI x1), (2, vI x2), (3, vI x3), (4, vI x4), (5, vI x5)] [] σ Q := by
  refine A_p (fun T Q _ _ k => V_iconst (x := 0) (pc2 := 74) (dk D_X13_isCaught 38 rfl) (by decide) rfl k) ?_
  exact h
theorem a_isCaught_74 {X : Cx} {b d : Nat} {σ : Rm} {Q : Res → Rm → Prop} (x1 : Int32) (x2 : Int32) (x3 : Int32) (x4 : Int32) (x5 : Int32) (t0 : Int32) (h : ((t0 = 0 → A X b d MX13_isCaught 3 [(0, vR b), (1, vI x1), (2, vI x2), (3, vI x3), (4, vI x4), (5, vI (x5 + 1))] [] σ Q) ∧ (¬ t0 = 0 → (vp_in x3 18000) ∧ ∀ s3 : Rm, s3 = wI σ 70 ((x3 : Int32).toNatClampNeg) 1 → (vp_in x5 1000) ∧ (vp_in x4 8000) ∧ (vp_in ((40 * x2) + (aI s3 31 (x5 : Int32).toNatClampNeg)) 28800) ∧ ∀ s7 : Rm, s7 = wI s3 66 ((((40 * x2) + (aI s3 31 (x5 : Int32).toNatClampNeg)) : Int32).toNatClampNeg) (aI s3 90 (x4 : Int32).toNatClampNeg) → (vp_in x5 1000) ∧ (vp_in ((25 * x2) + (aI s7 33 (x5 : Int32).toNatClampNeg)) 18000) ∧ ∀ s10 : Rm, s10 = wI s7 67 ((((25 * x2) + (aI s7 33 (x5 : Int32).toNatClampNeg)) : Int32).toNatClampNeg) x4 → (vp_in x5 1000) ∧ (vp_in x2 720) ∧ ∀ s13 : Rm, s13 = wI s10 62 ((x2 : Int32).toNatClampNeg) (aI s10 32 (x5 : Int32).toNatClampNeg) → (vp_in x1 61) ∧ (vp_in x2 720) ∧ (vp_in (aI s13 58 (x1 : Int32).toNatClampNeg) 12) ∧ ∀ s17 : Rm, s17 = wI s13 73 (((aI s13 58 (x1 : Int32).toNatClampNeg) : Int32).toNatClampNeg) (aI s13 65 (x2 : Int32).toNatClampNeg) → Q (.inl (some (vI 1))) s17))) : A X b d MX13_isCaught 74 [(0, vR b), (1, vI x1), (2, vI x2), (3, vI x3), (4, vI x4), (5, vI x5)] [vI t0] σ Q := by
  refine A_p (fun T Q _ _ k => V_istore (pc2 := 76) (lv2 := [(0, _), (1, _), (2, _), (3, _), (4, _), (5, _), (6, _)]) (dk D_X13_isCaught 39 rfl) (by decide) rfl rfl k) ?_
  refine A_p (fun T Q _ _ k => V_iload (pc2 := 78) (dk D_X13_isCaught 40 rfl) (V_lg 6 rfl) rfl k) ?_
  refine A_if (pa := 163) (pb := 81) (fun T Q k1 k2 => V_ifeq (tgt := 163) (pc2 := 81) (dk D_X13_isCaught 41 rfl) (by decide) rfl (fun q => k1 q) (fun q => k2 q)) (fun q1 => ?_) (fun q1 => ?_)
  · have h := h.1 q1
    refine A_p (fun T Q _ _ k => V_iinc (y := _ + 1) (pc2 := 166) (lv2 := [(0, _), (1, _), (2, _), (3, _), (4, _), (5, _), (6, _)]) (dk D_X13_isCaught 95 rfl) (V_lg 5 rfl) rfl (by decide) rfl rfl k) ?_
    refine A_p (fun T Q _ _ k => V_goto (tgt := 3) (dk D_X13_isCaught 96 rfl) (by decide) k) ?_
    refine A_p (fun T Q _ _ k => V_pick [0, 1, 2, 3, 4, 5] (lv2 := [(0, _), (1, _), (2, _), (3, _), (4, _), (5, _)]) rfl k) ?_
    exact h
  · have h := h.2 q1
    refine A_p (fun T Q _ _ k => V_aload_n (pc2 := 82) (dk D_X13_isCaught 42 rfl) rfl (V_lg 0 rfl) rfl k) ?_
    refine A_ar (pc2 := 85) (a := 54) 70 (dk D_X13_isCaught 43 rfl) fl_13_225 (by decide) (by decide) rfl (fun _ => rfl) rfl ?_
    refine A_p (fun T Q _ _ k => V_iload_n (pc2 := 86) (dk D_X13_isCaught 44 rfl) rfl (V_lg 3 rfl) rfl k) ?_
    refine A_p (fun T Q _ _ k => V_iconst (x := 1) (pc2 := 87) (dk D_X13_isCaught 45 rfl) (by decide) rfl k) ?_
    obtain ⟨h2, h⟩ := h
    refine A_ist (pc2 := 88) 70 (dk D_X13_isCaught 46 rfl) rfl (by decide) rfl (by decide) rfl rfl h2 ?_
    have h := h _ rfl
    refine A_p (fun T Q _ _ k => V_aload_n (pc2 := 89) (dk D_X13_isCaught 47 rfl) rfl (V_lg 0 rfl) rfl k) ?_
    refine A_ar (pc2 := 92) (a := 50) 66 (dk D_X13_isCaught 48 rfl) fl_13_213 (by decide) (by decide) rfl (fun _ => rfl) rfl ?_
    refine A_p (fun T Q _ _ k => V_bipush (x := 40) (pc2 := 94) (dk D_X13_isCaught 49 rfl) (by decide) rfl k) ?_
    refine A_p (fun T Q _ _ k => V_iload_n (pc2 := 95) (dk D_X13_isCaught 50 rfl) rfl (V_lg 2 rfl) rfl k) ?_
    refine A_p (fun T Q _ _ k => V_imul (pc2 := 96) (dk D_X13_isCaught 51 rfl) rfl k) ?_
    refine A_p (fun T Q _ _ k => V_aload_n (pc2 := 97) (dk D_X13_isCaught 52 rfl) rfl (V_lg 0 rfl) rfl k) ?_
    refine A_ar (pc2 := 100) (a := 24) 31 (dk D_X13_isCaught 53 rfl) fl_13_134 (by decide) (by decide) rfl (fun _ => rfl) rfl ?_
    refine A_p (fun T Q _ _ k => V_iload (pc2 := 102) (dk D_X13_isCaught 54 rfl) (V_lg 5 rfl) rfl k) ?_
    obtain ⟨h4, h⟩ := h
    refine A_ild (pc2 := 103) 31 (dk D_X13_isCaught 55 rfl) rfl (by decide) rfl (by decide) rfl rfl h4 ?_
    refine A_p (fun T Q _ _ k => V_iadd (pc2 := 104) (dk D_X13_isCaught 56 rfl) rfl k) ?_
    refine A_p (fun T Q _ _ k => V_aload_n (pc2 := 105) (dk D_X13_isCaught 57 rfl) rfl (V_lg 0 rfl) rfl k) ?_
    refine A_ar (pc2 := 108) (a := 65) 90 (dk D_X13_isCaught 58 rfl) fl_13_259 (by decide) (by decide) rfl (fun _ => rfl) rfl ?_
    refine A_p (fun T Q _ _ k => V_iload (pc2 := 110) (dk D_X13_isCaught 59 rfl) (V_lg 4 rfl) rfl k) ?_
    obtain ⟨h5, h⟩ := h
    refine A_ild (pc2 := 111) 90 (dk D_X13_isCaught 60 rfl) rfl (by decide) rfl (by decide) rfl rfl h5 ?_
    obtain ⟨h6, h⟩ := h
    refine A_ist (pc2 := 112) 66 (dk D_X13_isCaught 61 rfl) rfl (by decide) rfl (by decide) rfl rfl h6 ?_
    have h := h _ rfl
    refine A_p (fun T Q _ _ k => V_aload_n (pc2 := 113) (dk D_X13_isCaught 62 rfl) rfl (V_lg 0 rfl) rfl k) ?_
    refine A_ar (pc2 := 116) (a := 51) 67 (dk D_X13_isCaught 63 rfl) fl_13_216 (by decide) (by decide) rfl (fun _ => rfl) rfl ?_
    refine A_p (fun T Q _ _ k => V_bipush (x := 25) (pc2 := 118) (dk D_X13_isCaught 64 rfl) (by decide) rfl k) ?_
    refine A_p (fun T Q _ _ k => V_iload_n (pc2 := 119) (dk D_X13_isCaught 65 rfl) rfl (V_lg 2 rfl) rfl k) ?_
    refine A_p (fun T Q _ _ k => V_imul (pc2 := 120) (dk D_X13_isCaught 66 rfl) rfl k) ?_
    refine A_p (fun T Q _ _ k => V_aload_n (pc2 := 121) (dk D_X13_isCaught 67 rfl) rfl (V_lg 0 rfl) rfl k) ?_
    refine A_ar (pc2 := 124) (a := 26) 33 (dk D_X13_isCaught 68 rfl) fl_13_140 (by decide) (by decide) rfl (fun _ => rfl) rfl ?_
    refine A_p (fun T Q _ _ k => V_iload (pc2 := 126) (dk D_X13_isCaught 69 rfl) (V_lg 5 rfl) rfl k) ?_
    obtain ⟨h8, h⟩ := h
    refine A_ild (pc2 := 127) 33 (dk D_X13_isCaught 70 rfl) rfl (by decide) rfl (by decide) rfl rfl h8 ?_
    refine A_p (fun T Q _ _ k => V_iadd (pc2 := 128) (dk D_X13_isCaught 71 rfl) rfl k) ?_
    refine A_p (fun T Q _ _ k => V_iload (pc2 := 130) (dk D_X13_isCaught 72 rfl) (V_lg 4 rfl) rfl k) ?_
    obtain ⟨h9, h⟩ := h
    refine A_ist (pc2 := 131) 67 (dk D_X13_isCaught 73 rfl) rfl (by decide) rfl (by decide) rfl rfl h9 ?_
    have h := h _ rfl
    refine A_p (fun T Q _ _ k => V_aload_n (pc2 := 132) (dk D_X13_isCaught 74 rfl) rfl (V_lg 0 rfl) rfl k) ?_
    refine A_ar (pc2 := 135) (a := 46) 62 (dk D_X13_isCaught 75 rfl) fl_13_201 (by decide) (by decide) rfl (fun _ => rfl) rfl ?_
    refine A_p (fun T Q _ _ k => V_iload_n (pc2 := 136) (dk D_X13_isCaught 76 rfl) rfl (V_lg 2 rfl) rfl k) ?_
    refine A_p (fun T Q _ _ k => V_aload_n (pc2 := 137) (dk D_X13_isCaught 77 rfl) rfl (V_lg 0 rfl) rfl k) ?_
    refine A_ar (pc2 := 140) (a := 25) 32 (dk D_X13_isCaught 78 rfl) fl_13_137 (by decide) (by decide) rfl (fun _ => rfl) rfl ?_
    refine A_p (fun T Q _ _ k => V_iload (pc2 := 142) (dk D_X13_isCaught 79 rfl) (V_lg 5 rfl) rfl k) ?_
    obtain ⟨h11, h⟩ := h
    refine A_ild (pc2 := 143) 32 (dk D_X13_isCaught 80 rfl) rfl (by decide) rfl (by decide) rfl rfl h11 ?_
    obtain ⟨h12, h⟩ := h
    refine A_ist (pc2 := 144) 62 (dk D_X13_isCaught 81 rfl) rfl (by decide) rfl (by decide) rfl rfl h12 ?_
    have h := h _ rfl
    refine A_p (fun T Q _ _ k => V_aload_n (pc2 := 145) (dk D_X13_isCaught 82 rfl) rfl (V_lg 0 rfl) rfl k) ?_
    refine A_ar (pc2 := 148) (a := 57) 73 (dk D_X13_isCaught 83 rfl) fl_13_234 (by decide) (by decide) rfl (fun _ => rfl) rfl ?_
    refine A_p (fun T Q _ _ k => V_aload_n (pc2 := 149) (dk D_X13_isCaught 84 rfl) rfl (V_lg 0 rfl) rfl k) ?_
    refine A_ar (pc2 := 152) (a := 42) 58 (dk D_X13_isCaught 85 rfl) fl_13_189 (by decide) (by decide) rfl (fun _ => rfl) rfl ?_
    refine A_p (fun T Q _ _ k => V_iload_n (pc2 := 153) (dk D_X13_isCaught 86 rfl) rfl (V_lg 1 rfl) rfl k) ?_
    obtain ⟨h14, h⟩ := h
    refine A_ild (pc2 := 154) 58 (dk D_X13_isCaught 87 rfl) rfl (by decide) rfl (by decide) rfl rfl h14 ?_
    refine A_p (fun T Q _ _ k => V_aload_n (pc2 := 155) (dk D_X13_isCaught 88 rfl) rfl (V_lg 0 rfl) rfl k) ?_
    refine A_ar (pc2 := 158) (a := 49) 65 (dk D_X13_isCaught 89 rfl) fl_13_210 (by decide) (by decide) rfl (fun _ => rfl) rfl ?_
    refine A_p (fun T Q _ _ k => V_iload_n (pc2 := 159) (dk D_X13_isCaught 90 rfl) rfl (V_lg 2 rfl) rfl k) ?_
    obtain ⟨h15, h⟩ := h
    refine A_ild (pc2 := 160) 65 (dk D_X13_isCaught 91 rfl) rfl (by decide) rfl (by decide) rfl rfl h15 ?_
    obtain ⟨h16, h⟩ := h
    refine A_ist (pc2 := 161) 73 (dk D_X13_isCaught 92 rfl) rfl (by decide) rfl (by decide) rfl rfl h16 ?_
    have h := h _ rfl
    refine A_p (fun T Q _ _ k => V_iconst (x := 1) (pc2 := 162) (dk D_X13_isCaught 93 rfl) (by decide) rfl k) ?_
    exact A_ret (fun T Q _ k => V_zreturn (dk D_X13_isCaught 94 rfl) rfl (Or.inr rfl) k) h
theorem a_finishes_0 {X : Cx} {b d : Nat} {σ : Rm} {Q : Res → Rm → Prop} (x1 : Int32) (x2 : Int32) (x3 : Int32) (x4 : Int32) (h : ∃ e1 : Nat, e1 + 1 ≤ d ∧ AC X b e1 MX13_call [vR b, vI x1] σ (aRI fun y4 s5 => (vp_in x2 18000) ∧ ∀ s7 : Rm, s7 = wI s5 70 ((x2 : Int32).toNatClampNeg) 2 → (vp_in x2 18000) ∧ ∀ s9 : Rm, s9 = wI s7 71 ((x2 : Int32).toNatClampNeg) x3 → (vp_in x2 18000) ∧ ∀ s11 : Rm, s11 = wI s9 72 ((x2 : Int32).toNatClampNeg) x4 → (vp_in x1 61) ∧ (vp_in x1 61) ∧ ∀ s14 : Rm, s14 = wI s11 53 ((x1 : Int32).toNatClampNeg) ((aI s11 53 (x1 : Int32).toNatClampNeg) + 1) → (vp_in x2 18000) ∧ (vp_in (aI s14 69 (x2 : Int32).toNatClampNeg) 1000) ∧ (vp_in y4 720) ∧ ∀ s18 : Rm, s18 = wI s14 62 ((y4 : Int32).toNatClampNeg) (aI s14 27 ((aI s14 69 (x2 : Int32).toNatClampNeg) : Int32).toNatClampNeg) → (vp_in x1 61) ∧ (vp_in y4 720) ∧ (vp_in (aI s18 58 (x1 : Int32).toNatClampNeg) 12) ∧ ∀ s22 : Rm, s22 = wI s18 73 (((aI s18 58 (x1 : Int32).toNatClampNeg) : Int32).toNatClampNeg) (aI s18 65 (y4 : Int32).toNatClampNeg) → Q (.inl none) s22)) : A X b d MX13_finishes 0 [(0, vR b), (1, vI x1), (2, vI x2), (3, vI x3), (4, vI x4)] [] σ Q := by
  refine A_p (fun T Q _ _ k => V_aload_n (pc2 := 1) (dk D_X13_finishes 0 rfl) rfl (V_lg 0 rfl) rfl k) ?_
  refine A_p (fun T Q _ _ k => V_iload_n (pc2 := 2) (dk D_X13_finishes 1 rfl) rfl (V_lg 1 rfl) rfl k) ?_
  obtain ⟨e1, he2, hc3⟩ := h
  refine A_call (st := []) (pc2 := 5) (fun T Q Qc L hc k => V_callV (as := [_]) (st := []) (M' := MX13_call) (ci := 13) (pc2 := 5) (dk D_X13_finishes 2 rfl) ml_13_504 mv_X13_call rfl rfl (by decide) rfl (Nat.le_of_ble_eq_true rfl) rfl he2 L.2.1 hc k) hc3 (aRI.k fun y4 s5 h => ?_)
  refine A_p (fun T Q _ _ k => V_istore (pc2 := 7) (lv2 := [(0, _), (1, _), (2, _), (3, _), (4, _), (5, _)]) (dk D_X13_finishes 3 rfl) (by decide) rfl rfl k) ?_
  refine A_p (fun T Q _ _ k => V_aload_n (pc2 := 8) (dk D_X13_finishes 4 rfl) rfl (V_lg 0 rfl) rfl k) ?_
  refine A_ar (pc2 := 11) (a := 54) 70 (dk D_X13_finishes 5 rfl) fl_13_225 (by decide) (by decide) rfl (fun _ => rfl) rfl ?_
  refine A_p (fun T Q _ _ k => V_iload_n (pc2 := 12) (dk D_X13_finishes 6 rfl) rfl (V_lg 2 rfl) rfl k) ?_
  refine A_p (fun T Q _ _ k => V_iconst (x := 2) (pc2 := 13) (dk D_X13_finishes 7 rfl) (by decide) rfl k) ?_
  obtain ⟨h6, h⟩ := h
  refine A_ist (pc2 := 14) 70 (dk D_X13_finishes 8 rfl) rfl (by decide) rfl (by decide) rfl rfl h6 ?_
  have h := h _ rfl
  refine A_p (fun T Q _ _ k => V_aload_n (pc2 := 15) (dk D_X13_finishes 9 rfl) rfl (V_lg 0 rfl) rfl k) ?_
  refine A_ar (pc2 := 18) (a := 55) 71 (dk D_X13_finishes 10 rfl) fl_13_228 (by decide) (by decide) rfl (fun _ => rfl) rfl ?_
  refine A_p (fun T Q _ _ k => V_iload_n (pc2 := 19) (dk D_X13_finishes 11 rfl) rfl (V_lg 2 rfl) rfl k) ?_
  refine A_p (fun T Q _ _ k => V_iload_n (pc2 := 20) (dk D_X13_finishes 12 rfl) rfl (V_lg 3 rfl) rfl k) ?_
  obtain ⟨h8, h⟩ := h
  refine A_ist (pc2 := 21) 71 (dk D_X13_finishes 13 rfl) rfl (by decide) rfl (by decide) rfl rfl h8 ?_
  have h := h _ rfl
  refine A_p (fun T Q _ _ k => V_aload_n (pc2 := 22) (dk D_X13_finishes 14 rfl) rfl (V_lg 0 rfl) rfl k) ?_
  refine A_ar (pc2 := 25) (a := 56) 72 (dk D_X13_finishes 15 rfl) fl_13_231 (by decide) (by decide) rfl (fun _ => rfl) rfl ?_
  refine A_p (fun T Q _ _ k => V_iload_n (pc2 := 26) (dk D_X13_finishes 16 rfl) rfl (V_lg 2 rfl) rfl k) ?_
  refine A_p (fun T Q _ _ k => V_iload (pc2 := 28) (dk D_X13_finishes 17 rfl) (V_lg 4 rfl) rfl k) ?_
  obtain ⟨h10, h⟩ := h
  refine A_ist (pc2 := 29) 72 (dk D_X13_finishes 18 rfl) rfl (by decide) rfl (by decide) rfl rfl h10 ?_
  have h := h _ rfl
  refine A_p (fun T Q _ _ k => V_aload_n (pc2 := 30) (dk D_X13_finishes 19 rfl) rfl (V_lg 0 rfl) rfl k) ?_
  refine A_ar (pc2 := 33) (a := 37) 53 (dk D_X13_finishes 20 rfl) fl_13_173 (by decide) (by decide) rfl (fun _ => rfl) rfl ?_
  refine A_p (fun T Q _ _ k => V_iload_n (pc2 := 34) (dk D_X13_finishes 21 rfl) rfl (V_lg 1 rfl) rfl k) ?_
  refine A_p (fun T Q _ _ k => V_dup2 (pc2 := 35) (dk D_X13_finishes 22 rfl) rfl rfl rfl k) ?_
  obtain ⟨h12, h⟩ := h
  refine A_ild (pc2 := 36) 53 (dk D_X13_finishes 23 rfl) rfl (by decide) rfl (by decide) rfl rfl h12 ?_
  refine A_p (fun T Q _ _ k => V_iconst (x := 1) (pc2 := 37) (dk D_X13_finishes 24 rfl) (by decide) rfl k) ?_
  refine A_p (fun T Q _ _ k => V_iadd (pc2 := 38) (dk D_X13_finishes 25 rfl) rfl k) ?_
  obtain ⟨h13, h⟩ := h
  refine A_ist (pc2 := 39) 53 (dk D_X13_finishes 26 rfl) rfl (by decide) rfl (by decide) rfl rfl h13 ?_
  have h := h _ rfl
  refine A_p (fun T Q _ _ k => V_aload_n (pc2 := 40) (dk D_X13_finishes 27 rfl) rfl (V_lg 0 rfl) rfl k) ?_
  refine A_ar (pc2 := 43) (a := 46) 62 (dk D_X13_finishes 28 rfl) fl_13_201 (by decide) (by decide) rfl (fun _ => rfl) rfl ?_
  refine A_p (fun T Q _ _ k => V_iload (pc2 := 45) (dk D_X13_finishes 29 rfl) (V_lg 5 rfl) rfl k) ?_
  refine A_p (fun T Q _ _ k => V_aload_n (pc2 := 46) (dk D_X13_finishes 30 rfl) rfl (V_lg 0 rfl) rfl k) ?_
  refine A_ar (pc2 := 49) (a := 21) 27 (dk D_X13_finishes 31 rfl) fl_13_125 (by decide) (by decide) rfl (fun _ => rfl) rfl ?_
  refine A_p (fun T Q _ _ k => V_aload_n (pc2 := 50) (dk D_X13_finishes 32 rfl) rfl (V_lg 0 rfl) rfl k) ?_
  refine A_ar (pc2 := 53) (a := 53) 69 (dk D_X13_finishes 33 rfl) fl_13_222 (by decide) (by decide) rfl (fun _ => rfl) rfl ?_
  refine A_p (fun T Q _ _ k => V_iload_n (pc2 := 54) (dk D_X13_finishes 34 rfl) rfl (V_lg 2 rfl) rfl k) ?_
  obtain ⟨h15, h⟩ := h
  refine A_ild (pc2 := 55) 69 (dk D_X13_finishes 35 rfl) rfl (by decide) rfl (by decide) rfl rfl h15 ?_
  obtain ⟨h16, h⟩ := h
  refine A_ild (pc2 := 56) 27 (dk D_X13_finishes 36 rfl) rfl (by decide) rfl (by decide) rfl rfl h16 ?_
  obtain ⟨h17, h⟩ := h
  refine A_ist (pc2 := 57) 62 (dk D_X13_finishes 37 rfl) rfl (by decide) rfl (by decide) rfl rfl h17 ?_
  have h := h _ rfl
  refine A_p (fun T Q _ _ k => V_aload_n (pc2 := 58) (dk D_X13_finishes 38 rfl) rfl (V_lg 0 rfl) rfl k) ?_
  refine A_ar (pc2 := 61) (a := 57) 73 (dk D_X13_finishes 39 rfl) fl_13_234 (by decide) (by decide) rfl (fun _ => rfl) rfl ?_
  refine A_p (fun T Q _ _ k => V_aload_n (pc2 := 62) (dk D_X13_finishes 40 rfl) rfl (V_lg 0 rfl) rfl k) ?_
  refine A_ar (pc2 := 65) (a := 42) 58 (dk D_X13_finishes 41 rfl) fl_13_189 (by decide) (by decide) rfl (fun _ => rfl) rfl ?_
  refine A_p (fun T Q _ _ k => V_iload_n (pc2 := 66) (dk D_X13_finishes 42 rfl) rfl (V_lg 1 rfl) rfl k) ?_
  obtain ⟨h19, h⟩ := h
  refine A_ild (pc2 := 67) 58 (dk D_X13_finishes 43 rfl) rfl (by decide) rfl (by decide) rfl rfl h19 ?_
  refine A_p (fun T Q _ _ k => V_aload_n (pc2 := 68) (dk D_X13_finishes 44 rfl) rfl (V_lg 0 rfl) rfl k) ?_
  refine A_ar (pc2 := 71) (a := 49) 65 (dk D_X13_finishes 45 rfl) fl_13_210 (by decide) (by decide) rfl (fun _ => rfl) rfl ?_
  refine A_p (fun T Q _ _ k => V_iload (pc2 := 73) (dk D_X13_finishes 46 rfl) (V_lg 5 rfl) rfl k) ?_
  obtain ⟨h20, h⟩ := h
  refine A_ild (pc2 := 74) 65 (dk D_X13_finishes 47 rfl) rfl (by decide) rfl (by decide) rfl rfl h20 ?_
  obtain ⟨h21, h⟩ := h
  refine A_ist (pc2 := 75) 73 (dk D_X13_finishes 48 rfl) rfl (by decide) rfl (by decide) rfl rfl h21 ?_
  have h := h _ rfl
  exact A_ret (fun T Q _ k => V_return (dk D_X13_finishes 49 rfl) rfl k) h
theorem a_leaves_0 {X : Cx} {b d : Nat} {σ : Rm} {Q : Res → Rm → Prop} (x1 : Int32) (x2 : Int32) (h : (vp_in x1 61) ∧ (((aI σ 57 (x1 : Int32).toNatClampNeg) = 0 → A X b d MX13_leaves 24 [(0, vR b), (1, vI x1), (2, vI x2)] [] σ Q) ∧ (¬ (aI σ 57 (x1 : Int32).toNatClampNeg) = 0 → (vp_in x2 8000) ∧ (((aI σ 89 (x2 : Int32).toNatClampNeg) = 14 → A X b d MX13_leaves 25 [(0, vR b), (1, vI x1), (2, vI x2)] [vI 1] σ Q) ∧ (¬ (aI σ 89 (x2 : Int32).toNatClampNeg) = 14 → A X b d MX13_leaves 24 [(0, vR b), (1, vI x1), (2, vI x2)] [] σ Q))))) : A X b d MX13_leaves 0 [(0, vR b), (1, vI x1), (2, vI x2)] [] σ Q := by
  refine A_p (fun T Q _ _ k => V_aload_n (pc2 := 1) (dk D_X13_leaves 0 rfl) rfl (V_lg 0 rfl) rfl k) ?_
  refine A_ar (pc2 := 4) (a := 41) 57 (dk D_X13_leaves 1 rfl) fl_13_185 (by decide) (by decide) rfl (fun _ => rfl) rfl ?_
  refine A_p (fun T Q _ _ k => V_iload_n (pc2 := 5) (dk D_X13_leaves 2 rfl) rfl (V_lg 1 rfl) rfl k) ?_
  obtain ⟨h1, h⟩ := h
  refine A_zld (pc2 := 6) 57 (dk D_X13_leaves 3 rfl) rfl (by decide) rfl (by decide) rfl rfl h1 ?_
  refine A_if (pa := 24) (pb := 9) (fun T Q k1 k2 => V_ifeq (tgt := 24) (pc2 := 9) (dk D_X13_leaves 4 rfl) (by decide) rfl (fun q => k1 q) (fun q => k2 q)) (fun q2 => ?_) (fun q2 => ?_)
  · have h := h.1 q2
    exact h
  · have h := h.2 q2
    refine A_p (fun T Q _ _ k => V_aload_n (pc2 := 10) (dk D_X13_leaves 5 rfl) rfl (V_lg 0 rfl) rfl k) ?_
    refine A_ar (pc2 := 13) (a := 64) 89 (dk D_X13_leaves 6 rfl) fl_13_256 (by decide) (by decide) rfl (fun _ => rfl) rfl ?_
    refine A_p (fun T Q _ _ k => V_iload_n (pc2 := 14) (dk D_X13_leaves 7 rfl) rfl (V_lg 2 rfl) rfl k) ?_
    obtain ⟨h3, h⟩ := h
    refine A_ild (pc2 := 15) 89 (dk D_X13_leaves 8 rfl) rfl (by decide) rfl (by decide) rfl rfl h3 ?_
    refine A_p (fun T Q _ _ k => V_bipush (x := 14) (pc2 := 17) (dk D_X13_leaves 9 rfl) (by decide) rfl k) ?_
    refine A_if (pa := 20) (pb := 24) (fun T Q k1 k2 => V_cmpne (tgt := 24) (pc2 := 20) (dk D_X13_leaves 10 rfl) (by decide) rfl (fun q => k2 q) (fun q => k1 q)) (fun q4 => ?_) (fun q4 => ?_)
    · have h := h.1 q4
      refine A_p (fun T Q _ _ k => V_iconst (x := 1) (pc2 := 21) (dk D_X13_leaves 11 rfl) (by decide) rfl k) ?_
      refine A_p (fun T Q _ _ k => V_goto (tgt := 25) (dk D_X13_leaves 12 rfl) (by decide) k) ?_
      exact h
    · have h := h.2 q4
      exact h
theorem a_leaves_24 {X : Cx} {b d : Nat} {σ : Rm} {Q : Res → Rm → Prop} (x1 : Int32) (x2 : Int32) (h : A X b d MX13_leaves 25 [(0, vR b), (1, vI x1), (2, vI x2)] [vI 0] σ Q) : A X b d MX13_leaves 24 [(0, vR b), (1, vI x1), (2, vI x2)] [] σ Q := by
  refine A_p (fun T Q _ _ k => V_iconst (x := 0) (pc2 := 25) (dk D_X13_leaves 13 rfl) (by decide) rfl k) ?_
  exact h
theorem a_leaves_25 {X : Cx} {b d : Nat} {σ : Rm} {Q : Res → Rm → Prop} (x1 : Int32) (x2 : Int32) (t0 : Int32) (h : ((t0 = 0 → A X b d MX13_leaves 38 [(0, vR b), (1, vI x1), (2, vI x2), (3, vI t0)] [vI 5, vI x1, vR b] σ Q) ∧ (¬ t0 = 0 → A X b d MX13_leaves 38 [(0, vR b), (1, vI x1), (2, vI x2), (3, vI t0)] [vI 6, vI x1, vR b] σ Q))) : A X b d MX13_leaves 25 [(0, vR b), (1, vI x1), (2, vI x2)] [vI t0] σ Q := by
  refine A_p (fun T Q _ _ k => V_istore_n (pc2 := 26) (lv2 := [(0, _), (1, _), (2, _), (3, _)]) (dk D_X13_leaves 14 rfl) rfl (by decide) rfl rfl k) ?_
  refine A_p (fun T Q _ _ k => V_aload_n (pc2 := 27) (dk D_X13_leaves 15 rfl) rfl (V_lg 0 rfl) rfl k) ?_
  refine A_p (fun T Q _ _ k => V_iload_n (pc2 := 28) (dk D_X13_leaves 16 rfl) rfl (V_lg 1 rfl) rfl k) ?_
  refine A_p (fun T Q _ _ k => V_iload_n (pc2 := 29) (dk D_X13_leaves 17 rfl) rfl (V_lg 3 rfl) rfl k) ?_
  refine A_if (pa := 37) (pb := 32) (fun T Q k1 k2 => V_ifeq (tgt := 37) (pc2 := 32) (dk D_X13_leaves 18 rfl) (by decide) rfl (fun q => k1 q) (fun q => k2 q)) (fun q1 => ?_) (fun q1 => ?_)
  · have h := h.1 q1
    refine A_p (fun T Q _ _ k => V_iconst (x := 5) (pc2 := 38) (dk D_X13_leaves 21 rfl) (by decide) rfl k) ?_
    exact h
  · have h := h.2 q1
    refine A_p (fun T Q _ _ k => V_bipush (x := 6) (pc2 := 34) (dk D_X13_leaves 19 rfl) (by decide) rfl k) ?_
    refine A_p (fun T Q _ _ k => V_goto (tgt := 38) (dk D_X13_leaves 20 rfl) (by decide) k) ?_
    exact h
theorem a_leaves_38 {X : Cx} {b d : Nat} {σ : Rm} {Q : Res → Rm → Prop} (x1 : Int32) (x2 : Int32) (x3 : Int32) (t1 : Int32) (t2 : Int32) (h : ∃ e1 : Nat, e1 + 1 ≤ d ∧ AC X b e1 MX13_over [vR b, vI t1, vI t2] σ (aRV fun  s4 => (vp_in x1 61) ∧ ∃ e6 : Nat, e6 + 1 ≤ d ∧ AC X b e6 MX13_hands [vR b, vI x1, vI (aI s4 54 (x1 : Int32).toNatClampNeg)] s4 (aRV fun  s9 => ∀ s10 : Rm, s10 = wS s9 77 (aI s4 54 (x1 : Int32).toNatClampNeg) → (((aI s4 54 (x1 : Int32).toNatClampNeg) = 0 → ((x3 = 0 → A X b d MX13_leaves 77 [(0, vR b), (1, vI x1), (2, vI x2), (3, vI x3), (4, vI (aI s4 54 (x1 : Int32).toNatClampNeg))] [vI 2, vR b] s10 Q) ∧ (¬ x3 = 0 → A X b d MX13_leaves 77 [(0, vR b), (1, vI x1), (2, vI x2), (3, vI x3), (4, vI (aI s4 54 (x1 : Int32).toNatClampNeg))] [vI 1, vR b] s10 Q))) ∧ (¬ (aI s4 54 (x1 : Int32).toNatClampNeg) = 0 → (vp_in (aI s4 54 (x1 : Int32).toNatClampNeg) 61) ∧ ∀ s14 : Rm, s14 = wI s10 49 (((aI s4 54 (x1 : Int32).toNatClampNeg) : Int32).toNatClampNeg) 2 → ((x3 = 0 → ∃ e16 : Nat, e16 + 1 ≤ d ∧ AC X b e16 MX13_raise [vR b, vI (aI s4 54 (x1 : Int32).toNatClampNeg), vI x2] s14 (aRV fun  s19 => A X b d MX13_leaves 116 [(0, vR b), (1, vI x1), (2, vI x2), (3, vI x3), (4, vI (aI s4 54 (x1 : Int32).toNatClampNeg))] [] s19 Q)) ∧ (¬ x3 = 0 → A X b d MX13_leaves 116 [(0, vR b), (1, vI x1), (2, vI x2), (3, vI x3), (4, vI (aI s4 54 (x1 : Int32).toNatClampNeg))] [] s14 Q))))))) : A X b d MX13_leaves 38 [(0, vR b), (1, vI x1), (2, vI x2), (3, vI x3)] [vI t2, vI t1, vR b] σ Q := by
  obtain ⟨e1, he2, hc3⟩ := h
  refine A_call (st := []) (pc2 := 41) (fun T Q Qc L hc k => V_callV (as := [_, _]) (st := []) (M' := MX13_over) (ci := 13) (pc2 := 41) (dk D_X13_leaves 22 rfl) ml_13_513 mv_X13_over rfl rfl (by decide) rfl (Nat.le_of_ble_eq_true rfl) rfl he2 L.2.1 hc k) hc3 (aRV.k fun  s4 h => ?_)
  refine A_p (fun T Q _ _ k => V_aload_n (pc2 := 42) (dk D_X13_leaves 23 rfl) rfl (V_lg 0 rfl) rfl k) ?_
  refine A_ar (pc2 := 45) (a := 38) 54 (dk D_X13_leaves 24 rfl) fl_13_176 (by decide) (by decide) rfl (fun _ => rfl) rfl ?_
  refine A_p (fun T Q _ _ k => V_iload_n (pc2 := 46) (dk D_X13_leaves 25 rfl) rfl (V_lg 1 rfl) rfl k) ?_
  obtain ⟨h5, h⟩ := h
  refine A_ild (pc2 := 47) 54 (dk D_X13_leaves 26 rfl) rfl (by decide) rfl (by decide) rfl rfl h5 ?_
  refine A_p (fun T Q _ _ k => V_istore (pc2 := 49) (lv2 := [(0, _), (1, _), (2, _), (3, _), (4, _)]) (dk D_X13_leaves 27 rfl) (by decide) rfl rfl k) ?_
  refine A_p (fun T Q _ _ k => V_aload_n (pc2 := 50) (dk D_X13_leaves 28 rfl) rfl (V_lg 0 rfl) rfl k) ?_
  refine A_p (fun T Q _ _ k => V_iload_n (pc2 := 51) (dk D_X13_leaves 29 rfl) rfl (V_lg 1 rfl) rfl k) ?_
  refine A_p (fun T Q _ _ k => V_iload (pc2 := 53) (dk D_X13_leaves 30 rfl) (V_lg 4 rfl) rfl k) ?_
  obtain ⟨e6, he7, hc8⟩ := h
  refine A_call (st := []) (pc2 := 56) (fun T Q Qc L hc k => V_callV (as := [_, _]) (st := []) (M' := MX13_hands) (ci := 13) (pc2 := 56) (dk D_X13_leaves 31 rfl) ml_13_516 mv_X13_hands rfl rfl (by decide) rfl (Nat.le_of_ble_eq_true rfl) rfl he7 L.2.1 hc k) hc8 (aRV.k fun  s9 h => ?_)
  refine A_p (fun T Q _ _ k => V_aload_n (pc2 := 57) (dk D_X13_leaves 32 rfl) rfl (V_lg 0 rfl) rfl k) ?_
  refine A_p (fun T Q _ _ k => V_iload (pc2 := 59) (dk D_X13_leaves 33 rfl) (V_lg 4 rfl) rfl k) ?_
  refine A_put (pc2 := 62) 77 (dk D_X13_leaves 34 rfl) fl_13_473 (by decide) rfl rfl rfl rfl ?_
  have h := h _ rfl
  refine A_p (fun T Q _ _ k => V_iload (pc2 := 64) (dk D_X13_leaves 35 rfl) (V_lg 4 rfl) rfl k) ?_
  refine A_if (pa := 67) (pb := 97) (fun T Q k1 k2 => V_ifne (tgt := 97) (pc2 := 67) (dk D_X13_leaves 36 rfl) (by decide) rfl (fun q => k2 q) (fun q => k1 q)) (fun q11 => ?_) (fun q11 => ?_)
  · have h := h.1 q11
    refine A_p (fun T Q _ _ k => V_aload_n (pc2 := 68) (dk D_X13_leaves 37 rfl) rfl (V_lg 0 rfl) rfl k) ?_
    refine A_p (fun T Q _ _ k => V_iload_n (pc2 := 69) (dk D_X13_leaves 38 rfl) rfl (V_lg 3 rfl) rfl k) ?_
    refine A_if (pa := 76) (pb := 72) (fun T Q k1 k2 => V_ifeq (tgt := 76) (pc2 := 72) (dk D_X13_leaves 39 rfl) (by decide) rfl (fun q => k1 q) (fun q => k2 q)) (fun q12 => ?_) (fun q12 => ?_)
    · have h := h.1 q12
      refine A_p (fun T Q _ _ k => V_iconst (x := 2) (pc2 := 77) (dk D_X13_leaves 42 rfl) (by decide) rfl k) ?_
      exact h
    · have h := h.2 q12
      refine A_p (fun T Q _ _ k => V_iconst (x := 1) (pc2 := 73) (dk D_X13_leaves 40 rfl) (by decide) rfl k) ?_
      refine A_p (fun T Q _ _ k => V_goto (tgt := 77) (dk D_X13_leaves 41 rfl) (by decide) k) ?_
      exact h
  · have h := h.2 q11
    refine A_p (fun T Q _ _ k => V_aload_n (pc2 := 98) (dk D_X13_leaves 53 rfl) rfl (V_lg 0 rfl) rfl k) ?_
    refine A_ar (pc2 := 101) (a := 33) 49 (dk D_X13_leaves 54 rfl) fl_13_161 (by decide) (by decide) rfl (fun _ => rfl) rfl ?_
    refine A_p (fun T Q _ _ k => V_iload (pc2 := 103) (dk D_X13_leaves 55 rfl) (V_lg 4 rfl) rfl k) ?_
    refine A_p (fun T Q _ _ k => V_iconst (x := 2) (pc2 := 104) (dk D_X13_leaves 56 rfl) (by decide) rfl k) ?_
    obtain ⟨h13, h⟩ := h
    refine A_ist (pc2 := 105) 49 (dk D_X13_leaves 57 rfl) rfl (by decide) rfl (by decide) rfl rfl h13 ?_
    have h := h _ rfl
    refine A_p (fun T Q _ _ k => V_iload_n (pc2 := 106) (dk D_X13_leaves 58 rfl) rfl (V_lg 3 rfl) rfl k) ?_
    refine A_if (pa := 109) (pb := 116) (fun T Q k1 k2 => V_ifne (tgt := 116) (pc2 := 109) (dk D_X13_leaves 59 rfl) (by decide) rfl (fun q => k2 q) (fun q => k1 q)) (fun q15 => ?_) (fun q15 => ?_)
    · have h := h.1 q15
      refine A_p (fun T Q _ _ k => V_aload_n (pc2 := 110) (dk D_X13_leaves 60 rfl) rfl (V_lg 0 rfl) rfl k) ?_
      refine A_p (fun T Q _ _ k => V_iload (pc2 := 112) (dk D_X13_leaves 61 rfl) (V_lg 4 rfl) rfl k) ?_
      refine A_p (fun T Q _ _ k => V_iload_n (pc2 := 113) (dk D_X13_leaves 62 rfl) rfl (V_lg 2 rfl) rfl k) ?_
      obtain ⟨e16, he17, hc18⟩ := h
      refine A_call (st := []) (pc2 := 116) (fun T Q Qc L hc k => V_callV (as := [_, _]) (st := []) (M' := MX13_raise) (ci := 13) (pc2 := 116) (dk D_X13_leaves 63 rfl) ml_13_529 mv_X13_raise rfl rfl (by decide) rfl (Nat.le_of_ble_eq_true rfl) rfl he17 L.2.1 hc k) hc18 (aRV.k fun  s19 h => ?_)
      exact h
    · have h := h.2 q15
      exact h
theorem a_leaves_77 {X : Cx} {b d : Nat} {σ : Rm} {Q : Res → Rm → Prop} (x1 : Int32) (x2 : Int32) (x3 : Int32) (x4 : Int32) (t1 : Int32) (h : ∀ s1 : Rm, s1 = wS σ 78 t1 → ((x3 = 0 → A X b d MX13_leaves 93 [(0, vR b), (1, vI x1), (2, vI x2), (3, vI x3), (4, vI x4)] [vI x2, vR b] s1 Q) ∧ (¬ x3 = 0 → A X b d MX13_leaves 93 [(0, vR b), (1, vI x1), (2, vI x2), (3, vI x3), (4, vI x4)] [vI (sI s1 97), vR b] s1 Q))) : A X b d MX13_leaves 77 [(0, vR b), (1, vI x1), (2, vI x2), (3, vI x3), (4, vI x4)] [vI t1, vR b] σ Q := by
  refine A_put (pc2 := 80) 78 (dk D_X13_leaves 43 rfl) fl_13_519 (by decide) rfl rfl rfl rfl ?_
  have h := h _ rfl
  refine A_p (fun T Q _ _ k => V_aload_n (pc2 := 81) (dk D_X13_leaves 44 rfl) rfl (V_lg 0 rfl) rfl k) ?_
  refine A_p (fun T Q _ _ k => V_iload_n (pc2 := 82) (dk D_X13_leaves 45 rfl) rfl (V_lg 3 rfl) rfl k) ?_
  refine A_if (pa := 92) (pb := 85) (fun T Q k1 k2 => V_ifeq (tgt := 92) (pc2 := 85) (dk D_X13_leaves 46 rfl) (by decide) rfl (fun q => k1 q) (fun q => k2 q)) (fun q2 => ?_) (fun q2 => ?_)
  · have h := h.1 q2
    refine A_p (fun T Q _ _ k => V_iload_n (pc2 := 93) (dk D_X13_leaves 50 rfl) rfl (V_lg 2 rfl) rfl k) ?_
    exact h
  · have h := h.2 q2
    refine A_p (fun T Q _ _ k => V_aload_n (pc2 := 86) (dk D_X13_leaves 47 rfl) rfl (V_lg 0 rfl) rfl k) ?_
    refine A_sc (pc2 := 89) 97 (dk D_X13_leaves 48 rfl) fl_13_491 (by decide) rfl (fun _ => rfl) rfl ?_
    refine A_p (fun T Q _ _ k => V_goto (tgt := 93) (dk D_X13_leaves 49 rfl) (by decide) k) ?_
    exact h
theorem a_leaves_93 {X : Cx} {b d : Nat} {σ : Rm} {Q : Res → Rm → Prop} (x1 : Int32) (x2 : Int32) (x3 : Int32) (x4 : Int32) (t1 : Int32) (h : ∀ s1 : Rm, s1 = wS σ 97 t1 → Q (.inl none) s1) : A X b d MX13_leaves 93 [(0, vR b), (1, vI x1), (2, vI x2), (3, vI x3), (4, vI x4)] [vI t1, vR b] σ Q := by
  refine A_put (pc2 := 96) 97 (dk D_X13_leaves 51 rfl) fl_13_491 (by decide) rfl rfl rfl rfl ?_
  have h := h _ rfl
  exact A_ret (fun T Q _ k => V_return (dk D_X13_leaves 52 rfl) rfl k) h
theorem a_leaves_116 {X : Cx} {b d : Nat} {σ : Rm} {Q : Res → Rm → Prop} (x1 : Int32) (x2 : Int32) (x3 : Int32) (x4 : Int32) (h : Q (.inl none) σ) : A X b d MX13_leaves 116 [(0, vR b), (1, vI x1), (2, vI x2), (3, vI x3), (4, vI x4)] [] σ Q := by
  exact A_ret (fun T Q _ k => V_return (dk D_X13_leaves 64 rfl) rfl k) h
theorem a_gives_0 {X : Cx} {b d : Nat} {σ : Rm} {Q : Res → Rm → Prop} (x1 : Int32) (x2 : Int32) (h : (vp_in x1 61) ∧ ∃ e2 : Nat, e2 + 1 ≤ d ∧ AC X b e2 MX13_call [vR b, vI x1] σ (aRI fun y5 s6 => A X b d MX13_gives 14 [(0, vR b), (1, vI x1), (2, vI x2), (3, vI (aI σ 58 (x1 : Int32).toNatClampNeg)), (4, vI y5)] [] s6 Q)) : A X b d MX13_gives 0 [(0, vR b), (1, vI x1), (2, vI x2)] [] σ Q := by
  refine A_p (fun T Q _ _ k => V_aload_n (pc2 := 1) (dk D_X13_gives 0 rfl) rfl (V_lg 0 rfl) rfl k) ?_
  refine A_ar (pc2 := 4) (a := 42) 58 (dk D_X13_gives 1 rfl) fl_13_189 (by decide) (by decide) rfl (fun _ => rfl) rfl ?_
  refine A_p (fun T Q _ _ k => V_iload_n (pc2 := 5) (dk D_X13_gives 2 rfl) rfl (V_lg 1 rfl) rfl k) ?_
  obtain ⟨h1, h⟩ := h
  refine A_ild (pc2 := 6) 58 (dk D_X13_gives 3 rfl) rfl (by decide) rfl (by decide) rfl rfl h1 ?_
  refine A_p (fun T Q _ _ k => V_istore_n (pc2 := 7) (lv2 := [(0, _), (1, _), (2, _), (3, _)]) (dk D_X13_gives 4 rfl) rfl (by decide) rfl rfl k) ?_
  refine A_p (fun T Q _ _ k => V_aload_n (pc2 := 8) (dk D_X13_gives 5 rfl) rfl (V_lg 0 rfl) rfl k) ?_
  refine A_p (fun T Q _ _ k => V_iload_n (pc2 := 9) (dk D_X13_gives 6 rfl) rfl (V_lg 1 rfl) rfl k) ?_
  obtain ⟨e2, he3, hc4⟩ := h
  refine A_call (st := []) (pc2 := 12) (fun T Q Qc L hc k => V_callV (as := [_]) (st := []) (M' := MX13_call) (ci := 13) (pc2 := 12) (dk D_X13_gives 7 rfl) ml_13_504 mv_X13_call rfl rfl (by decide) rfl (Nat.le_of_ble_eq_true rfl) rfl he3 L.2.1 hc k) hc4 (aRI.k fun y5 s6 h => ?_)
  refine A_p (fun T Q _ _ k => V_istore (pc2 := 14) (lv2 := [(0, _), (1, _), (2, _), (3, _), (4, _)]) (dk D_X13_gives 8 rfl) (by decide) rfl rfl k) ?_
  exact h
theorem a_gives_14 {X : Cx} {b d : Nat} {σ : Rm} {Q : Res → Rm → Prop} (x1 : Int32) (x2 : Int32) (x3 : Int32) (x4 : Int32) (h : (vp_in x3 12) ∧ (vp_in x4 720) ∧ (((aI σ 68 (x3 : Int32).toNatClampNeg) ≤ (aI σ 64 (x4 : Int32).toNatClampNeg) → (vp_in x4 720) ∧ (vp_in x3 12) ∧ ∀ s6 : Rm, s6 = wI σ 73 ((x3 : Int32).toNatClampNeg) (aI σ 65 (x4 : Int32).toNatClampNeg) → (vp_in x3 12) ∧ (vp_in x3 12) ∧ ∀ s9 : Rm, s9 = wI s6 60 ((x3 : Int32).toNatClampNeg) ((aI s6 60 (x3 : Int32).toNatClampNeg) - 1) → (vp_in x3 12) ∧ (((aI s9 60 (x3 : Int32).toNatClampNeg) ≤ 0 → (vp_in x1 61) ∧ (((aI s9 57 (x1 : Int32).toNatClampNeg) = 0 → A X b d MX13_gives 155 [(0, vR b), (1, vI x1), (2, vI x2), (3, vI x3), (4, vI x4), (5, vI (aI s9 57 (x1 : Int32).toNatClampNeg))] [vI 4, vI x1, vR b] s9 Q) ∧ (¬ (aI s9 57 (x1 : Int32).toNatClampNeg) = 0 → A X b d MX13_gives 155 [(0, vR b), (1, vI x1), (2, vI x2), (3, vI x3), (4, vI x4), (5, vI (aI s9 57 (x1 : Int32).toNatClampNeg))] [vI 6, vI x1, vR b] s9 Q))) ∧ (¬ (aI s9 60 (x3 : Int32).toNatClampNeg) ≤ 0 → ∃ e14 : Nat, e14 + 1 ≤ d ∧ AC X b e14 MX13_push [vR b, vI x1, vI x2] s9 (aRV fun  s17 => Q (.inl none) s17)))) ∧ (¬ (aI σ 68 (x3 : Int32).toNatClampNeg) ≤ (aI σ 64 (x4 : Int32).toNatClampNeg) → (vp_in x3 12) ∧ (vp_in (((1500 * x3) + (aI σ 68 (x3 : Int32).toNatClampNeg)) - 1) 18000) ∧ ((2 ≤ (aI σ 70 ((((1500 * x3) + (aI σ 68 (x3 : Int32).toNatClampNeg)) - 1) : Int32).toNatClampNeg) → A X b d MX13_gives 82 [(0, vR b), (1, vI x1), (2, vI x2), (3, vI x3), (4, vI x4), (5, vI (((1500 * x3) + (aI σ 68 (x3 : Int32).toNatClampNeg)) - 1))] [] σ Q) ∧ (¬ 2 ≤ (aI σ 70 ((((1500 * x3) + (aI σ 68 (x3 : Int32).toNatClampNeg)) - 1) : Int32).toNatClampNeg) → (vp_in (((1500 * x3) + (aI σ 68 (x3 : Int32).toNatClampNeg)) - 1) 18000) ∧ (vp_in (aI σ 69 ((((1500 * x3) + (aI σ 68 (x3 : Int32).toNatClampNeg)) - 1) : Int32).toNatClampNeg) 1000) ∧ (((aI σ 27 ((aI σ 69 ((((1500 * x3) + (aI σ 68 (x3 : Int32).toNatClampNeg)) - 1) : Int32).toNatClampNeg) : Int32).toNatClampNeg) < 0 → A X b d MX13_gives 82 [(0, vR b), (1, vI x1), (2, vI x2), (3, vI x3), (4, vI x4), (5, vI (((1500 * x3) + (aI σ 68 (x3 : Int32).toNatClampNeg)) - 1))] [] σ Q) ∧ (¬ (aI σ 27 ((aI σ 69 ((((1500 * x3) + (aI σ 68 (x3 : Int32).toNatClampNeg)) - 1) : Int32).toNatClampNeg) : Int32).toNatClampNeg) < 0 → ∃ e24 : Nat, e24 + 1 ≤ d ∧ AC X b e24 MX13_finishes [vR b, vI x1, vI (((1500 * x3) + (aI σ 68 (x3 : Int32).toNatClampNeg)) - 1), vI 2, vI x2] σ (aRV fun  s27 => Q (.inl none) s27)))))))) : A X b d MX13_gives 14 [(0, vR b), (1, vI x1), (2, vI x2), (3, vI x3), (4, vI x4)] [] σ Q := by
  refine A_p (fun T Q _ _ k => V_aload_n (pc2 := 15) (dk D_X13_gives 9 rfl) rfl (V_lg 0 rfl) rfl k) ?_
  refine A_ar (pc2 := 18) (a := 52) 68 (dk D_X13_gives 10 rfl) fl_13_219 (by decide) (by decide) rfl (fun _ => rfl) rfl ?_
  refine A_p (fun T Q _ _ k => V_iload_n (pc2 := 19) (dk D_X13_gives 11 rfl) rfl (V_lg 3 rfl) rfl k) ?_
  obtain ⟨h1, h⟩ := h
  refine A_ild (pc2 := 20) 68 (dk D_X13_gives 12 rfl) rfl (by decide) rfl (by decide) rfl rfl h1 ?_
  refine A_p (fun T Q _ _ k => V_aload_n (pc2 := 21) (dk D_X13_gives 13 rfl) rfl (V_lg 0 rfl) rfl k) ?_
  refine A_ar (pc2 := 24) (a := 48) 64 (dk D_X13_gives 14 rfl) fl_13_207 (by decide) (by decide) rfl (fun _ => rfl) rfl ?_
  refine A_p (fun T Q _ _ k => V_iload (pc2 := 26) (dk D_X13_gives 15 rfl) (V_lg 4 rfl) rfl k) ?_
  obtain ⟨h2, h⟩ := h
  refine A_ild (pc2 := 27) 64 (dk D_X13_gives 16 rfl) rfl (by decide) rfl (by decide) rfl rfl h2 ?_
  refine A_if (pa := 95) (pb := 30) (fun T Q k1 k2 => V_cmple (tgt := 95) (pc2 := 30) (dk D_X13_gives 17 rfl) (by decide) rfl (fun q => k1 q) (fun q => k2 q)) (fun q3 => ?_) (fun q3 => ?_)
  · have h := h.1 q3
    refine A_p (fun T Q _ _ k => V_aload_n (pc2 := 96) (dk D_X13_gives 59 rfl) rfl (V_lg 0 rfl) rfl k) ?_
    refine A_ar (pc2 := 99) (a := 57) 73 (dk D_X13_gives 60 rfl) fl_13_234 (by decide) (by decide) rfl (fun _ => rfl) rfl ?_
    refine A_p (fun T Q _ _ k => V_iload_n (pc2 := 100) (dk D_X13_gives 61 rfl) rfl (V_lg 3 rfl) rfl k) ?_
    refine A_p (fun T Q _ _ k => V_aload_n (pc2 := 101) (dk D_X13_gives 62 rfl) rfl (V_lg 0 rfl) rfl k) ?_
    refine A_ar (pc2 := 104) (a := 49) 65 (dk D_X13_gives 63 rfl) fl_13_210 (by decide) (by decide) rfl (fun _ => rfl) rfl ?_
    refine A_p (fun T Q _ _ k => V_iload (pc2 := 106) (dk D_X13_gives 64 rfl) (V_lg 4 rfl) rfl k) ?_
    obtain ⟨h4, h⟩ := h
    refine A_ild (pc2 := 107) 65 (dk D_X13_gives 65 rfl) rfl (by decide) rfl (by decide) rfl rfl h4 ?_
    obtain ⟨h5, h⟩ := h
    refine A_ist (pc2 := 108) 73 (dk D_X13_gives 66 rfl) rfl (by decide) rfl (by decide) rfl rfl h5 ?_
    have h := h _ rfl
    refine A_p (fun T Q _ _ k => V_aload_n (pc2 := 109) (dk D_X13_gives 67 rfl) rfl (V_lg 0 rfl) rfl k) ?_
    refine A_ar (pc2 := 112) (a := 44) 60 (dk D_X13_gives 68 rfl) fl_13_195 (by decide) (by decide) rfl (fun _ => rfl) rfl ?_
    refine A_p (fun T Q _ _ k => V_iload_n (pc2 := 113) (dk D_X13_gives 69 rfl) rfl (V_lg 3 rfl) rfl k) ?_
    refine A_p (fun T Q _ _ k => V_dup2 (pc2 := 114) (dk D_X13_gives 70 rfl) rfl rfl rfl k) ?_
    obtain ⟨h7, h⟩ := h
    refine A_ild (pc2 := 115) 60 (dk D_X13_gives 71 rfl) rfl (by decide) rfl (by decide) rfl rfl h7 ?_
    refine A_p (fun T Q _ _ k => V_iconst (x := 1) (pc2 := 116) (dk D_X13_gives 72 rfl) (by decide) rfl k) ?_
    refine A_p (fun T Q _ _ k => V_isub (pc2 := 117) (dk D_X13_gives 73 rfl) rfl k) ?_
    obtain ⟨h8, h⟩ := h
    refine A_ist (pc2 := 118) 60 (dk D_X13_gives 74 rfl) rfl (by decide) rfl (by decide) rfl rfl h8 ?_
    have h := h _ rfl
    refine A_p (fun T Q _ _ k => V_aload_n (pc2 := 119) (dk D_X13_gives 75 rfl) rfl (V_lg 0 rfl) rfl k) ?_
    refine A_ar (pc2 := 122) (a := 44) 60 (dk D_X13_gives 76 rfl) fl_13_195 (by decide) (by decide) rfl (fun _ => rfl) rfl ?_
    refine A_p (fun T Q _ _ k => V_iload_n (pc2 := 123) (dk D_X13_gives 77 rfl) rfl (V_lg 3 rfl) rfl k) ?_
    obtain ⟨h10, h⟩ := h
    refine A_ild (pc2 := 124) 60 (dk D_X13_gives 78 rfl) rfl (by decide) rfl (by decide) rfl rfl h10 ?_
    refine A_if (pa := 134) (pb := 127) (fun T Q k1 k2 => V_ifle (tgt := 134) (pc2 := 127) (dk D_X13_gives 79 rfl) (by decide) rfl (fun q => k1 q) (fun q => k2 q)) (fun q11 => ?_) (fun q11 => ?_)
    · have h := h.1 q11
      refine A_p (fun T Q _ _ k => V_aload_n (pc2 := 135) (dk D_X13_gives 85 rfl) rfl (V_lg 0 rfl) rfl k) ?_
      refine A_ar (pc2 := 138) (a := 41) 57 (dk D_X13_gives 86 rfl) fl_13_185 (by decide) (by decide) rfl (fun _ => rfl) rfl ?_
      refine A_p (fun T Q _ _ k => V_iload_n (pc2 := 139) (dk D_X13_gives 87 rfl) rfl (V_lg 1 rfl) rfl k) ?_
      obtain ⟨h12, h⟩ := h
      refine A_zld (pc2 := 140) 57 (dk D_X13_gives 88 rfl) rfl (by decide) rfl (by decide) rfl rfl h12 ?_
      refine A_p (fun T Q _ _ k => V_istore (pc2 := 142) (lv2 := [(0, _), (1, _), (2, _), (3, _), (4, _), (5, _)]) (dk D_X13_gives 89 rfl) (by decide) rfl rfl k) ?_
      refine A_p (fun T Q _ _ k => V_aload_n (pc2 := 143) (dk D_X13_gives 90 rfl) rfl (V_lg 0 rfl) rfl k) ?_
      refine A_p (fun T Q _ _ k => V_iload_n (pc2 := 144) (dk D_X13_gives 91 rfl) rfl (V_lg 1 rfl) rfl k) ?_
      refine A_p (fun T Q _ _ k => V_iload (pc2 := 146) (dk D_X13_gives 92 rfl) (V_lg 5 rfl) rfl k) ?_
      refine A_if (pa := 154) (pb := 149) (fun T Q k1 k2 => V_ifeq (tgt := 154) (pc2 := 149) (dk D_X13_gives 93 rfl) (by decide) rfl (fun q => k1 q) (fun q => k2 q)) (fun q13 => ?_) (fun q13 => ?_)
      · have h := h.1 q13
        refine A_p (fun T Q _ _ k => V_iconst (x := 4) (pc2 := 155) (dk D_X13_gives 96 rfl) (by decide) rfl k) ?_
        exact h
      · have h := h.2 q13
        refine A_p (fun T Q _ _ k => V_bipush (x := 6) (pc2 := 151) (dk D_X13_gives 94 rfl) (by decide) rfl k) ?_
        refine A_p (fun T Q _ _ k => V_goto (tgt := 155) (dk D_X13_gives 95 rfl) (by decide) k) ?_
        exact h
    · have h := h.2 q11
      refine A_p (fun T Q _ _ k => V_aload_n (pc2 := 128) (dk D_X13_gives 80 rfl) rfl (V_lg 0 rfl) rfl k) ?_
      refine A_p (fun T Q _ _ k => V_iload_n (pc2 := 129) (dk D_X13_gives 81 rfl) rfl (V_lg 1 rfl) rfl k) ?_
      refine A_p (fun T Q _ _ k => V_iload_n (pc2 := 130) (dk D_X13_gives 82 rfl) rfl (V_lg 2 rfl) rfl k) ?_
      obtain ⟨e14, he15, hc16⟩ := h
      refine A_call (st := []) (pc2 := 133) (fun T Q Qc L hc k => V_callV (as := [_, _]) (st := []) (M' := MX13_push) (ci := 13) (pc2 := 133) (dk D_X13_gives 83 rfl) ml_13_497 mv_X13_push rfl rfl (by decide) rfl (Nat.le_of_ble_eq_true rfl) rfl he15 L.2.1 hc k) hc16 (aRV.k fun  s17 h => ?_)
      exact A_ret (fun T Q _ k => V_return (dk D_X13_gives 84 rfl) rfl k) h
  · have h := h.2 q3
    refine A_p (fun T Q _ _ k => V_sipush (x := 1500) (pc2 := 33) (dk D_X13_gives 18 rfl) (by decide) rfl k) ?_
    refine A_p (fun T Q _ _ k => V_iload_n (pc2 := 34) (dk D_X13_gives 19 rfl) rfl (V_lg 3 rfl) rfl k) ?_
    refine A_p (fun T Q _ _ k => V_imul (pc2 := 35) (dk D_X13_gives 20 rfl) rfl k) ?_
    refine A_p (fun T Q _ _ k => V_aload_n (pc2 := 36) (dk D_X13_gives 21 rfl) rfl (V_lg 0 rfl) rfl k) ?_
    refine A_ar (pc2 := 39) (a := 52) 68 (dk D_X13_gives 22 rfl) fl_13_219 (by decide) (by decide) rfl (fun _ => rfl) rfl ?_
    refine A_p (fun T Q _ _ k => V_iload_n (pc2 := 40) (dk D_X13_gives 23 rfl) rfl (V_lg 3 rfl) rfl k) ?_
    obtain ⟨h18, h⟩ := h
    refine A_ild (pc2 := 41) 68 (dk D_X13_gives 24 rfl) rfl (by decide) rfl (by decide) rfl rfl h18 ?_
    refine A_p (fun T Q _ _ k => V_iadd (pc2 := 42) (dk D_X13_gives 25 rfl) rfl k) ?_
    refine A_p (fun T Q _ _ k => V_iconst (x := 1) (pc2 := 43) (dk D_X13_gives 26 rfl) (by decide) rfl k) ?_
    refine A_p (fun T Q _ _ k => V_isub (pc2 := 44) (dk D_X13_gives 27 rfl) rfl k) ?_
    refine A_p (fun T Q _ _ k => V_istore (pc2 := 46) (lv2 := [(0, _), (1, _), (2, _), (3, _), (4, _), (5, _)]) (dk D_X13_gives 28 rfl) (by decide) rfl rfl k) ?_
    refine A_p (fun T Q _ _ k => V_aload_n (pc2 := 47) (dk D_X13_gives 29 rfl) rfl (V_lg 0 rfl) rfl k) ?_
    refine A_ar (pc2 := 50) (a := 54) 70 (dk D_X13_gives 30 rfl) fl_13_225 (by decide) (by decide) rfl (fun _ => rfl) rfl ?_
    refine A_p (fun T Q _ _ k => V_iload (pc2 := 52) (dk D_X13_gives 31 rfl) (V_lg 5 rfl) rfl k) ?_
    obtain ⟨h19, h⟩ := h
    refine A_ild (pc2 := 53) 70 (dk D_X13_gives 32 rfl) rfl (by decide) rfl (by decide) rfl rfl h19 ?_
    refine A_p (fun T Q _ _ k => V_iconst (x := 2) (pc2 := 54) (dk D_X13_gives 33 rfl) (by decide) rfl k) ?_
    refine A_if (pa := 82) (pb := 57) (fun T Q k1 k2 => V_cmpge (tgt := 82) (pc2 := 57) (dk D_X13_gives 34 rfl) (by decide) rfl (fun q => k1 q) (fun q => k2 q)) (fun q20 => ?_) (fun q20 => ?_)
    · have h := h.1 q20
      exact h
    · have h := h.2 q20
      refine A_p (fun T Q _ _ k => V_aload_n (pc2 := 58) (dk D_X13_gives 35 rfl) rfl (V_lg 0 rfl) rfl k) ?_
      refine A_ar (pc2 := 61) (a := 21) 27 (dk D_X13_gives 36 rfl) fl_13_125 (by decide) (by decide) rfl (fun _ => rfl) rfl ?_
      refine A_p (fun T Q _ _ k => V_aload_n (pc2 := 62) (dk D_X13_gives 37 rfl) rfl (V_lg 0 rfl) rfl k) ?_
      refine A_ar (pc2 := 65) (a := 53) 69 (dk D_X13_gives 38 rfl) fl_13_222 (by decide) (by decide) rfl (fun _ => rfl) rfl ?_
      refine A_p (fun T Q _ _ k => V_iload (pc2 := 67) (dk D_X13_gives 39 rfl) (V_lg 5 rfl) rfl k) ?_
      obtain ⟨h21, h⟩ := h
      refine A_ild (pc2 := 68) 69 (dk D_X13_gives 40 rfl) rfl (by decide) rfl (by decide) rfl rfl h21 ?_
      obtain ⟨h22, h⟩ := h
      refine A_ild (pc2 := 69) 27 (dk D_X13_gives 41 rfl) rfl (by decide) rfl (by decide) rfl rfl h22 ?_
      refine A_if (pa := 82) (pb := 72) (fun T Q k1 k2 => V_iflt (tgt := 82) (pc2 := 72) (dk D_X13_gives 42 rfl) (by decide) rfl (fun q => k1 q) (fun q => k2 q)) (fun q23 => ?_) (fun q23 => ?_)
      · have h := h.1 q23
        exact h
      · have h := h.2 q23
        refine A_p (fun T Q _ _ k => V_aload_n (pc2 := 73) (dk D_X13_gives 43 rfl) rfl (V_lg 0 rfl) rfl k) ?_
        refine A_p (fun T Q _ _ k => V_iload_n (pc2 := 74) (dk D_X13_gives 44 rfl) rfl (V_lg 1 rfl) rfl k) ?_
        refine A_p (fun T Q _ _ k => V_iload (pc2 := 76) (dk D_X13_gives 45 rfl) (V_lg 5 rfl) rfl k) ?_
        refine A_p (fun T Q _ _ k => V_iconst (x := 2) (pc2 := 77) (dk D_X13_gives 46 rfl) (by decide) rfl k) ?_
        refine A_p (fun T Q _ _ k => V_iload_n (pc2 := 78) (dk D_X13_gives 47 rfl) rfl (V_lg 2 rfl) rfl k) ?_
        obtain ⟨e24, he25, hc26⟩ := h
        refine A_call (st := []) (pc2 := 81) (fun T Q Qc L hc k => V_callV (as := [_, _, _, _]) (st := []) (M' := MX13_finishes) (ci := 13) (pc2 := 81) (dk D_X13_gives 48 rfl) ml_13_539 mv_X13_finishes rfl rfl (by decide) rfl (Nat.le_of_ble_eq_true rfl) rfl he25 L.2.1 hc k) hc26 (aRV.k fun  s27 h => ?_)
        exact A_ret (fun T Q _ k => V_return (dk D_X13_gives 49 rfl) rfl k) h
theorem a_gives_82 {X : Cx} {b d : Nat} {σ : Rm} {Q : Res → Rm → Prop} (x1 : Int32) (x2 : Int32) (x3 : Int32) (x4 : Int32) (x5 : Int32) (h : (vp_in x3 12) ∧ (vp_in x3 12) ∧ ∀ s3 : Rm, s3 = wI σ 68 ((x3 : Int32).toNatClampNeg) ((aI σ 68 (x3 : Int32).toNatClampNeg) - 1) → A X b d MX13_gives 14 [(0, vR b), (1, vI x1), (2, vI x2), (3, vI x3), (4, vI x4)] [] s3 Q) : A X b d MX13_gives 82 [(0, vR b), (1, vI x1), (2, vI x2), (3, vI x3), (4, vI x4), (5, vI x5)] [] σ Q := by
  refine A_p (fun T Q _ _ k => V_aload_n (pc2 := 83) (dk D_X13_gives 50 rfl) rfl (V_lg 0 rfl) rfl k) ?_
  refine A_ar (pc2 := 86) (a := 52) 68 (dk D_X13_gives 51 rfl) fl_13_219 (by decide) (by decide) rfl (fun _ => rfl) rfl ?_
  refine A_p (fun T Q _ _ k => V_iload_n (pc2 := 87) (dk D_X13_gives 52 rfl) rfl (V_lg 3 rfl) rfl k) ?_
  refine A_p (fun T Q _ _ k => V_dup2 (pc2 := 88) (dk D_X13_gives 53 rfl) rfl rfl rfl k) ?_
  obtain ⟨h1, h⟩ := h
  refine A_ild (pc2 := 89) 68 (dk D_X13_gives 54 rfl) rfl (by decide) rfl (by decide) rfl rfl h1 ?_
  refine A_p (fun T Q _ _ k => V_iconst (x := 1) (pc2 := 90) (dk D_X13_gives 55 rfl) (by decide) rfl k) ?_
  refine A_p (fun T Q _ _ k => V_isub (pc2 := 91) (dk D_X13_gives 56 rfl) rfl k) ?_
  obtain ⟨h2, h⟩ := h
  refine A_ist (pc2 := 92) 68 (dk D_X13_gives 57 rfl) rfl (by decide) rfl (by decide) rfl rfl h2 ?_
  have h := h _ rfl
  refine A_p (fun T Q _ _ k => V_goto (tgt := 14) (dk D_X13_gives 58 rfl) (by decide) k) ?_
  refine A_p (fun T Q _ _ k => V_pick [0, 1, 2, 3, 4] (lv2 := [(0, _), (1, _), (2, _), (3, _), (4, _)]) rfl k) ?_
  exact h
theorem a_gives_155 {X : Cx} {b d : Nat} {σ : Rm} {Q : Res → Rm → Prop} (x1 : Int32) (x2 : Int32) (x3 : Int32) (x4 : Int32) (x5 : Int32) (t1 : Int32) (t2 : Int32) (h : ∃ e1 : Nat, e1 + 1 ≤ d ∧ AC X b e1 MX13_over [vR b, vI t1, vI t2] σ (aRV fun  s4 => (vp_in x1 61) ∧ ∃ e6 : Nat, e6 + 1 ≤ d ∧ AC X b e6 MX13_hands [vR b, vI x1, vI (aI s4 54 (x1 : Int32).toNatClampNeg)] s4 (aRV fun  s9 => (vp_in x1 61) ∧ ∃ e11 : Nat, e11 + 1 ≤ d ∧ AC X b e11 MX13_comes [vR b, vI (aI s9 54 (x1 : Int32).toNatClampNeg), vI x2, vI 1, vI x5] s9 (aRV fun  s14 => Q (.inl none) s14)))) : A X b d MX13_gives 155 [(0, vR b), (1, vI x1), (2, vI x2), (3, vI x3), (4, vI x4), (5, vI x5)] [vI t2, vI t1, vR b] σ Q := by
  obtain ⟨e1, he2, hc3⟩ := h
  refine A_call (st := []) (pc2 := 158) (fun T Q Qc L hc k => V_callV (as := [_, _]) (st := []) (M' := MX13_over) (ci := 13) (pc2 := 158) (dk D_X13_gives 97 rfl) ml_13_513 mv_X13_over rfl rfl (by decide) rfl (Nat.le_of_ble_eq_true rfl) rfl he2 L.2.1 hc k) hc3 (aRV.k fun  s4 h => ?_)
  refine A_p (fun T Q _ _ k => V_aload_n (pc2 := 159) (dk D_X13_gives 98 rfl) rfl (V_lg 0 rfl) rfl k) ?_
  refine A_p (fun T Q _ _ k => V_iload_n (pc2 := 160) (dk D_X13_gives 99 rfl) rfl (V_lg 1 rfl) rfl k) ?_
  refine A_p (fun T Q _ _ k => V_aload_n (pc2 := 161) (dk D_X13_gives 100 rfl) rfl (V_lg 0 rfl) rfl k) ?_
  refine A_ar (pc2 := 164) (a := 38) 54 (dk D_X13_gives 101 rfl) fl_13_176 (by decide) (by decide) rfl (fun _ => rfl) rfl ?_
  refine A_p (fun T Q _ _ k => V_iload_n (pc2 := 165) (dk D_X13_gives 102 rfl) rfl (V_lg 1 rfl) rfl k) ?_
  obtain ⟨h5, h⟩ := h
  refine A_ild (pc2 := 166) 54 (dk D_X13_gives 103 rfl) rfl (by decide) rfl (by decide) rfl rfl h5 ?_
  obtain ⟨e6, he7, hc8⟩ := h
  refine A_call (st := []) (pc2 := 169) (fun T Q Qc L hc k => V_callV (as := [_, _]) (st := []) (M' := MX13_hands) (ci := 13) (pc2 := 169) (dk D_X13_gives 104 rfl) ml_13_516 mv_X13_hands rfl rfl (by decide) rfl (Nat.le_of_ble_eq_true rfl) rfl he7 L.2.1 hc k) hc8 (aRV.k fun  s9 h => ?_)
  refine A_p (fun T Q _ _ k => V_aload_n (pc2 := 170) (dk D_X13_gives 105 rfl) rfl (V_lg 0 rfl) rfl k) ?_
  refine A_p (fun T Q _ _ k => V_aload_n (pc2 := 171) (dk D_X13_gives 106 rfl) rfl (V_lg 0 rfl) rfl k) ?_
  refine A_ar (pc2 := 174) (a := 38) 54 (dk D_X13_gives 107 rfl) fl_13_176 (by decide) (by decide) rfl (fun _ => rfl) rfl ?_
  refine A_p (fun T Q _ _ k => V_iload_n (pc2 := 175) (dk D_X13_gives 108 rfl) rfl (V_lg 1 rfl) rfl k) ?_
  obtain ⟨h10, h⟩ := h
  refine A_ild (pc2 := 176) 54 (dk D_X13_gives 109 rfl) rfl (by decide) rfl (by decide) rfl rfl h10 ?_
  refine A_p (fun T Q _ _ k => V_iload_n (pc2 := 177) (dk D_X13_gives 110 rfl) rfl (V_lg 2 rfl) rfl k) ?_
  refine A_p (fun T Q _ _ k => V_iconst (x := 1) (pc2 := 178) (dk D_X13_gives 111 rfl) (by decide) rfl k) ?_
  refine A_p (fun T Q _ _ k => V_iload (pc2 := 180) (dk D_X13_gives 112 rfl) (V_lg 5 rfl) rfl k) ?_
  obtain ⟨e11, he12, hc13⟩ := h
  refine A_call (st := []) (pc2 := 183) (fun T Q Qc L hc k => V_callV (as := [_, _, _, _]) (st := []) (M' := MX13_comes) (ci := 13) (pc2 := 183) (dk D_X13_gives 113 rfl) ml_13_550 mv_X13_comes rfl rfl (by decide) rfl (Nat.le_of_ble_eq_true rfl) rfl he12 L.2.1 hc k) hc13 (aRV.k fun  s14 h => ?_)
  exact A_ret (fun T Q _ k => V_return (dk D_X13_gives 114 rfl) rfl k) h
theorem a_comes_0 {X : Cx} {b d : Nat} {σ : Rm} {Q : Res → Rm → Prop} (x1 : Int32) (x2 : Int32) (x3 : Int32) (x4 : Int32) (h : ∀ s1 : Rm, s1 = wS σ 77 x1 → ((x1 = 0 → ((x3 = 0 → A X b d MX13_comes 19 [(0, vR b), (1, vI x1), (2, vI x2), (3, vI x3), (4, vI x4)] [vI 0, vR b] s1 Q) ∧ (¬ x3 = 0 → A X b d MX13_comes 19 [(0, vR b), (1, vI x1), (2, vI x2), (3, vI x3), (4, vI x4)] [vI 1, vR b] s1 Q))) ∧ (¬ x1 = 0 → (vp_in x1 61) ∧ ∀ s5 : Rm, s5 = wI s1 49 ((x1 : Int32).toNatClampNeg) 2 → ∃ e6 : Nat, e6 + 1 ≤ d ∧ AC X b e6 MX13_call [vR b, vI x1] s5 (aRI fun y9 s10 => (vp_in x1 61) ∧ (((aI s10 56 (x1 : Int32).toNatClampNeg) = 1 → ∃ e13 : Nat, e13 + 1 ≤ d ∧ AC X b e13 MX13_push [vR b, vI x1, vI x2] s10 (aRV fun  s16 => A X b d MX13_comes 134 [(0, vR b), (1, vI x1), (2, vI x2), (3, vI x3), (4, vI x4), (5, vI y9)] [] s16 Q)) ∧ (¬ (aI s10 56 (x1 : Int32).toNatClampNeg) = 1 → (vp_in x1 61) ∧ (((aI s10 56 (x1 : Int32).toNatClampNeg) = 2 → (vp_in y9 720) ∧ ((x3 = 0 → (vp_in ((aI s10 62 (y9 : Int32).toNatClampNeg) - 1) 12000) ∧ (vp_in ((40 * y9) + (aI s10 14 (((aI s10 62 (y9 : Int32).toNatClampNeg) - 1) : Int32).toNatClampNeg)) 28800) ∧ ∀ s23 : Rm, s23 = wI s10 66 ((((40 * y9) + (aI s10 14 (((aI s10 62 (y9 : Int32).toNatClampNeg) - 1) : Int32).toNatClampNeg)) : Int32).toNatClampNeg) x2 → A X b d MX13_comes 134 [(0, vR b), (1, vI x1), (2, vI x2), (3, vI x3), (4, vI x4), (5, vI y9)] [] s23 Q) ∧ (¬ x3 = 0 → (vp_in ((aI s10 62 (y9 : Int32).toNatClampNeg) - 1) 12000) ∧ (vp_in y9 720) ∧ ∀ s26 : Rm, s26 = wI s10 62 ((y9 : Int32).toNatClampNeg) (aI s10 16 (((aI s10 62 (y9 : Int32).toNatClampNeg) - 1) : Int32).toNatClampNeg) → A X b d MX13_comes 134 [(0, vR b), (1, vI x1), (2, vI x2), (3, vI x3), (4, vI x4), (5, vI y9)] [] s26 Q))) ∧ (¬ (aI s10 56 (x1 : Int32).toNatClampNeg) = 2 → A X b d MX13_comes 134 [(0, vR b), (1, vI x1), (2, vI x2), (3, vI x3), (4, vI x4), (5, vI y9)] [] s10 Q)))))))) : A X b d MX13_comes 0 [(0, vR b), (1, vI x1), (2, vI x2), (3, vI x3), (4, vI x4)] [] σ Q := by
  refine A_p (fun T Q _ _ k => V_aload_n (pc2 := 1) (dk D_X13_comes 0 rfl) rfl (V_lg 0 rfl) rfl k) ?_
  refine A_p (fun T Q _ _ k => V_iload_n (pc2 := 2) (dk D_X13_comes 1 rfl) rfl (V_lg 1 rfl) rfl k) ?_
  refine A_put (pc2 := 5) 77 (dk D_X13_comes 2 rfl) fl_13_473 (by decide) rfl rfl rfl rfl ?_
  have h := h _ rfl
  refine A_p (fun T Q _ _ k => V_iload_n (pc2 := 6) (dk D_X13_comes 3 rfl) rfl (V_lg 1 rfl) rfl k) ?_
  refine A_if (pa := 9) (pb := 40) (fun T Q k1 k2 => V_ifne (tgt := 40) (pc2 := 9) (dk D_X13_comes 4 rfl) (by decide) rfl (fun q => k2 q) (fun q => k1 q)) (fun q2 => ?_) (fun q2 => ?_)
  · have h := h.1 q2
    refine A_p (fun T Q _ _ k => V_aload_n (pc2 := 10) (dk D_X13_comes 5 rfl) rfl (V_lg 0 rfl) rfl k) ?_
    refine A_p (fun T Q _ _ k => V_iload_n (pc2 := 11) (dk D_X13_comes 6 rfl) rfl (V_lg 3 rfl) rfl k) ?_
    refine A_if (pa := 18) (pb := 14) (fun T Q k1 k2 => V_ifeq (tgt := 18) (pc2 := 14) (dk D_X13_comes 7 rfl) (by decide) rfl (fun q => k1 q) (fun q => k2 q)) (fun q3 => ?_) (fun q3 => ?_)
    · have h := h.1 q3
      refine A_p (fun T Q _ _ k => V_iconst (x := 0) (pc2 := 19) (dk D_X13_comes 10 rfl) (by decide) rfl k) ?_
      exact h
    · have h := h.2 q3
      refine A_p (fun T Q _ _ k => V_iconst (x := 1) (pc2 := 15) (dk D_X13_comes 8 rfl) (by decide) rfl k) ?_
      refine A_p (fun T Q _ _ k => V_goto (tgt := 19) (dk D_X13_comes 9 rfl) (by decide) k) ?_
      exact h
  · have h := h.2 q2
    refine A_p (fun T Q _ _ k => V_aload_n (pc2 := 41) (dk D_X13_comes 21 rfl) rfl (V_lg 0 rfl) rfl k) ?_
    refine A_ar (pc2 := 44) (a := 33) 49 (dk D_X13_comes 22 rfl) fl_13_161 (by decide) (by decide) rfl (fun _ => rfl) rfl ?_
    refine A_p (fun T Q _ _ k => V_iload_n (pc2 := 45) (dk D_X13_comes 23 rfl) rfl (V_lg 1 rfl) rfl k) ?_
    refine A_p (fun T Q _ _ k => V_iconst (x := 2) (pc2 := 46) (dk D_X13_comes 24 rfl) (by decide) rfl k) ?_
    obtain ⟨h4, h⟩ := h
    refine A_ist (pc2 := 47) 49 (dk D_X13_comes 25 rfl) rfl (by decide) rfl (by decide) rfl rfl h4 ?_
    have h := h _ rfl
    refine A_p (fun T Q _ _ k => V_aload_n (pc2 := 48) (dk D_X13_comes 26 rfl) rfl (V_lg 0 rfl) rfl k) ?_
    refine A_p (fun T Q _ _ k => V_iload_n (pc2 := 49) (dk D_X13_comes 27 rfl) rfl (V_lg 1 rfl) rfl k) ?_
    obtain ⟨e6, he7, hc8⟩ := h
    refine A_call (st := []) (pc2 := 52) (fun T Q Qc L hc k => V_callV (as := [_]) (st := []) (M' := MX13_call) (ci := 13) (pc2 := 52) (dk D_X13_comes 28 rfl) ml_13_504 mv_X13_call rfl rfl (by decide) rfl (Nat.le_of_ble_eq_true rfl) rfl he7 L.2.1 hc k) hc8 (aRI.k fun y9 s10 h => ?_)
    refine A_p (fun T Q _ _ k => V_istore (pc2 := 54) (lv2 := [(0, _), (1, _), (2, _), (3, _), (4, _), (5, _)]) (dk D_X13_comes 29 rfl) (by decide) rfl rfl k) ?_
    refine A_p (fun T Q _ _ k => V_aload_n (pc2 := 55) (dk D_X13_comes 30 rfl) rfl (V_lg 0 rfl) rfl k) ?_
    refine A_ar (pc2 := 58) (a := 40) 56 (dk D_X13_comes 31 rfl) fl_13_182 (by decide) (by decide) rfl (fun _ => rfl) rfl ?_
    refine A_p (fun T Q _ _ k => V_iload_n (pc2 := 59) (dk D_X13_comes 32 rfl) rfl (V_lg 1 rfl) rfl k) ?_
    obtain ⟨h11, h⟩ := h
    refine A_ild (pc2 := 60) 56 (dk D_X13_comes 33 rfl) rfl (by decide) rfl (by decide) rfl rfl h11 ?_
    refine A_p (fun T Q _ _ k => V_iconst (x := 1) (pc2 := 61) (dk D_X13_comes 34 rfl) (by decide) rfl k) ?_
    refine A_if (pa := 64) (pb := 73) (fun T Q k1 k2 => V_cmpne (tgt := 73) (pc2 := 64) (dk D_X13_comes 35 rfl) (by decide) rfl (fun q => k2 q) (fun q => k1 q)) (fun q12 => ?_) (fun q12 => ?_)
    · have h := h.1 q12
      refine A_p (fun T Q _ _ k => V_aload_n (pc2 := 65) (dk D_X13_comes 36 rfl) rfl (V_lg 0 rfl) rfl k) ?_
      refine A_p (fun T Q _ _ k => V_iload_n (pc2 := 66) (dk D_X13_comes 37 rfl) rfl (V_lg 1 rfl) rfl k) ?_
      refine A_p (fun T Q _ _ k => V_iload_n (pc2 := 67) (dk D_X13_comes 38 rfl) rfl (V_lg 2 rfl) rfl k) ?_
      obtain ⟨e13, he14, hc15⟩ := h
      refine A_call (st := []) (pc2 := 70) (fun T Q Qc L hc k => V_callV (as := [_, _]) (st := []) (M' := MX13_push) (ci := 13) (pc2 := 70) (dk D_X13_comes 39 rfl) ml_13_497 mv_X13_push rfl rfl (by decide) rfl (Nat.le_of_ble_eq_true rfl) rfl he14 L.2.1 hc k) hc15 (aRV.k fun  s16 h => ?_)
      refine A_p (fun T Q _ _ k => V_goto (tgt := 134) (dk D_X13_comes 40 rfl) (by decide) k) ?_
      exact h
    · have h := h.2 q12
      refine A_p (fun T Q _ _ k => V_aload_n (pc2 := 74) (dk D_X13_comes 41 rfl) rfl (V_lg 0 rfl) rfl k) ?_
      refine A_ar (pc2 := 77) (a := 40) 56 (dk D_X13_comes 42 rfl) fl_13_182 (by decide) (by decide) rfl (fun _ => rfl) rfl ?_
      refine A_p (fun T Q _ _ k => V_iload_n (pc2 := 78) (dk D_X13_comes 43 rfl) rfl (V_lg 1 rfl) rfl k) ?_
      obtain ⟨h17, h⟩ := h
      refine A_ild (pc2 := 79) 56 (dk D_X13_comes 44 rfl) rfl (by decide) rfl (by decide) rfl rfl h17 ?_
      refine A_p (fun T Q _ _ k => V_iconst (x := 2) (pc2 := 80) (dk D_X13_comes 45 rfl) (by decide) rfl k) ?_
      refine A_if (pa := 83) (pb := 134) (fun T Q k1 k2 => V_cmpne (tgt := 134) (pc2 := 83) (dk D_X13_comes 46 rfl) (by decide) rfl (fun q => k2 q) (fun q => k1 q)) (fun q18 => ?_) (fun q18 => ?_)
      · have h := h.1 q18
        refine A_p (fun T Q _ _ k => V_aload_n (pc2 := 84) (dk D_X13_comes 47 rfl) rfl (V_lg 0 rfl) rfl k) ?_
        refine A_ar (pc2 := 87) (a := 46) 62 (dk D_X13_comes 48 rfl) fl_13_201 (by decide) (by decide) rfl (fun _ => rfl) rfl ?_
        refine A_p (fun T Q _ _ k => V_iload (pc2 := 89) (dk D_X13_comes 49 rfl) (V_lg 5 rfl) rfl k) ?_
        obtain ⟨h19, h⟩ := h
        refine A_ild (pc2 := 90) 62 (dk D_X13_comes 50 rfl) rfl (by decide) rfl (by decide) rfl rfl h19 ?_
        refine A_p (fun T Q _ _ k => V_iconst (x := 1) (pc2 := 91) (dk D_X13_comes 51 rfl) (by decide) rfl k) ?_
        refine A_p (fun T Q _ _ k => V_isub (pc2 := 92) (dk D_X13_comes 52 rfl) rfl k) ?_
        refine A_p (fun T Q _ _ k => V_istore (pc2 := 94) (lv2 := [(0, _), (1, _), (2, _), (3, _), (4, _), (5, _), (6, _)]) (dk D_X13_comes 53 rfl) (by decide) rfl rfl k) ?_
        refine A_p (fun T Q _ _ k => V_iload_n (pc2 := 95) (dk D_X13_comes 54 rfl) rfl (V_lg 3 rfl) rfl k) ?_
        refine A_if (pa := 115) (pb := 98) (fun T Q k1 k2 => V_ifeq (tgt := 115) (pc2 := 98) (dk D_X13_comes 55 rfl) (by decide) rfl (fun q => k1 q) (fun q => k2 q)) (fun q20 => ?_) (fun q20 => ?_)
        · have h := h.1 q20
          refine A_p (fun T Q _ _ k => V_aload_n (pc2 := 116) (dk D_X13_comes 65 rfl) rfl (V_lg 0 rfl) rfl k) ?_
          refine A_ar (pc2 := 119) (a := 50) 66 (dk D_X13_comes 66 rfl) fl_13_213 (by decide) (by decide) rfl (fun _ => rfl) rfl ?_
          refine A_p (fun T Q _ _ k => V_bipush (x := 40) (pc2 := 121) (dk D_X13_comes 67 rfl) (by decide) rfl k) ?_
          refine A_p (fun T Q _ _ k => V_iload (pc2 := 123) (dk D_X13_comes 68 rfl) (V_lg 5 rfl) rfl k) ?_
          refine A_p (fun T Q _ _ k => V_imul (pc2 := 124) (dk D_X13_comes 69 rfl) rfl k) ?_
          refine A_p (fun T Q _ _ k => V_aload_n (pc2 := 125) (dk D_X13_comes 70 rfl) rfl (V_lg 0 rfl) rfl k) ?_
          refine A_ar (pc2 := 128) (a := 11) 14 (dk D_X13_comes 71 rfl) fl_13_95 (by decide) (by decide) rfl (fun _ => rfl) rfl ?_
          refine A_p (fun T Q _ _ k => V_iload (pc2 := 130) (dk D_X13_comes 72 rfl) (V_lg 6 rfl) rfl k) ?_
          obtain ⟨h21, h⟩ := h
          refine A_ild (pc2 := 131) 14 (dk D_X13_comes 73 rfl) rfl (by decide) rfl (by decide) rfl rfl h21 ?_
          refine A_p (fun T Q _ _ k => V_iadd (pc2 := 132) (dk D_X13_comes 74 rfl) rfl k) ?_
          refine A_p (fun T Q _ _ k => V_iload_n (pc2 := 133) (dk D_X13_comes 75 rfl) rfl (V_lg 2 rfl) rfl k) ?_
          obtain ⟨h22, h⟩ := h
          refine A_ist (pc2 := 134) 66 (dk D_X13_comes 76 rfl) rfl (by decide) rfl (by decide) rfl rfl h22 ?_
          have h := h _ rfl
          refine A_p (fun T Q _ _ k => V_pick [0, 1, 2, 3, 4, 5] (lv2 := [(0, _), (1, _), (2, _), (3, _), (4, _), (5, _)]) rfl k) ?_
          exact h
        · have h := h.2 q20
          refine A_p (fun T Q _ _ k => V_aload_n (pc2 := 99) (dk D_X13_comes 56 rfl) rfl (V_lg 0 rfl) rfl k) ?_
          refine A_ar (pc2 := 102) (a := 46) 62 (dk D_X13_comes 57 rfl) fl_13_201 (by decide) (by decide) rfl (fun _ => rfl) rfl ?_
          refine A_p (fun T Q _ _ k => V_iload (pc2 := 104) (dk D_X13_comes 58 rfl) (V_lg 5 rfl) rfl k) ?_
          refine A_p (fun T Q _ _ k => V_aload_n (pc2 := 105) (dk D_X13_comes 59 rfl) rfl (V_lg 0 rfl) rfl k) ?_
          refine A_ar (pc2 := 108) (a := 13) 16 (dk D_X13_comes 60 rfl) fl_13_101 (by decide) (by decide) rfl (fun _ => rfl) rfl ?_
          refine A_p (fun T Q _ _ k => V_iload (pc2 := 110) (dk D_X13_comes 61 rfl) (V_lg 6 rfl) rfl k) ?_
          obtain ⟨h24, h⟩ := h
          refine A_ild (pc2 := 111) 16 (dk D_X13_comes 62 rfl) rfl (by decide) rfl (by decide) rfl rfl h24 ?_
          obtain ⟨h25, h⟩ := h
          refine A_ist (pc2 := 112) 62 (dk D_X13_comes 63 rfl) rfl (by decide) rfl (by decide) rfl rfl h25 ?_
          have h := h _ rfl
          refine A_p (fun T Q _ _ k => V_goto (tgt := 134) (dk D_X13_comes 64 rfl) (by decide) k) ?_
          refine A_p (fun T Q _ _ k => V_pick [0, 1, 2, 3, 4, 5] (lv2 := [(0, _), (1, _), (2, _), (3, _), (4, _), (5, _)]) rfl k) ?_
          exact h
      · have h := h.2 q18
        exact h
theorem a_comes_19 {X : Cx} {b d : Nat} {σ : Rm} {Q : Res → Rm → Prop} (x1 : Int32) (x2 : Int32) (x3 : Int32) (x4 : Int32) (t1 : Int32) (h : ∀ s1 : Rm, s1 = wS σ 78 t1 → ((x4 = 0 → A X b d MX13_comes 36 [(0, vR b), (1, vI x1), (2, vI x2), (3, vI x3), (4, vI x4)] [vI x2, vR b] s1 Q) ∧ (¬ x4 = 0 → A X b d MX13_comes 36 [(0, vR b), (1, vI x1), (2, vI x2), (3, vI x3), (4, vI x4)] [vI (sI s1 79), vR b] s1 Q))) : A X b d MX13_comes 19 [(0, vR b), (1, vI x1), (2, vI x2), (3, vI x3), (4, vI x4)] [vI t1, vR b] σ Q := by
  refine A_put (pc2 := 22) 78 (dk D_X13_comes 11 rfl) fl_13_519 (by decide) rfl rfl rfl rfl ?_
  have h := h _ rfl
  refine A_p (fun T Q _ _ k => V_aload_n (pc2 := 23) (dk D_X13_comes 12 rfl) rfl (V_lg 0 rfl) rfl k) ?_
  refine A_p (fun T Q _ _ k => V_iload (pc2 := 25) (dk D_X13_comes 13 rfl) (V_lg 4 rfl) rfl k) ?_
  refine A_if (pa := 35) (pb := 28) (fun T Q k1 k2 => V_ifeq (tgt := 35) (pc2 := 28) (dk D_X13_comes 14 rfl) (by decide) rfl (fun q => k1 q) (fun q => k2 q)) (fun q2 => ?_) (fun q2 => ?_)
  · have h := h.1 q2
    refine A_p (fun T Q _ _ k => V_iload_n (pc2 := 36) (dk D_X13_comes 18 rfl) rfl (V_lg 2 rfl) rfl k) ?_
    exact h
  · have h := h.2 q2
    refine A_p (fun T Q _ _ k => V_aload_n (pc2 := 29) (dk D_X13_comes 15 rfl) rfl (V_lg 0 rfl) rfl k) ?_
    refine A_sc (pc2 := 32) 79 (dk D_X13_comes 16 rfl) fl_13_476 (by decide) rfl (fun _ => rfl) rfl ?_
    refine A_p (fun T Q _ _ k => V_goto (tgt := 36) (dk D_X13_comes 17 rfl) (by decide) k) ?_
    exact h
theorem a_comes_36 {X : Cx} {b d : Nat} {σ : Rm} {Q : Res → Rm → Prop} (x1 : Int32) (x2 : Int32) (x3 : Int32) (x4 : Int32) (t1 : Int32) (h : ∀ s1 : Rm, s1 = wS σ 79 t1 → Q (.inl none) s1) : A X b d MX13_comes 36 [(0, vR b), (1, vI x1), (2, vI x2), (3, vI x3), (4, vI x4)] [vI t1, vR b] σ Q := by
  refine A_put (pc2 := 39) 79 (dk D_X13_comes 19 rfl) fl_13_476 (by decide) rfl rfl rfl rfl ?_
  have h := h _ rfl
  exact A_ret (fun T Q _ k => V_return (dk D_X13_comes 20 rfl) rfl k) h
theorem a_comes_134 {X : Cx} {b d : Nat} {σ : Rm} {Q : Res → Rm → Prop} (x1 : Int32) (x2 : Int32) (x3 : Int32) (x4 : Int32) (x5 : Int32) (h : Q (.inl none) σ) : A X b d MX13_comes 134 [(0, vR b), (1, vI x1), (2, vI x2), (3, vI x3), (4, vI x4), (5, vI x5)] [] σ Q := by
  exact A_ret (fun T Q _ k => V_return (dk D_X13_comes 77 rfl) rfl k) h
theorem a_isMisuse_0 {X : Cx} {b d : Nat} {σ : Rm} {Q : Res → Rm → Prop} (x1 : Int32) (x2 : Int32) (h : ∃ e1 : Nat, e1 + 1 ≤ d ∧ AC X b e1 MX13_isVoice [vR b, vI x2] σ (aRI fun y4 s5 => ((y4 = 0 → A X b d MX13_isMisuse 20 [(0, vR b), (1, vI x1), (2, vI x2)] [] s5 Q) ∧ (¬ y4 = 0 → (vp_in x2 61) ∧ ((1 < (aI s5 49 (x2 : Int32).toNatClampNeg) → A X b d MX13_isMisuse 20 [(0, vR b), (1, vI x1), (2, vI x2)] [] s5 Q) ∧ (¬ 1 < (aI s5 49 (x2 : Int32).toNatClampNeg) → Q (.inl (some (vI 0))) s5)))))) : A X b d MX13_isMisuse 0 [(0, vR b), (1, vI x1), (2, vI x2)] [] σ Q := by
  refine A_p (fun T Q _ _ k => V_aload_n (pc2 := 1) (dk D_X13_isMisuse 0 rfl) rfl (V_lg 0 rfl) rfl k) ?_
  refine A_p (fun T Q _ _ k => V_iload_n (pc2 := 2) (dk D_X13_isMisuse 1 rfl) rfl (V_lg 2 rfl) rfl k) ?_
  obtain ⟨e1, he2, hc3⟩ := h
  refine A_call (st := []) (pc2 := 5) (fun T Q Qc L hc k => V_callV (as := [_]) (st := []) (M' := MX13_isVoice) (ci := 13) (pc2 := 5) (dk D_X13_isMisuse 2 rfl) ml_13_554 mv_X13_isVoice rfl rfl (by decide) rfl (Nat.le_of_ble_eq_true rfl) rfl he2 L.2.1 hc k) hc3 (aRI.k fun y4 s5 h => ?_)
  refine A_if (pa := 20) (pb := 8) (fun T Q k1 k2 => V_ifeq (tgt := 20) (pc2 := 8) (dk D_X13_isMisuse 3 rfl) (by decide) rfl (fun q => k1 q) (fun q => k2 q)) (fun q6 => ?_) (fun q6 => ?_)
  · have h := h.1 q6
    exact h
  · have h := h.2 q6
    refine A_p (fun T Q _ _ k => V_aload_n (pc2 := 9) (dk D_X13_isMisuse 4 rfl) rfl (V_lg 0 rfl) rfl k) ?_
    refine A_ar (pc2 := 12) (a := 33) 49 (dk D_X13_isMisuse 5 rfl) fl_13_161 (by decide) (by decide) rfl (fun _ => rfl) rfl ?_
    refine A_p (fun T Q _ _ k => V_iload_n (pc2 := 13) (dk D_X13_isMisuse 6 rfl) rfl (V_lg 2 rfl) rfl k) ?_
    obtain ⟨h7, h⟩ := h
    refine A_ild (pc2 := 14) 49 (dk D_X13_isMisuse 7 rfl) rfl (by decide) rfl (by decide) rfl rfl h7 ?_
    refine A_p (fun T Q _ _ k => V_iconst (x := 1) (pc2 := 15) (dk D_X13_isMisuse 8 rfl) (by decide) rfl k) ?_
    refine A_if (pa := 20) (pb := 18) (fun T Q k1 k2 => V_cmpgt (tgt := 20) (pc2 := 18) (dk D_X13_isMisuse 9 rfl) (by decide) rfl (fun q => k1 q) (fun q => k2 q)) (fun q8 => ?_) (fun q8 => ?_)
    · have h := h.1 q8
      exact h
    · have h := h.2 q8
      refine A_p (fun T Q _ _ k => V_iconst (x := 0) (pc2 := 19) (dk D_X13_isMisuse 10 rfl) (by decide) rfl k) ?_
      exact A_ret (fun T Q _ k => V_zreturn (dk D_X13_isMisuse 11 rfl) rfl (Or.inl rfl) k) h
theorem a_isMisuse_20 {X : Cx} {b d : Nat} {σ : Rm} {Q : Res → Rm → Prop} (x1 : Int32) (x2 : Int32) (h : ∃ e1 : Nat, e1 + 1 ≤ d ∧ AC X b e1 MX13_ringOf [vR b, vI x1, vI x2] σ (aRV fun  s4 => Q (.inl (some (vI 1))) s4)) : A X b d MX13_isMisuse 20 [(0, vR b), (1, vI x1), (2, vI x2)] [] σ Q := by
  refine A_p (fun T Q _ _ k => V_aload_n (pc2 := 21) (dk D_X13_isMisuse 12 rfl) rfl (V_lg 0 rfl) rfl k) ?_
  refine A_p (fun T Q _ _ k => V_iload_n (pc2 := 22) (dk D_X13_isMisuse 13 rfl) rfl (V_lg 1 rfl) rfl k) ?_
  refine A_p (fun T Q _ _ k => V_iload_n (pc2 := 23) (dk D_X13_isMisuse 14 rfl) rfl (V_lg 2 rfl) rfl k) ?_
  obtain ⟨e1, he2, hc3⟩ := h
  refine A_call (st := []) (pc2 := 26) (fun T Q Qc L hc k => V_callV (as := [_, _]) (st := []) (M' := MX13_ringOf) (ci := 13) (pc2 := 26) (dk D_X13_isMisuse 15 rfl) ml_13_557 mv_X13_ringOf rfl rfl (by decide) rfl (Nat.le_of_ble_eq_true rfl) rfl he2 L.2.1 hc k) hc3 (aRV.k fun  s4 h => ?_)
  refine A_p (fun T Q _ _ k => V_iconst (x := 1) (pc2 := 27) (dk D_X13_isMisuse 16 rfl) (by decide) rfl k) ?_
  exact A_ret (fun T Q _ k => V_zreturn (dk D_X13_isMisuse 17 rfl) rfl (Or.inr rfl) k) h
theorem a_ringOf_0 {X : Cx} {b d : Nat} {σ : Rm} {Q : Res → Rm → Prop} (x1 : Int32) (x2 : Int32) (h : ∃ e1 : Nat, e1 + 1 ≤ d ∧ AC X b e1 MX13_isVoice [vR b, vI x2] σ (aRI fun y4 s5 => ((y4 = 0 → A X b d MX13_ringOf 28 [(0, vR b), (1, vI x1), (2, vI x2)] [] s5 Q) ∧ (¬ y4 = 0 → (vp_in x2 61) ∧ (((aI s5 49 (x2 : Int32).toNatClampNeg) = 2 → A X b d MX13_ringOf 29 [(0, vR b), (1, vI x1), (2, vI x2)] [] s5 Q) ∧ (¬ (aI s5 49 (x2 : Int32).toNatClampNeg) = 2 → (vp_in x2 61) ∧ (((aI s5 49 (x2 : Int32).toNatClampNeg) = 3 → A X b d MX13_ringOf 29 [(0, vR b), (1, vI x1), (2, vI x2)] [] s5 Q) ∧ (¬ (aI s5 49 (x2 : Int32).toNatClampNeg) = 3 → A X b d MX13_ringOf 28 [(0, vR b), (1, vI x1), (2, vI x2)] [] s5 Q)))))))) : A X b d MX13_ringOf 0 [(0, vR b), (1, vI x1), (2, vI x2)] [] σ Q := by
  refine A_p (fun T Q _ _ k => V_aload_n (pc2 := 1) (dk D_X13_ringOf 0 rfl) rfl (V_lg 0 rfl) rfl k) ?_
  refine A_p (fun T Q _ _ k => V_iload_n (pc2 := 2) (dk D_X13_ringOf 1 rfl) rfl (V_lg 2 rfl) rfl k) ?_
  obtain ⟨e1, he2, hc3⟩ := h
  refine A_call (st := []) (pc2 := 5) (fun T Q Qc L hc k => V_callV (as := [_]) (st := []) (M' := MX13_isVoice) (ci := 13) (pc2 := 5) (dk D_X13_ringOf 2 rfl) ml_13_554 mv_X13_isVoice rfl rfl (by decide) rfl (Nat.le_of_ble_eq_true rfl) rfl he2 L.2.1 hc k) hc3 (aRI.k fun y4 s5 h => ?_)
  refine A_if (pa := 28) (pb := 8) (fun T Q k1 k2 => V_ifeq (tgt := 28) (pc2 := 8) (dk D_X13_ringOf 3 rfl) (by decide) rfl (fun q => k1 q) (fun q => k2 q)) (fun q6 => ?_) (fun q6 => ?_)
  · have h := h.1 q6
    exact h
  · have h := h.2 q6
    refine A_p (fun T Q _ _ k => V_aload_n (pc2 := 9) (dk D_X13_ringOf 4 rfl) rfl (V_lg 0 rfl) rfl k) ?_
    refine A_ar (pc2 := 12) (a := 33) 49 (dk D_X13_ringOf 5 rfl) fl_13_161 (by decide) (by decide) rfl (fun _ => rfl) rfl ?_
    refine A_p (fun T Q _ _ k => V_iload_n (pc2 := 13) (dk D_X13_ringOf 6 rfl) rfl (V_lg 2 rfl) rfl k) ?_
    obtain ⟨h7, h⟩ := h
    refine A_ild (pc2 := 14) 49 (dk D_X13_ringOf 7 rfl) rfl (by decide) rfl (by decide) rfl rfl h7 ?_
    refine A_p (fun T Q _ _ k => V_iconst (x := 2) (pc2 := 15) (dk D_X13_ringOf 8 rfl) (by decide) rfl k) ?_
    refine A_if (pa := 29) (pb := 18) (fun T Q k1 k2 => V_cmpeq (tgt := 29) (pc2 := 18) (dk D_X13_ringOf 9 rfl) (by decide) rfl (fun q => k1 q) (fun q => k2 q)) (fun q8 => ?_) (fun q8 => ?_)
    · have h := h.1 q8
      exact h
    · have h := h.2 q8
      refine A_p (fun T Q _ _ k => V_aload_n (pc2 := 19) (dk D_X13_ringOf 10 rfl) rfl (V_lg 0 rfl) rfl k) ?_
      refine A_ar (pc2 := 22) (a := 33) 49 (dk D_X13_ringOf 11 rfl) fl_13_161 (by decide) (by decide) rfl (fun _ => rfl) rfl ?_
      refine A_p (fun T Q _ _ k => V_iload_n (pc2 := 23) (dk D_X13_ringOf 12 rfl) rfl (V_lg 2 rfl) rfl k) ?_
      obtain ⟨h9, h⟩ := h
      refine A_ild (pc2 := 24) 49 (dk D_X13_ringOf 13 rfl) rfl (by decide) rfl (by decide) rfl rfl h9 ?_
      refine A_p (fun T Q _ _ k => V_iconst (x := 3) (pc2 := 25) (dk D_X13_ringOf 14 rfl) (by decide) rfl k) ?_
      refine A_if (pa := 29) (pb := 28) (fun T Q k1 k2 => V_cmpeq (tgt := 29) (pc2 := 28) (dk D_X13_ringOf 15 rfl) (by decide) rfl (fun q => k1 q) (fun q => k2 q)) (fun q10 => ?_) (fun q10 => ?_)
      · have h := h.1 q10
        exact h
      · have h := h.2 q10
        exact h
theorem a_ringOf_28 {X : Cx} {b d : Nat} {σ : Rm} {Q : Res → Rm → Prop} (x1 : Int32) (x2 : Int32) (h : Q (.inl none) σ) : A X b d MX13_ringOf 28 [(0, vR b), (1, vI x1), (2, vI x2)] [] σ Q := by
  exact A_ret (fun T Q _ k => V_return (dk D_X13_ringOf 16 rfl) rfl k) h
theorem a_ringOf_29 {X : Cx} {b d : Nat} {σ : Rm} {Q : Res → Rm → Prop} (x1 : Int32) (x2 : Int32) (h : ∀ s1 : Rm, s1 = wS σ 87 0 → A X b d MX13_ringOf 36 [(0, vR b), (1, vI x1), (2, vI x2), (3, vI x1)] [] s1 Q) : A X b d MX13_ringOf 29 [(0, vR b), (1, vI x1), (2, vI x2)] [] σ Q := by
  refine A_p (fun T Q _ _ k => V_aload_n (pc2 := 30) (dk D_X13_ringOf 17 rfl) rfl (V_lg 0 rfl) rfl k) ?_
  refine A_p (fun T Q _ _ k => V_iconst (x := 0) (pc2 := 31) (dk D_X13_ringOf 18 rfl) (by decide) rfl k) ?_
  refine A_put (pc2 := 34) 87 (dk D_X13_ringOf 19 rfl) fl_13_485 (by decide) rfl rfl rfl rfl ?_
  have h := h _ rfl
  refine A_p (fun T Q _ _ k => V_iload_n (pc2 := 35) (dk D_X13_ringOf 20 rfl) rfl (V_lg 1 rfl) rfl k) ?_
  refine A_p (fun T Q _ _ k => V_istore_n (pc2 := 36) (lv2 := [(0, _), (1, _), (2, _), (3, _)]) (dk D_X13_ringOf 21 rfl) rfl (by decide) rfl rfl k) ?_
  exact h
theorem a_ringOf_36 {X : Cx} {b d : Nat} {σ : Rm} {Q : Res → Rm → Prop} (x1 : Int32) (x2 : Int32) (x3 : Int32) (h : ((x3 ≤ 0 → A X b d MX13_ringOf 88 [(0, vR b), (1, vI x1), (2, vI x2), (3, vI x3)] [] σ Q) ∧ (¬ x3 ≤ 0 → ((64 ≤ (sI σ 87) → A X b d MX13_ringOf 88 [(0, vR b), (1, vI x1), (2, vI x2), (3, vI x3)] [] σ Q) ∧ (¬ 64 ≤ (sI σ 87) → (vp_in (sI σ 87) 64) ∧ ∀ s4 : Rm, s4 = wI σ 86 (((sI σ 87) : Int32).toNatClampNeg) x3 → ∀ s5 : Rm, s5 = wS s4 87 ((sI s4 87) + 1) → ((x3 = x2 → A X b d MX13_ringOf 84 [(0, vR b), (1, vI x1), (2, vI x2), (3, vI x3)] [vI 0] s5 Q) ∧ (¬ x3 = x2 → (vp_in x3 61) ∧ A X b d MX13_ringOf 84 [(0, vR b), (1, vI x1), (2, vI x2), (3, vI x3)] [vI (aI s5 54 (x3 : Int32).toNatClampNeg)] s5 Q))))))) : A X b d MX13_ringOf 36 [(0, vR b), (1, vI x1), (2, vI x2), (3, vI x3)] [] σ Q := by
  refine A_p (fun T Q _ _ k => V_iload_n (pc2 := 37) (dk D_X13_ringOf 22 rfl) rfl (V_lg 3 rfl) rfl k) ?_
  refine A_if (pa := 88) (pb := 40) (fun T Q k1 k2 => V_ifle (tgt := 88) (pc2 := 40) (dk D_X13_ringOf 23 rfl) (by decide) rfl (fun q => k1 q) (fun q => k2 q)) (fun q1 => ?_) (fun q1 => ?_)
  · have h := h.1 q1
    exact h
  · have h := h.2 q1
    refine A_p (fun T Q _ _ k => V_aload_n (pc2 := 41) (dk D_X13_ringOf 24 rfl) rfl (V_lg 0 rfl) rfl k) ?_
    refine A_sc (pc2 := 44) 87 (dk D_X13_ringOf 25 rfl) fl_13_485 (by decide) rfl (fun _ => rfl) rfl ?_
    refine A_p (fun T Q _ _ k => V_bipush (x := 64) (pc2 := 46) (dk D_X13_ringOf 26 rfl) (by decide) rfl k) ?_
    refine A_if (pa := 88) (pb := 49) (fun T Q k1 k2 => V_cmpge (tgt := 88) (pc2 := 49) (dk D_X13_ringOf 27 rfl) (by decide) rfl (fun q => k1 q) (fun q => k2 q)) (fun q2 => ?_) (fun q2 => ?_)
    · have h := h.1 q2
      exact h
    · have h := h.2 q2
      refine A_p (fun T Q _ _ k => V_aload_n (pc2 := 50) (dk D_X13_ringOf 28 rfl) rfl (V_lg 0 rfl) rfl k) ?_
      refine A_ar (pc2 := 53) (a := 63) 86 (dk D_X13_ringOf 29 rfl) fl_13_253 (by decide) (by decide) rfl (fun _ => rfl) rfl ?_
      refine A_p (fun T Q _ _ k => V_aload_n (pc2 := 54) (dk D_X13_ringOf 30 rfl) rfl (V_lg 0 rfl) rfl k) ?_
      refine A_sc (pc2 := 57) 87 (dk D_X13_ringOf 31 rfl) fl_13_485 (by decide) rfl (fun _ => rfl) rfl ?_
      refine A_p (fun T Q _ _ k => V_iload_n (pc2 := 58) (dk D_X13_ringOf 32 rfl) rfl (V_lg 3 rfl) rfl k) ?_
      obtain ⟨h3, h⟩ := h
      refine A_ist (pc2 := 59) 86 (dk D_X13_ringOf 33 rfl) rfl (by decide) rfl (by decide) rfl rfl h3 ?_
      have h := h _ rfl
      refine A_p (fun T Q _ _ k => V_aload_n (pc2 := 60) (dk D_X13_ringOf 34 rfl) rfl (V_lg 0 rfl) rfl k) ?_
      refine A_p (fun T Q _ _ k => V_dup (pc2 := 61) (dk D_X13_ringOf 35 rfl) rfl rfl k) ?_
      refine A_sc (pc2 := 64) 87 (dk D_X13_ringOf 36 rfl) fl_13_485 (by decide) rfl (fun _ => rfl) rfl ?_
      refine A_p (fun T Q _ _ k => V_iconst (x := 1) (pc2 := 65) (dk D_X13_ringOf 37 rfl) (by decide) rfl k) ?_
      refine A_p (fun T Q _ _ k => V_iadd (pc2 := 66) (dk D_X13_ringOf 38 rfl) rfl k) ?_
      refine A_put (pc2 := 69) 87 (dk D_X13_ringOf 39 rfl) fl_13_485 (by decide) rfl rfl rfl rfl ?_
      have h := h _ rfl
      refine A_p (fun T Q _ _ k => V_iload_n (pc2 := 70) (dk D_X13_ringOf 40 rfl) rfl (V_lg 3 rfl) rfl k) ?_
      refine A_p (fun T Q _ _ k => V_iload_n (pc2 := 71) (dk D_X13_ringOf 41 rfl) rfl (V_lg 2 rfl) rfl k) ?_
      refine A_if (pa := 74) (pb := 78) (fun T Q k1 k2 => V_cmpne (tgt := 78) (pc2 := 74) (dk D_X13_ringOf 42 rfl) (by decide) rfl (fun q => k2 q) (fun q => k1 q)) (fun q6 => ?_) (fun q6 => ?_)
      · have h := h.1 q6
        refine A_p (fun T Q _ _ k => V_iconst (x := 0) (pc2 := 75) (dk D_X13_ringOf 43 rfl) (by decide) rfl k) ?_
        refine A_p (fun T Q _ _ k => V_goto (tgt := 84) (dk D_X13_ringOf 44 rfl) (by decide) k) ?_
        exact h
      · have h := h.2 q6
        refine A_p (fun T Q _ _ k => V_aload_n (pc2 := 79) (dk D_X13_ringOf 45 rfl) rfl (V_lg 0 rfl) rfl k) ?_
        refine A_ar (pc2 := 82) (a := 38) 54 (dk D_X13_ringOf 46 rfl) fl_13_176 (by decide) (by decide) rfl (fun _ => rfl) rfl ?_
        refine A_p (fun T Q _ _ k => V_iload_n (pc2 := 83) (dk D_X13_ringOf 47 rfl) rfl (V_lg 3 rfl) rfl k) ?_
        obtain ⟨h7, h⟩ := h
        refine A_ild (pc2 := 84) 54 (dk D_X13_ringOf 48 rfl) rfl (by decide) rfl (by decide) rfl rfl h7 ?_
        exact h
theorem a_ringOf_84 {X : Cx} {b d : Nat} {σ : Rm} {Q : Res → Rm → Prop} (x1 : Int32) (x2 : Int32) (x3 : Int32) (t0 : Int32) (h : A X b d MX13_ringOf 36 [(0, vR b), (1, vI x1), (2, vI x2), (3, vI t0)] [] σ Q) : A X b d MX13_ringOf 84 [(0, vR b), (1, vI x1), (2, vI x2), (3, vI x3)] [vI t0] σ Q := by
  refine A_p (fun T Q _ _ k => V_istore_n (pc2 := 85) (lv2 := [(0, _), (1, _), (2, _), (3, _)]) (dk D_X13_ringOf 49 rfl) rfl (by decide) rfl rfl k) ?_
  refine A_p (fun T Q _ _ k => V_goto (tgt := 36) (dk D_X13_ringOf 50 rfl) (by decide) k) ?_
  exact h
theorem a_ringOf_88 {X : Cx} {b d : Nat} {σ : Rm} {Q : Res → Rm → Prop} (x1 : Int32) (x2 : Int32) (x3 : Int32) (h : Q (.inl none) σ) : A X b d MX13_ringOf 88 [(0, vR b), (1, vI x1), (2, vI x2), (3, vI x3)] [] σ Q := by
  exact A_ret (fun T Q _ k => V_return (dk D_X13_ringOf 51 rfl) rfl k) h
theorem a_goesTo_0 {X : Cx} {b d : Nat} {σ : Rm} {Q : Res → Rm → Prop} (x1 : Int32) (x2 : Int32) (x3 : Int32) (h : ∃ e1 : Nat, e1 + 1 ≤ d ∧ AC X b e1 MX13_hands [vR b, vI x1, vI x2] σ (aRV fun  s4 => ∀ s5 : Rm, s5 = wS s4 77 x2 → (vp_in x2 61) ∧ (((aI s5 49 (x2 : Int32).toNatClampNeg) = 0 → A X b d MX13_goesTo 25 [(0, vR b), (1, vI x1), (2, vI x2), (3, vI x3)] [vI 1] s5 Q) ∧ (¬ (aI s5 49 (x2 : Int32).toNatClampNeg) = 0 → A X b d MX13_goesTo 25 [(0, vR b), (1, vI x1), (2, vI x2), (3, vI x3)] [vI 0] s5 Q)))) : A X b d MX13_goesTo 0 [(0, vR b), (1, vI x1), (2, vI x2), (3, vI x3)] [] σ Q := by
  refine A_p (fun T Q _ _ k => V_aload_n (pc2 := 1) (dk D_X13_goesTo 0 rfl) rfl (V_lg 0 rfl) rfl k) ?_
  refine A_p (fun T Q _ _ k => V_iload_n (pc2 := 2) (dk D_X13_goesTo 1 rfl) rfl (V_lg 1 rfl) rfl k) ?_
  refine A_p (fun T Q _ _ k => V_iload_n (pc2 := 3) (dk D_X13_goesTo 2 rfl) rfl (V_lg 2 rfl) rfl k) ?_
  obtain ⟨e1, he2, hc3⟩ := h
  refine A_call (st := []) (pc2 := 6) (fun T Q Qc L hc k => V_callV (as := [_, _]) (st := []) (M' := MX13_hands) (ci := 13) (pc2 := 6) (dk D_X13_goesTo 3 rfl) ml_13_516 mv_X13_hands rfl rfl (by decide) rfl (Nat.le_of_ble_eq_true rfl) rfl he2 L.2.1 hc k) hc3 (aRV.k fun  s4 h => ?_)
  refine A_p (fun T Q _ _ k => V_aload_n (pc2 := 7) (dk D_X13_goesTo 4 rfl) rfl (V_lg 0 rfl) rfl k) ?_
  refine A_p (fun T Q _ _ k => V_iload_n (pc2 := 8) (dk D_X13_goesTo 5 rfl) rfl (V_lg 2 rfl) rfl k) ?_
  refine A_put (pc2 := 11) 77 (dk D_X13_goesTo 6 rfl) fl_13_473 (by decide) rfl rfl rfl rfl ?_
  have h := h _ rfl
  refine A_p (fun T Q _ _ k => V_aload_n (pc2 := 12) (dk D_X13_goesTo 7 rfl) rfl (V_lg 0 rfl) rfl k) ?_
  refine A_ar (pc2 := 15) (a := 33) 49 (dk D_X13_goesTo 8 rfl) fl_13_161 (by decide) (by decide) rfl (fun _ => rfl) rfl ?_
  refine A_p (fun T Q _ _ k => V_iload_n (pc2 := 16) (dk D_X13_goesTo 9 rfl) rfl (V_lg 2 rfl) rfl k) ?_
  obtain ⟨h6, h⟩ := h
  refine A_ild (pc2 := 17) 49 (dk D_X13_goesTo 10 rfl) rfl (by decide) rfl (by decide) rfl rfl h6 ?_
  refine A_if (pa := 20) (pb := 24) (fun T Q k1 k2 => V_ifne (tgt := 24) (pc2 := 20) (dk D_X13_goesTo 11 rfl) (by decide) rfl (fun q => k2 q) (fun q => k1 q)) (fun q7 => ?_) (fun q7 => ?_)
  · have h := h.1 q7
    refine A_p (fun T Q _ _ k => V_iconst (x := 1) (pc2 := 21) (dk D_X13_goesTo 12 rfl) (by decide) rfl k) ?_
    refine A_p (fun T Q _ _ k => V_goto (tgt := 25) (dk D_X13_goesTo 13 rfl) (by decide) k) ?_
    exact h
  · have h := h.2 q7
    refine A_p (fun T Q _ _ k => V_iconst (x := 0) (pc2 := 25) (dk D_X13_goesTo 14 rfl) (by decide) rfl k) ?_
    exact h
theorem a_goesTo_25 {X : Cx} {b d : Nat} {σ : Rm} {Q : Res → Rm → Prop} (x1 : Int32) (x2 : Int32) (x3 : Int32) (t0 : Int32) (h : (vp_in x2 61) ∧ ∀ s2 : Rm, s2 = wI σ 49 ((x2 : Int32).toNatClampNeg) 2 → ((t0 = 0 → ∃ e4 : Nat, e4 + 1 ≤ d ∧ AC X b e4 MX13_push [vR b, vI x2, vI x3] s2 (aRV fun  s7 => A X b d MX13_goesTo 53 [(0, vR b), (1, vI x1), (2, vI x2), (3, vI x3), (4, vI t0)] [] s7 Q)) ∧ (¬ t0 = 0 → ∃ e8 : Nat, e8 + 1 ≤ d ∧ AC X b e8 MX13_start [vR b, vI x2] s2 (aRV fun  s11 => A X b d MX13_goesTo 53 [(0, vR b), (1, vI x1), (2, vI x2), (3, vI x3), (4, vI t0)] [] s11 Q)))) : A X b d MX13_goesTo 25 [(0, vR b), (1, vI x1), (2, vI x2), (3, vI x3)] [vI t0] σ Q := by
  refine A_p (fun T Q _ _ k => V_istore (pc2 := 27) (lv2 := [(0, _), (1, _), (2, _), (3, _), (4, _)]) (dk D_X13_goesTo 15 rfl) (by decide) rfl rfl k) ?_
  refine A_p (fun T Q _ _ k => V_aload_n (pc2 := 28) (dk D_X13_goesTo 16 rfl) rfl (V_lg 0 rfl) rfl k) ?_
  refine A_ar (pc2 := 31) (a := 33) 49 (dk D_X13_goesTo 17 rfl) fl_13_161 (by decide) (by decide) rfl (fun _ => rfl) rfl ?_
  refine A_p (fun T Q _ _ k => V_iload_n (pc2 := 32) (dk D_X13_goesTo 18 rfl) rfl (V_lg 2 rfl) rfl k) ?_
  refine A_p (fun T Q _ _ k => V_iconst (x := 2) (pc2 := 33) (dk D_X13_goesTo 19 rfl) (by decide) rfl k) ?_
  obtain ⟨h1, h⟩ := h
  refine A_ist (pc2 := 34) 49 (dk D_X13_goesTo 20 rfl) rfl (by decide) rfl (by decide) rfl rfl h1 ?_
  have h := h _ rfl
  refine A_p (fun T Q _ _ k => V_iload (pc2 := 36) (dk D_X13_goesTo 21 rfl) (V_lg 4 rfl) rfl k) ?_
  refine A_if (pa := 47) (pb := 39) (fun T Q k1 k2 => V_ifeq (tgt := 47) (pc2 := 39) (dk D_X13_goesTo 22 rfl) (by decide) rfl (fun q => k1 q) (fun q => k2 q)) (fun q3 => ?_) (fun q3 => ?_)
  · have h := h.1 q3
    refine A_p (fun T Q _ _ k => V_aload_n (pc2 := 48) (dk D_X13_goesTo 27 rfl) rfl (V_lg 0 rfl) rfl k) ?_
    refine A_p (fun T Q _ _ k => V_iload_n (pc2 := 49) (dk D_X13_goesTo 28 rfl) rfl (V_lg 2 rfl) rfl k) ?_
    refine A_p (fun T Q _ _ k => V_iload_n (pc2 := 50) (dk D_X13_goesTo 29 rfl) rfl (V_lg 3 rfl) rfl k) ?_
    obtain ⟨e4, he5, hc6⟩ := h
    refine A_call (st := []) (pc2 := 53) (fun T Q Qc L hc k => V_callV (as := [_, _]) (st := []) (M' := MX13_push) (ci := 13) (pc2 := 53) (dk D_X13_goesTo 30 rfl) ml_13_497 mv_X13_push rfl rfl (by decide) rfl (Nat.le_of_ble_eq_true rfl) rfl he5 L.2.1 hc k) hc6 (aRV.k fun  s7 h => ?_)
    exact h
  · have h := h.2 q3
    refine A_p (fun T Q _ _ k => V_aload_n (pc2 := 40) (dk D_X13_goesTo 23 rfl) rfl (V_lg 0 rfl) rfl k) ?_
    refine A_p (fun T Q _ _ k => V_iload_n (pc2 := 41) (dk D_X13_goesTo 24 rfl) rfl (V_lg 2 rfl) rfl k) ?_
    obtain ⟨e8, he9, hc10⟩ := h
    refine A_call (st := []) (pc2 := 44) (fun T Q Qc L hc k => V_callV (as := [_]) (st := []) (M' := MX13_start) (ci := 13) (pc2 := 44) (dk D_X13_goesTo 25 rfl) ml_13_560 mv_X13_start rfl rfl (by decide) rfl (Nat.le_of_ble_eq_true rfl) rfl he9 L.2.1 hc k) hc10 (aRV.k fun  s11 h => ?_)
    refine A_p (fun T Q _ _ k => V_goto (tgt := 53) (dk D_X13_goesTo 26 rfl) (by decide) k) ?_
    exact h
theorem a_goesTo_53 {X : Cx} {b d : Nat} {σ : Rm} {Q : Res → Rm → Prop} (x1 : Int32) (x2 : Int32) (x3 : Int32) (x4 : Int32) (h : Q (.inl none) σ) : A X b d MX13_goesTo 53 [(0, vR b), (1, vI x1), (2, vI x2), (3, vI x3), (4, vI x4)] [] σ Q := by
  exact A_ret (fun T Q _ k => V_return (dk D_X13_goesTo 31 rfl) rfl k) h
theorem a_resumes_0 {X : Cx} {b d : Nat} {σ : Rm} {Q : Res → Rm → Prop} (x1 : Int32) (x2 : Int32) (x3 : Int32) (x4 : Int32) (h : ∃ e1 : Nat, e1 + 1 ≤ d ∧ AC X b e1 MX13_isMisuse [vR b, vI x1, vI x2] σ (aRI fun y4 s5 => ((y4 = 0 → (vp_in x1 61) ∧ ∀ s8 : Rm, s8 = wI s5 49 ((x1 : Int32).toNatClampNeg) 3 → (vp_in x1 61) ∧ ∀ s10 : Rm, s10 = wI s8 56 ((x1 : Int32).toNatClampNeg) x4 → (vp_in x2 61) ∧ ∀ s12 : Rm, s12 = wI s10 54 ((x2 : Int32).toNatClampNeg) x1 → ∃ e13 : Nat, e13 + 1 ≤ d ∧ AC X b e13 MX13_goesTo [vR b, vI x1, vI x2, vI x3] s12 (aRV fun  s16 => Q (.inl none) s16)) ∧ (¬ y4 = 0 → ∃ e17 : Nat, e17 + 1 ≤ d ∧ AC X b e17 MX13_arises [vR b, vI x1, vI 10] s5 (aRV fun  s20 => Q (.inl none) s20))))) : A X b d MX13_resumes 0 [(0, vR b), (1, vI x1), (2, vI x2), (3, vI x3), (4, vI x4)] [] σ Q := by
  refine A_p (fun T Q _ _ k => V_aload_n (pc2 := 1) (dk D_X13_resumes 0 rfl) rfl (V_lg 0 rfl) rfl k) ?_
  refine A_p (fun T Q _ _ k => V_iload_n (pc2 := 2) (dk D_X13_resumes 1 rfl) rfl (V_lg 1 rfl) rfl k) ?_
  refine A_p (fun T Q _ _ k => V_iload_n (pc2 := 3) (dk D_X13_resumes 2 rfl) rfl (V_lg 2 rfl) rfl k) ?_
  obtain ⟨e1, he2, hc3⟩ := h
  refine A_call (st := []) (pc2 := 6) (fun T Q Qc L hc k => V_callV (as := [_, _]) (st := []) (M' := MX13_isMisuse) (ci := 13) (pc2 := 6) (dk D_X13_resumes 3 rfl) ml_13_563 mv_X13_isMisuse rfl rfl (by decide) rfl (Nat.le_of_ble_eq_true rfl) rfl he2 L.2.1 hc k) hc3 (aRI.k fun y4 s5 h => ?_)
  refine A_if (pa := 17) (pb := 9) (fun T Q k1 k2 => V_ifeq (tgt := 17) (pc2 := 9) (dk D_X13_resumes 4 rfl) (by decide) rfl (fun q => k1 q) (fun q => k2 q)) (fun q6 => ?_) (fun q6 => ?_)
  · have h := h.1 q6
    refine A_p (fun T Q _ _ k => V_aload_n (pc2 := 18) (dk D_X13_resumes 10 rfl) rfl (V_lg 0 rfl) rfl k) ?_
    refine A_ar (pc2 := 21) (a := 33) 49 (dk D_X13_resumes 11 rfl) fl_13_161 (by decide) (by decide) rfl (fun _ => rfl) rfl ?_
    refine A_p (fun T Q _ _ k => V_iload_n (pc2 := 22) (dk D_X13_resumes 12 rfl) rfl (V_lg 1 rfl) rfl k) ?_
    refine A_p (fun T Q _ _ k => V_iconst (x := 3) (pc2 := 23) (dk D_X13_resumes 13 rfl) (by decide) rfl k) ?_
    obtain ⟨h7, h⟩ := h
    refine A_ist (pc2 := 24) 49 (dk D_X13_resumes 14 rfl) rfl (by decide) rfl (by decide) rfl rfl h7 ?_
    have h := h _ rfl
    refine A_p (fun T Q _ _ k => V_aload_n (pc2 := 25) (dk D_X13_resumes 15 rfl) rfl (V_lg 0 rfl) rfl k) ?_
    refine A_ar (pc2 := 28) (a := 40) 56 (dk D_X13_resumes 16 rfl) fl_13_182 (by decide) (by decide) rfl (fun _ => rfl) rfl ?_
    refine A_p (fun T Q _ _ k => V_iload_n (pc2 := 29) (dk D_X13_resumes 17 rfl) rfl (V_lg 1 rfl) rfl k) ?_
    refine A_p (fun T Q _ _ k => V_iload (pc2 := 31) (dk D_X13_resumes 18 rfl) (V_lg 4 rfl) rfl k) ?_
    obtain ⟨h9, h⟩ := h
    refine A_ist (pc2 := 32) 56 (dk D_X13_resumes 19 rfl) rfl (by decide) rfl (by decide) rfl rfl h9 ?_
    have h := h _ rfl
    refine A_p (fun T Q _ _ k => V_aload_n (pc2 := 33) (dk D_X13_resumes 20 rfl) rfl (V_lg 0 rfl) rfl k) ?_
    refine A_ar (pc2 := 36) (a := 38) 54 (dk D_X13_resumes 21 rfl) fl_13_176 (by decide) (by decide) rfl (fun _ => rfl) rfl ?_
    refine A_p (fun T Q _ _ k => V_iload_n (pc2 := 37) (dk D_X13_resumes 22 rfl) rfl (V_lg 2 rfl) rfl k) ?_
    refine A_p (fun T Q _ _ k => V_iload_n (pc2 := 38) (dk D_X13_resumes 23 rfl) rfl (V_lg 1 rfl) rfl k) ?_
    obtain ⟨h11, h⟩ := h
    refine A_ist (pc2 := 39) 54 (dk D_X13_resumes 24 rfl) rfl (by decide) rfl (by decide) rfl rfl h11 ?_
    have h := h _ rfl
    refine A_p (fun T Q _ _ k => V_aload_n (pc2 := 40) (dk D_X13_resumes 25 rfl) rfl (V_lg 0 rfl) rfl k) ?_
    refine A_p (fun T Q _ _ k => V_iload_n (pc2 := 41) (dk D_X13_resumes 26 rfl) rfl (V_lg 1 rfl) rfl k) ?_
    refine A_p (fun T Q _ _ k => V_iload_n (pc2 := 42) (dk D_X13_resumes 27 rfl) rfl (V_lg 2 rfl) rfl k) ?_
    refine A_p (fun T Q _ _ k => V_iload_n (pc2 := 43) (dk D_X13_resumes 28 rfl) rfl (V_lg 3 rfl) rfl k) ?_
    obtain ⟨e13, he14, hc15⟩ := h
    refine A_call (st := []) (pc2 := 46) (fun T Q Qc L hc k => V_callV (as := [_, _, _]) (st := []) (M' := MX13_goesTo) (ci := 13) (pc2 := 46) (dk D_X13_resumes 29 rfl) ml_13_570 mv_X13_goesTo rfl rfl (by decide) rfl (Nat.le_of_ble_eq_true rfl) rfl he14 L.2.1 hc k) hc15 (aRV.k fun  s16 h => ?_)
    exact A_ret (fun T Q _ k => V_return (dk D_X13_resumes 30 rfl) rfl k) h
  · have h := h.2 q6
    refine A_p (fun T Q _ _ k => V_aload_n (pc2 := 10) (dk D_X13_resumes 5 rfl) rfl (V_lg 0 rfl) rfl k) ?_
    refine A_p (fun T Q _ _ k => V_iload_n (pc2 := 11) (dk D_X13_resumes 6 rfl) rfl (V_lg 1 rfl) rfl k) ?_
    refine A_p (fun T Q _ _ k => V_bipush (x := 10) (pc2 := 13) (dk D_X13_resumes 7 rfl) (by decide) rfl k) ?_
    obtain ⟨e17, he18, hc19⟩ := h
    refine A_call (st := []) (pc2 := 16) (fun T Q Qc L hc k => V_callV (as := [_, _]) (st := []) (M' := MX13_arises) (ci := 13) (pc2 := 16) (dk D_X13_resumes 8 rfl) ml_13_567 mv_X13_arises rfl rfl (by decide) rfl (Nat.le_of_ble_eq_true rfl) rfl he18 L.2.1 hc k) hc19 (aRV.k fun  s20 h => ?_)
    exact A_ret (fun T Q _ k => V_return (dk D_X13_resumes 9 rfl) rfl k) h
theorem a_yields_0 {X : Cx} {b d : Nat} {σ : Rm} {Q : Res → Rm → Prop} (x1 : Int32) (x2 : Int32) (h : (vp_in x1 61) ∧ (((aI σ 57 (x1 : Int32).toNatClampNeg) = 0 → (vp_in x1 61) ∧ ∀ s4 : Rm, s4 = wI σ 49 ((x1 : Int32).toNatClampNeg) 1 → (vp_in x1 61) ∧ ∃ e6 : Nat, e6 + 1 ≤ d ∧ AC X b e6 MX13_hands [vR b, vI x1, vI (aI s4 54 (x1 : Int32).toNatClampNeg)] s4 (aRV fun  s9 => (vp_in x1 61) ∧ ∃ e11 : Nat, e11 + 1 ≤ d ∧ AC X b e11 MX13_comes [vR b, vI (aI s9 54 (x1 : Int32).toNatClampNeg), vI x2, vI 0, vI 0] s9 (aRV fun  s14 => Q (.inl none) s14))) ∧ (¬ (aI σ 57 (x1 : Int32).toNatClampNeg) = 0 → ∃ e15 : Nat, e15 + 1 ≤ d ∧ AC X b e15 MX13_arises [vR b, vI x1, vI 10] σ (aRV fun  s18 => Q (.inl none) s18)))) : A X b d MX13_yields 0 [(0, vR b), (1, vI x1), (2, vI x2)] [] σ Q := by
  refine A_p (fun T Q _ _ k => V_aload_n (pc2 := 1) (dk D_X13_yields 0 rfl) rfl (V_lg 0 rfl) rfl k) ?_
  refine A_ar (pc2 := 4) (a := 41) 57 (dk D_X13_yields 1 rfl) fl_13_185 (by decide) (by decide) rfl (fun _ => rfl) rfl ?_
  refine A_p (fun T Q _ _ k => V_iload_n (pc2 := 5) (dk D_X13_yields 2 rfl) rfl (V_lg 1 rfl) rfl k) ?_
  obtain ⟨h1, h⟩ := h
  refine A_zld (pc2 := 6) 57 (dk D_X13_yields 3 rfl) rfl (by decide) rfl (by decide) rfl rfl h1 ?_
  refine A_if (pa := 17) (pb := 9) (fun T Q k1 k2 => V_ifeq (tgt := 17) (pc2 := 9) (dk D_X13_yields 4 rfl) (by decide) rfl (fun q => k1 q) (fun q => k2 q)) (fun q2 => ?_) (fun q2 => ?_)
  · have h := h.1 q2
    refine A_p (fun T Q _ _ k => V_aload_n (pc2 := 18) (dk D_X13_yields 10 rfl) rfl (V_lg 0 rfl) rfl k) ?_
    refine A_ar (pc2 := 21) (a := 33) 49 (dk D_X13_yields 11 rfl) fl_13_161 (by decide) (by decide) rfl (fun _ => rfl) rfl ?_
    refine A_p (fun T Q _ _ k => V_iload_n (pc2 := 22) (dk D_X13_yields 12 rfl) rfl (V_lg 1 rfl) rfl k) ?_
    refine A_p (fun T Q _ _ k => V_iconst (x := 1) (pc2 := 23) (dk D_X13_yields 13 rfl) (by decide) rfl k) ?_
    obtain ⟨h3, h⟩ := h
    refine A_ist (pc2 := 24) 49 (dk D_X13_yields 14 rfl) rfl (by decide) rfl (by decide) rfl rfl h3 ?_
    have h := h _ rfl
    refine A_p (fun T Q _ _ k => V_aload_n (pc2 := 25) (dk D_X13_yields 15 rfl) rfl (V_lg 0 rfl) rfl k) ?_
    refine A_p (fun T Q _ _ k => V_iload_n (pc2 := 26) (dk D_X13_yields 16 rfl) rfl (V_lg 1 rfl) rfl k) ?_
    refine A_p (fun T Q _ _ k => V_aload_n (pc2 := 27) (dk D_X13_yields 17 rfl) rfl (V_lg 0 rfl) rfl k) ?_
    refine A_ar (pc2 := 30) (a := 38) 54 (dk D_X13_yields 18 rfl) fl_13_176 (by decide) (by decide) rfl (fun _ => rfl) rfl ?_
    refine A_p (fun T Q _ _ k => V_iload_n (pc2 := 31) (dk D_X13_yields 19 rfl) rfl (V_lg 1 rfl) rfl k) ?_
    obtain ⟨h5, h⟩ := h
    refine A_ild (pc2 := 32) 54 (dk D_X13_yields 20 rfl) rfl (by decide) rfl (by decide) rfl rfl h5 ?_
    obtain ⟨e6, he7, hc8⟩ := h
    refine A_call (st := []) (pc2 := 35) (fun T Q Qc L hc k => V_callV (as := [_, _]) (st := []) (M' := MX13_hands) (ci := 13) (pc2 := 35) (dk D_X13_yields 21 rfl) ml_13_516 mv_X13_hands rfl rfl (by decide) rfl (Nat.le_of_ble_eq_true rfl) rfl he7 L.2.1 hc k) hc8 (aRV.k fun  s9 h => ?_)
    refine A_p (fun T Q _ _ k => V_aload_n (pc2 := 36) (dk D_X13_yields 22 rfl) rfl (V_lg 0 rfl) rfl k) ?_
    refine A_p (fun T Q _ _ k => V_aload_n (pc2 := 37) (dk D_X13_yields 23 rfl) rfl (V_lg 0 rfl) rfl k) ?_
    refine A_ar (pc2 := 40) (a := 38) 54 (dk D_X13_yields 24 rfl) fl_13_176 (by decide) (by decide) rfl (fun _ => rfl) rfl ?_
    refine A_p (fun T Q _ _ k => V_iload_n (pc2 := 41) (dk D_X13_yields 25 rfl) rfl (V_lg 1 rfl) rfl k) ?_
    obtain ⟨h10, h⟩ := h
    refine A_ild (pc2 := 42) 54 (dk D_X13_yields 26 rfl) rfl (by decide) rfl (by decide) rfl rfl h10 ?_
    refine A_p (fun T Q _ _ k => V_iload_n (pc2 := 43) (dk D_X13_yields 27 rfl) rfl (V_lg 2 rfl) rfl k) ?_
    refine A_p (fun T Q _ _ k => V_iconst (x := 0) (pc2 := 44) (dk D_X13_yields 28 rfl) (by decide) rfl k) ?_
    refine A_p (fun T Q _ _ k => V_iconst (x := 0) (pc2 := 45) (dk D_X13_yields 29 rfl) (by decide) rfl k) ?_
    obtain ⟨e11, he12, hc13⟩ := h
    refine A_call (st := []) (pc2 := 48) (fun T Q Qc L hc k => V_callV (as := [_, _, _, _]) (st := []) (M' := MX13_comes) (ci := 13) (pc2 := 48) (dk D_X13_yields 30 rfl) ml_13_550 mv_X13_comes rfl rfl (by decide) rfl (Nat.le_of_ble_eq_true rfl) rfl he12 L.2.1 hc k) hc13 (aRV.k fun  s14 h => ?_)
    exact A_ret (fun T Q _ k => V_return (dk D_X13_yields 31 rfl) rfl k) h
  · have h := h.2 q2
    refine A_p (fun T Q _ _ k => V_aload_n (pc2 := 10) (dk D_X13_yields 5 rfl) rfl (V_lg 0 rfl) rfl k) ?_
    refine A_p (fun T Q _ _ k => V_iload_n (pc2 := 11) (dk D_X13_yields 6 rfl) rfl (V_lg 1 rfl) rfl k) ?_
    refine A_p (fun T Q _ _ k => V_bipush (x := 10) (pc2 := 13) (dk D_X13_yields 7 rfl) (by decide) rfl k) ?_
    obtain ⟨e15, he16, hc17⟩ := h
    refine A_call (st := []) (pc2 := 16) (fun T Q Qc L hc k => V_callV (as := [_, _]) (st := []) (M' := MX13_arises) (ci := 13) (pc2 := 16) (dk D_X13_yields 8 rfl) ml_13_567 mv_X13_arises rfl rfl (by decide) rfl (Nat.le_of_ble_eq_true rfl) rfl he16 L.2.1 hc k) hc17 (aRV.k fun  s18 h => ?_)
    exact A_ret (fun T Q _ k => V_return (dk D_X13_yields 9 rfl) rfl k) h
theorem a_handsOn_0 {X : Cx} {b d : Nat} {σ : Rm} {Q : Res → Rm → Prop} (x1 : Int32) (x2 : Int32) (x3 : Int32) (h : (vp_in x1 61) ∧ (((aI σ 57 (x1 : Int32).toNatClampNeg) = 0 → ∃ e3 : Nat, e3 + 1 ≤ d ∧ AC X b e3 MX13_isMisuse [vR b, vI x1, vI x2] σ (aRI fun y6 s7 => ((y6 = 0 → (vp_in x1 61) ∧ ∀ s10 : Rm, s10 = wI s7 49 ((x1 : Int32).toNatClampNeg) 1 → (vp_in x1 61) ∧ (vp_in x2 61) ∧ ∀ s13 : Rm, s13 = wI s10 54 ((x2 : Int32).toNatClampNeg) (aI s10 54 (x1 : Int32).toNatClampNeg) → ∃ e14 : Nat, e14 + 1 ≤ d ∧ AC X b e14 MX13_goesTo [vR b, vI x1, vI x2, vI x3] s13 (aRV fun  s17 => Q (.inl none) s17)) ∧ (¬ y6 = 0 → A X b d MX13_handsOn 18 [(0, vR b), (1, vI x1), (2, vI x2), (3, vI x3)] [] s7 Q)))) ∧ (¬ (aI σ 57 (x1 : Int32).toNatClampNeg) = 0 → A X b d MX13_handsOn 18 [(0, vR b), (1, vI x1), (2, vI x2), (3, vI x3)] [] σ Q))) : A X b d MX13_handsOn 0 [(0, vR b), (1, vI x1), (2, vI x2), (3, vI x3)] [] σ Q := by
  refine A_p (fun T Q _ _ k => V_aload_n (pc2 := 1) (dk D_X13_handsOn 0 rfl) rfl (V_lg 0 rfl) rfl k) ?_
  refine A_ar (pc2 := 4) (a := 41) 57 (dk D_X13_handsOn 1 rfl) fl_13_185 (by decide) (by decide) rfl (fun _ => rfl) rfl ?_
  refine A_p (fun T Q _ _ k => V_iload_n (pc2 := 5) (dk D_X13_handsOn 2 rfl) rfl (V_lg 1 rfl) rfl k) ?_
  obtain ⟨h1, h⟩ := h
  refine A_zld (pc2 := 6) 57 (dk D_X13_handsOn 3 rfl) rfl (by decide) rfl (by decide) rfl rfl h1 ?_
  refine A_if (pa := 9) (pb := 18) (fun T Q k1 k2 => V_ifne (tgt := 18) (pc2 := 9) (dk D_X13_handsOn 4 rfl) (by decide) rfl (fun q => k2 q) (fun q => k1 q)) (fun q2 => ?_) (fun q2 => ?_)
  · have h := h.1 q2
    refine A_p (fun T Q _ _ k => V_aload_n (pc2 := 10) (dk D_X13_handsOn 5 rfl) rfl (V_lg 0 rfl) rfl k) ?_
    refine A_p (fun T Q _ _ k => V_iload_n (pc2 := 11) (dk D_X13_handsOn 6 rfl) rfl (V_lg 1 rfl) rfl k) ?_
    refine A_p (fun T Q _ _ k => V_iload_n (pc2 := 12) (dk D_X13_handsOn 7 rfl) rfl (V_lg 2 rfl) rfl k) ?_
    obtain ⟨e3, he4, hc5⟩ := h
    refine A_call (st := []) (pc2 := 15) (fun T Q Qc L hc k => V_callV (as := [_, _]) (st := []) (M' := MX13_isMisuse) (ci := 13) (pc2 := 15) (dk D_X13_handsOn 8 rfl) ml_13_563 mv_X13_isMisuse rfl rfl (by decide) rfl (Nat.le_of_ble_eq_true rfl) rfl he4 L.2.1 hc k) hc5 (aRI.k fun y6 s7 h => ?_)
    refine A_if (pa := 26) (pb := 18) (fun T Q k1 k2 => V_ifeq (tgt := 26) (pc2 := 18) (dk D_X13_handsOn 9 rfl) (by decide) rfl (fun q => k1 q) (fun q => k2 q)) (fun q8 => ?_) (fun q8 => ?_)
    · have h := h.1 q8
      refine A_p (fun T Q _ _ k => V_aload_n (pc2 := 27) (dk D_X13_handsOn 15 rfl) rfl (V_lg 0 rfl) rfl k) ?_
      refine A_ar (pc2 := 30) (a := 33) 49 (dk D_X13_handsOn 16 rfl) fl_13_161 (by decide) (by decide) rfl (fun _ => rfl) rfl ?_
      refine A_p (fun T Q _ _ k => V_iload_n (pc2 := 31) (dk D_X13_handsOn 17 rfl) rfl (V_lg 1 rfl) rfl k) ?_
      refine A_p (fun T Q _ _ k => V_iconst (x := 1) (pc2 := 32) (dk D_X13_handsOn 18 rfl) (by decide) rfl k) ?_
      obtain ⟨h9, h⟩ := h
      refine A_ist (pc2 := 33) 49 (dk D_X13_handsOn 19 rfl) rfl (by decide) rfl (by decide) rfl rfl h9 ?_
      have h := h _ rfl
      refine A_p (fun T Q _ _ k => V_aload_n (pc2 := 34) (dk D_X13_handsOn 20 rfl) rfl (V_lg 0 rfl) rfl k) ?_
      refine A_ar (pc2 := 37) (a := 38) 54 (dk D_X13_handsOn 21 rfl) fl_13_176 (by decide) (by decide) rfl (fun _ => rfl) rfl ?_
      refine A_p (fun T Q _ _ k => V_iload_n (pc2 := 38) (dk D_X13_handsOn 22 rfl) rfl (V_lg 2 rfl) rfl k) ?_
      refine A_p (fun T Q _ _ k => V_aload_n (pc2 := 39) (dk D_X13_handsOn 23 rfl) rfl (V_lg 0 rfl) rfl k) ?_
      refine A_ar (pc2 := 42) (a := 38) 54 (dk D_X13_handsOn 24 rfl) fl_13_176 (by decide) (by decide) rfl (fun _ => rfl) rfl ?_
      refine A_p (fun T Q _ _ k => V_iload_n (pc2 := 43) (dk D_X13_handsOn 25 rfl) rfl (V_lg 1 rfl) rfl k) ?_
      obtain ⟨h11, h⟩ := h
      refine A_ild (pc2 := 44) 54 (dk D_X13_handsOn 26 rfl) rfl (by decide) rfl (by decide) rfl rfl h11 ?_
      obtain ⟨h12, h⟩ := h
      refine A_ist (pc2 := 45) 54 (dk D_X13_handsOn 27 rfl) rfl (by decide) rfl (by decide) rfl rfl h12 ?_
      have h := h _ rfl
      refine A_p (fun T Q _ _ k => V_aload_n (pc2 := 46) (dk D_X13_handsOn 28 rfl) rfl (V_lg 0 rfl) rfl k) ?_
      refine A_p (fun T Q _ _ k => V_iload_n (pc2 := 47) (dk D_X13_handsOn 29 rfl) rfl (V_lg 1 rfl) rfl k) ?_
      refine A_p (fun T Q _ _ k => V_iload_n (pc2 := 48) (dk D_X13_handsOn 30 rfl) rfl (V_lg 2 rfl) rfl k) ?_
      refine A_p (fun T Q _ _ k => V_iload_n (pc2 := 49) (dk D_X13_handsOn 31 rfl) rfl (V_lg 3 rfl) rfl k) ?_
      obtain ⟨e14, he15, hc16⟩ := h
      refine A_call (st := []) (pc2 := 52) (fun T Q Qc L hc k => V_callV (as := [_, _, _]) (st := []) (M' := MX13_goesTo) (ci := 13) (pc2 := 52) (dk D_X13_handsOn 32 rfl) ml_13_570 mv_X13_goesTo rfl rfl (by decide) rfl (Nat.le_of_ble_eq_true rfl) rfl he15 L.2.1 hc k) hc16 (aRV.k fun  s17 h => ?_)
      exact A_ret (fun T Q _ k => V_return (dk D_X13_handsOn 33 rfl) rfl k) h
    · have h := h.2 q8
      exact h
  · have h := h.2 q2
    exact h
theorem a_handsOn_18 {X : Cx} {b d : Nat} {σ : Rm} {Q : Res → Rm → Prop} (x1 : Int32) (x2 : Int32) (x3 : Int32) (h : ∃ e1 : Nat, e1 + 1 ≤ d ∧ AC X b e1 MX13_arises [vR b, vI x1, vI 10] σ (aRV fun  s4 => Q (.inl none) s4)) : A X b d MX13_handsOn 18 [(0, vR b), (1, vI x1), (2, vI x2), (3, vI x3)] [] σ Q := by
  refine A_p (fun T Q _ _ k => V_aload_n (pc2 := 19) (dk D_X13_handsOn 10 rfl) rfl (V_lg 0 rfl) rfl k) ?_
  refine A_p (fun T Q _ _ k => V_iload_n (pc2 := 20) (dk D_X13_handsOn 11 rfl) rfl (V_lg 1 rfl) rfl k) ?_
  refine A_p (fun T Q _ _ k => V_bipush (x := 10) (pc2 := 22) (dk D_X13_handsOn 12 rfl) (by decide) rfl k) ?_
  obtain ⟨e1, he2, hc3⟩ := h
  refine A_call (st := []) (pc2 := 25) (fun T Q Qc L hc k => V_callV (as := [_, _]) (st := []) (M' := MX13_arises) (ci := 13) (pc2 := 25) (dk D_X13_handsOn 13 rfl) ml_13_567 mv_X13_arises rfl rfl (by decide) rfl (Nat.le_of_ble_eq_true rfl) rfl he2 L.2.1 hc k) hc3 (aRV.k fun  s4 h => ?_)
  exact A_ret (fun T Q _ k => V_return (dk D_X13_handsOn 14 rfl) rfl k) h
