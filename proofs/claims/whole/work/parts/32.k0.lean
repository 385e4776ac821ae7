theorem k_1_clear_0 {X : Cx} {d : Nat} {κ : Km} {Q : Res → Km → Prop}  (h : ∀ κ1 : Km, κ1 = cI κ 68 2 0 → Q (.inl none) κ1) : K X d MX1_clear 0 [(0, vR 68)] [] κ Q := by
  refine K_p (pc2 := 1) (lv2 := [(0, vR 68)]) (st2 := [vR 68]) (fun ad S Q _ k => V_aload_n (pc2 := 1) (dk D_X1_clear 0 rfl) rfl (V_lg 0 rfl) rfl k) ?_
  refine K_p (pc2 := 2) (lv2 := [(0, vR 68)]) (st2 := [vI _, vR 68]) (fun ad S Q _ k => V_iconst (x := 0) (pc2 := 2) (dk D_X1_clear 1 rfl) (by decide) rfl k) ?_
  refine K_putI kc1 (pc2 := 5) 2 (dk D_X1_clear 2 rfl) fl_1_17 (by decide) (Or.inl rfl) rfl rfl (fixH 68 1 (by decide) rfl) (by decide) ?_
  have h := h _ rfl
  exact K_ret (r := .inl none) (fun ad S Q _ k => V_return (dk D_X1_clear 3 rfl) rfl k) h
theorem k_1_size_0 {X : Cx} {d : Nat} {κ : Km} {Q : Res → Km → Prop}  (h : Q (.inl (some (vI (kI κ 68 2)))) κ) : K X d MX1_size 0 [(0, vR 68)] [] κ Q := by
  refine K_p (pc2 := 1) (lv2 := [(0, vR 68)]) (st2 := [vR 68]) (fun ad S Q _ k => V_aload_n (pc2 := 1) (dk D_X1_size 0 rfl) rfl (V_lg 0 rfl) rfl k) ?_
  refine K_getI kc1 (pc2 := 4) 2 (dk D_X1_size 1 rfl) fl_1_17 (by decide) (fun _ _ => rfl) rfl (fixH 68 1 (by decide) rfl) ?_
  exact K_ret (r := .inl (some (vI _))) (fun ad S Q _ k => V_ireturn (dk D_X1_size 2 rfl) rfl k) h
theorem k_1_act_0 {X : Cx} {d : Nat} {κ : Km} {Q : Res → Km → Prop} (x1 : Int32) (h : ((x1 < 0 → K X d MX1_act 12 [(0, vR 68), (1, vI x1)] [] κ Q) ∧ (¬ x1 < 0 → ((x1 < (kI κ 68 2) → (vp_in x1 (kW κ 69)) ∧ K X d MX1_act 22 [(0, vR 68), (1, vI x1)] [vI (kI κ 69 (x1 : Int32).toNatClampNeg)] κ Q) ∧ (¬ x1 < (kI κ 68 2) → K X d MX1_act 12 [(0, vR 68), (1, vI x1)] [] κ Q))))) : K X d MX1_act 0 [(0, vR 68), (1, vI x1)] [] κ Q := by
  refine K_p (pc2 := 1) (lv2 := [(0, vR 68), (1, vI _)]) (st2 := [vI _]) (fun ad S Q _ k => V_iload_n (pc2 := 1) (dk D_X1_act 0 rfl) rfl (V_lg 1 rfl) rfl k) ?_
  refine K_if (pa := 12) (pb := 4) (lv2 := [(0, vR 68), (1, vI _)]) (st2 := []) (fun ad S Q _ k1 k2 => V_iflt (tgt := 12) (pc2 := 4) (dk D_X1_act 1 rfl) (by decide) rfl (fun q => k1 q) (fun q => k2 q)) (fun q1 => ?_) (fun q1 => ?_)
  · have h := h.1 q1
    exact h
  · have h := h.2 q1
    refine K_p (pc2 := 5) (lv2 := [(0, vR 68), (1, vI _)]) (st2 := [vI _]) (fun ad S Q _ k => V_iload_n (pc2 := 5) (dk D_X1_act 2 rfl) rfl (V_lg 1 rfl) rfl k) ?_
    refine K_p (pc2 := 6) (lv2 := [(0, vR 68), (1, vI _)]) (st2 := [vR 68, vI _]) (fun ad S Q _ k => V_aload_n (pc2 := 6) (dk D_X1_act 3 rfl) rfl (V_lg 0 rfl) rfl k) ?_
    refine K_getI kc1 (pc2 := 9) 2 (dk D_X1_act 4 rfl) fl_1_17 (by decide) (fun _ _ => rfl) rfl (fixH 68 1 (by decide) rfl) ?_
    refine K_if (pa := 16) (pb := 12) (lv2 := [(0, vR 68), (1, vI _)]) (st2 := []) (fun ad S Q _ k1 k2 => V_cmplt (tgt := 16) (pc2 := 12) (dk D_X1_act 5 rfl) (by decide) rfl (fun q => k1 q) (fun q => k2 q)) (fun q2 => ?_) (fun q2 => ?_)
    · have h := h.1 q2
      refine K_p (pc2 := 17) (lv2 := [(0, vR 68), (1, vI _)]) (st2 := [vR 68]) (fun ad S Q _ k => V_aload_n (pc2 := 17) (dk D_X1_act 8 rfl) rfl (V_lg 0 rfl) rfl k) ?_
      refine K_getF kc1 (h' := 69) (pc2 := 20) 0 (by decide) (dk D_X1_act 9 rfl) fl_1_7 (by decide) (fun _ _ => rfl) rfl (fixH 68 1 (by decide) rfl) (by decide) ?_
      refine K_p (pc2 := 21) (lv2 := [(0, vR 68), (1, vI _)]) (st2 := [vI _, vR 69]) (fun ad S Q _ k => V_iload_n (pc2 := 21) (dk D_X1_act 10 rfl) rfl (V_lg 1 rfl) rfl k) ?_
      obtain ⟨h3, h⟩ := h
      refine K_bald (pc2 := 22) (dk D_X1_act 11 rfl) rfl (fixH 69 20 (by decide) rfl) h3 ?_
      exact h
    · have h := h.2 q2
      exact h
theorem k_1_act_12 {X : Cx} {d : Nat} {κ : Km} {Q : Res → Km → Prop} (x1 : Int32) (h : K X d MX1_act 22 [(0, vR 68), (1, vI x1)] [vI 0] κ Q) : K X d MX1_act 12 [(0, vR 68), (1, vI x1)] [] κ Q := by
  refine K_p (pc2 := 13) (lv2 := [(0, vR 68), (1, vI _)]) (st2 := [vI _]) (fun ad S Q _ k => V_iconst (x := 0) (pc2 := 13) (dk D_X1_act 6 rfl) (by decide) rfl k) ?_
  refine K_p (pc2 := 22) (lv2 := [(0, vR 68), (1, vI _)]) (st2 := [vI _]) (fun ad S Q _ k => V_goto (tgt := 22) (dk D_X1_act 7 rfl) (by decide) k) ?_
  exact h
theorem k_1_act_22 {X : Cx} {d : Nat} {κ : Km} {Q : Res → Km → Prop} (x1 : Int32) (t0 : Int32) (h : Q (.inl (some (vI t0))) κ) : K X d MX1_act 22 [(0, vR 68), (1, vI x1)] [vI t0] κ Q := by
  exact K_ret (r := .inl (some (vI _))) (fun ad S Q _ k => V_ireturn (dk D_X1_act 12 rfl) rfl k) h
theorem k_1_argument_0 {X : Cx} {d : Nat} {κ : Km} {Q : Res → Km → Prop} (x1 : Int32) (h : ((x1 < 0 → K X d MX1_argument 12 [(0, vR 68), (1, vI x1)] [] κ Q) ∧ (¬ x1 < 0 → ((x1 < (kI κ 68 2) → (vp_in x1 (kW κ 70)) ∧ K X d MX1_argument 22 [(0, vR 68), (1, vI x1)] [vI (kI κ 70 (x1 : Int32).toNatClampNeg)] κ Q) ∧ (¬ x1 < (kI κ 68 2) → K X d MX1_argument 12 [(0, vR 68), (1, vI x1)] [] κ Q))))) : K X d MX1_argument 0 [(0, vR 68), (1, vI x1)] [] κ Q := by
  refine K_p (pc2 := 1) (lv2 := [(0, vR 68), (1, vI _)]) (st2 := [vI _]) (fun ad S Q _ k => V_iload_n (pc2 := 1) (dk D_X1_argument 0 rfl) rfl (V_lg 1 rfl) rfl k) ?_
  refine K_if (pa := 12) (pb := 4) (lv2 := [(0, vR 68), (1, vI _)]) (st2 := []) (fun ad S Q _ k1 k2 => V_iflt (tgt := 12) (pc2 := 4) (dk D_X1_argument 1 rfl) (by decide) rfl (fun q => k1 q) (fun q => k2 q)) (fun q1 => ?_) (fun q1 => ?_)
  · have h := h.1 q1
    exact h
  · have h := h.2 q1
    refine K_p (pc2 := 5) (lv2 := [(0, vR 68), (1, vI _)]) (st2 := [vI _]) (fun ad S Q _ k => V_iload_n (pc2 := 5) (dk D_X1_argument 2 rfl) rfl (V_lg 1 rfl) rfl k) ?_
    refine K_p (pc2 := 6) (lv2 := [(0, vR 68), (1, vI _)]) (st2 := [vR 68, vI _]) (fun ad S Q _ k => V_aload_n (pc2 := 6) (dk D_X1_argument 3 rfl) rfl (V_lg 0 rfl) rfl k) ?_
    refine K_getI kc1 (pc2 := 9) 2 (dk D_X1_argument 4 rfl) fl_1_17 (by decide) (fun _ _ => rfl) rfl (fixH 68 1 (by decide) rfl) ?_
    refine K_if (pa := 16) (pb := 12) (lv2 := [(0, vR 68), (1, vI _)]) (st2 := []) (fun ad S Q _ k1 k2 => V_cmplt (tgt := 16) (pc2 := 12) (dk D_X1_argument 5 rfl) (by decide) rfl (fun q => k1 q) (fun q => k2 q)) (fun q2 => ?_) (fun q2 => ?_)
    · have h := h.1 q2
      refine K_p (pc2 := 17) (lv2 := [(0, vR 68), (1, vI _)]) (st2 := [vR 68]) (fun ad S Q _ k => V_aload_n (pc2 := 17) (dk D_X1_argument 8 rfl) rfl (V_lg 0 rfl) rfl k) ?_
      refine K_getF kc1 (h' := 70) (pc2 := 20) 1 (by decide) (dk D_X1_argument 9 rfl) fl_1_13 (by decide) (fun _ _ => rfl) rfl (fixH 68 1 (by decide) rfl) (by decide) ?_
      refine K_p (pc2 := 21) (lv2 := [(0, vR 68), (1, vI _)]) (st2 := [vI _, vR 70]) (fun ad S Q _ k => V_iload_n (pc2 := 21) (dk D_X1_argument 10 rfl) rfl (V_lg 1 rfl) rfl k) ?_
      obtain ⟨h3, h⟩ := h
      refine K_iald (pc2 := 22) (dk D_X1_argument 11 rfl) rfl (fixH 70 21 (by decide) rfl) h3 ?_
      exact h
    · have h := h.2 q2
      exact h
theorem k_1_argument_12 {X : Cx} {d : Nat} {κ : Km} {Q : Res → Km → Prop} (x1 : Int32) (h : K X d MX1_argument 22 [(0, vR 68), (1, vI x1)] [vI 0] κ Q) : K X d MX1_argument 12 [(0, vR 68), (1, vI x1)] [] κ Q := by
  refine K_p (pc2 := 13) (lv2 := [(0, vR 68), (1, vI _)]) (st2 := [vI _]) (fun ad S Q _ k => V_iconst (x := 0) (pc2 := 13) (dk D_X1_argument 6 rfl) (by decide) rfl k) ?_
  refine K_p (pc2 := 22) (lv2 := [(0, vR 68), (1, vI _)]) (st2 := [vI _]) (fun ad S Q _ k => V_goto (tgt := 22) (dk D_X1_argument 7 rfl) (by decide) k) ?_
  exact h
theorem k_1_argument_22 {X : Cx} {d : Nat} {κ : Km} {Q : Res → Km → Prop} (x1 : Int32) (t0 : Int32) (h : Q (.inl (some (vI t0))) κ) : K X d MX1_argument 22 [(0, vR 68), (1, vI x1)] [vI t0] κ Q := by
  exact K_ret (r := .inl (some (vI _))) (fun ad S Q _ k => V_ireturn (dk D_X1_argument 12 rfl) rfl k) h
theorem k_1_patch_0 {X : Cx} {d : Nat} {κ : Km} {Q : Res → Km → Prop} (x1 : Int32) (x2 : Int32) (h : ((x1 < 0 → K X d MX1_patch 19 [(0, vR 68), (1, vI x1), (2, vI x2)] [] κ Q) ∧ (¬ x1 < 0 → (((kI κ 68 2) ≤ x1 → K X d MX1_patch 19 [(0, vR 68), (1, vI x1), (2, vI x2)] [] κ Q) ∧ (¬ (kI κ 68 2) ≤ x1 → (vp_in x1 (kW κ 70)) ∧ ∀ κ4 : Km, κ4 = cI κ 70 ((x1 : Int32).toNatClampNeg) x2 → K X d MX1_patch 19 [(0, vR 68), (1, vI x1), (2, vI x2)] [] κ4 Q))))) : K X d MX1_patch 0 [(0, vR 68), (1, vI x1), (2, vI x2)] [] κ Q := by
  refine K_p (pc2 := 1) (lv2 := [(0, vR 68), (1, vI _), (2, vI _)]) (st2 := [vI _]) (fun ad S Q _ k => V_iload_n (pc2 := 1) (dk D_X1_patch 0 rfl) rfl (V_lg 1 rfl) rfl k) ?_
  refine K_if (pa := 19) (pb := 4) (lv2 := [(0, vR 68), (1, vI _), (2, vI _)]) (st2 := []) (fun ad S Q _ k1 k2 => V_iflt (tgt := 19) (pc2 := 4) (dk D_X1_patch 1 rfl) (by decide) rfl (fun q => k1 q) (fun q => k2 q)) (fun q1 => ?_) (fun q1 => ?_)
  · have h := h.1 q1
    exact h
  · have h := h.2 q1
    refine K_p (pc2 := 5) (lv2 := [(0, vR 68), (1, vI _), (2, vI _)]) (st2 := [vI _]) (fun ad S Q _ k => V_iload_n (pc2 := 5) (dk D_X1_patch 2 rfl) rfl (V_lg 1 rfl) rfl k) ?_
    refine K_p (pc2 := 6) (lv2 := [(0, vR 68), (1, vI _), (2, vI _)]) (st2 := [vR 68, vI _]) (fun ad S Q _ k => V_aload_n (pc2 := 6) (dk D_X1_patch 3 rfl) rfl (V_lg 0 rfl) rfl k) ?_
    refine K_getI kc1 (pc2 := 9) 2 (dk D_X1_patch 4 rfl) fl_1_17 (by decide) (fun _ _ => rfl) rfl (fixH 68 1 (by decide) rfl) ?_
    refine K_if (pa := 19) (pb := 12) (lv2 := [(0, vR 68), (1, vI _), (2, vI _)]) (st2 := []) (fun ad S Q _ k1 k2 => V_cmpge (tgt := 19) (pc2 := 12) (dk D_X1_patch 5 rfl) (by decide) rfl (fun q => k1 q) (fun q => k2 q)) (fun q2 => ?_) (fun q2 => ?_)
    · have h := h.1 q2
      exact h
    · have h := h.2 q2
      refine K_p (pc2 := 13) (lv2 := [(0, vR 68), (1, vI _), (2, vI _)]) (st2 := [vR 68]) (fun ad S Q _ k => V_aload_n (pc2 := 13) (dk D_X1_patch 6 rfl) rfl (V_lg 0 rfl) rfl k) ?_
      refine K_getF kc1 (h' := 70) (pc2 := 16) 1 (by decide) (dk D_X1_patch 7 rfl) fl_1_13 (by decide) (fun _ _ => rfl) rfl (fixH 68 1 (by decide) rfl) (by decide) ?_
      refine K_p (pc2 := 17) (lv2 := [(0, vR 68), (1, vI _), (2, vI _)]) (st2 := [vI _, vR 70]) (fun ad S Q _ k => V_iload_n (pc2 := 17) (dk D_X1_patch 8 rfl) rfl (V_lg 1 rfl) rfl k) ?_
      refine K_p (pc2 := 18) (lv2 := [(0, vR 68), (1, vI _), (2, vI _)]) (st2 := [vI _, vI _, vR 70]) (fun ad S Q _ k => V_iload_n (pc2 := 18) (dk D_X1_patch 9 rfl) rfl (V_lg 2 rfl) rfl k) ?_
      obtain ⟨h3, h⟩ := h
      refine K_iast (pc2 := 19) (dk D_X1_patch 10 rfl) rfl (fixH 70 21 (by decide) rfl) h3 ?_
      have h := h _ rfl
      exact h
theorem k_1_patch_19 {X : Cx} {d : Nat} {κ : Km} {Q : Res → Km → Prop} (x1 : Int32) (x2 : Int32) (h : Q (.inl none) κ) : K X d MX1_patch 19 [(0, vR 68), (1, vI x1), (2, vI x2)] [] κ Q := by
  exact K_ret (r := .inl none) (fun ad S Q _ k => V_return (dk D_X1_patch 11 rfl) rfl k) h
theorem k_8_hasRoom_0 {X : Cx} {d : Nat} {κ : Km} {Q : Res → Km → Prop} (x1 : Int32) (h : ((3000 < ((kI κ 65 1) + x1) → K X d MX8_hasRoom 17 [(0, vR 65), (1, vI x1)] [vI 0] κ Q) ∧ (¬ 3000 < ((kI κ 65 1) + x1) → K X d MX8_hasRoom 17 [(0, vR 65), (1, vI x1)] [vI 1] κ Q))) : K X d MX8_hasRoom 0 [(0, vR 65), (1, vI x1)] [] κ Q := by
  refine K_p (pc2 := 1) (lv2 := [(0, vR 65), (1, vI _)]) (st2 := [vR 65]) (fun ad S Q _ k => V_aload_n (pc2 := 1) (dk D_X8_hasRoom 0 rfl) rfl (V_lg 0 rfl) rfl k) ?_
  refine K_getI kc8 (pc2 := 4) 1 (dk D_X8_hasRoom 1 rfl) fl_8_13 (by decide) (fun _ _ => rfl) rfl (fixH 65 8 (by decide) rfl) ?_
  refine K_p (pc2 := 5) (lv2 := [(0, vR 65), (1, vI _)]) (st2 := [vI _, vI _]) (fun ad S Q _ k => V_iload_n (pc2 := 5) (dk D_X8_hasRoom 2 rfl) rfl (V_lg 1 rfl) rfl k) ?_
  refine K_p (pc2 := 6) (lv2 := [(0, vR 65), (1, vI _)]) (st2 := [vI _]) (fun ad S Q _ k => V_iadd (pc2 := 6) (dk D_X8_hasRoom 3 rfl) rfl k) ?_
  refine K_p (pc2 := 9) (lv2 := [(0, vR 65), (1, vI _)]) (st2 := [vI _, vI _]) (fun ad S Q _ k => V_sipush (x := 3000) (pc2 := 9) (dk D_X8_hasRoom 4 rfl) (by decide) rfl k) ?_
  refine K_if (pa := 16) (pb := 12) (lv2 := [(0, vR 65), (1, vI _)]) (st2 := []) (fun ad S Q _ k1 k2 => V_cmpgt (tgt := 16) (pc2 := 12) (dk D_X8_hasRoom 5 rfl) (by decide) rfl (fun q => k1 q) (fun q => k2 q)) (fun q1 => ?_) (fun q1 => ?_)
  · have h := h.1 q1
    refine K_p (pc2 := 17) (lv2 := [(0, vR 65), (1, vI _)]) (st2 := [vI _]) (fun ad S Q _ k => V_iconst (x := 0) (pc2 := 17) (dk D_X8_hasRoom 8 rfl) (by decide) rfl k) ?_
    exact h
  · have h := h.2 q1
    refine K_p (pc2 := 13) (lv2 := [(0, vR 65), (1, vI _)]) (st2 := [vI _]) (fun ad S Q _ k => V_iconst (x := 1) (pc2 := 13) (dk D_X8_hasRoom 6 rfl) (by decide) rfl k) ?_
    refine K_p (pc2 := 17) (lv2 := [(0, vR 65), (1, vI _)]) (st2 := [vI _]) (fun ad S Q _ k => V_goto (tgt := 17) (dk D_X8_hasRoom 7 rfl) (by decide) k) ?_
    exact h
theorem k_8_hasRoom_17 {X : Cx} {d : Nat} {κ : Km} {Q : Res → Km → Prop} (x1 : Int32) (t0 : Int32) (h : (t0 = 0 ∨ t0 = 1) ∧ Q (.inl (some (vI t0))) κ) : K X d MX8_hasRoom 17 [(0, vR 65), (1, vI x1)] [vI t0] κ Q := by
  obtain ⟨h1, h⟩ := h
  exact K_ret (r := .inl (some (vI _))) (fun ad S Q _ k => V_zreturn (dk D_X8_hasRoom 9 rfl) rfl h1 k) h
theorem k_8_add_0 {X : Cx} {d : Nat} {κ : Km} {Q : Res → Km → Prop} (x1 : Int32) (h : ((3000 ≤ (kI κ 65 1) → K X d MX8_add 31 [(0, vR 65), (1, vI x1)] [] κ Q) ∧ (¬ 3000 ≤ (kI κ 65 1) → (vp_in (kI κ 65 1) (kW κ 66)) ∧ ∀ κ3 : Km, κ3 = cI κ 66 (((kI κ 65 1) : Int32).toNatClampNeg) (((x1 : Int32).toInt8.toInt32) : Int32).toInt8.toInt32 → ∀ κ4 : Km, κ4 = cI κ3 65 1 ((kI κ3 65 1) + 1) → K X d MX8_add 31 [(0, vR 65), (1, vI x1)] [] κ4 Q))) : K X d MX8_add 0 [(0, vR 65), (1, vI x1)] [] κ Q := by
  refine K_p (pc2 := 1) (lv2 := [(0, vR 65), (1, vI _)]) (st2 := [vR 65]) (fun ad S Q _ k => V_aload_n (pc2 := 1) (dk D_X8_add 0 rfl) rfl (V_lg 0 rfl) rfl k) ?_
  refine K_getI kc8 (pc2 := 4) 1 (dk D_X8_add 1 rfl) fl_8_13 (by decide) (fun _ _ => rfl) rfl (fixH 65 8 (by decide) rfl) ?_
  refine K_p (pc2 := 7) (lv2 := [(0, vR 65), (1, vI _)]) (st2 := [vI _, vI _]) (fun ad S Q _ k => V_sipush (x := 3000) (pc2 := 7) (dk D_X8_add 2 rfl) (by decide) rfl k) ?_
  refine K_if (pa := 31) (pb := 10) (lv2 := [(0, vR 65), (1, vI _)]) (st2 := []) (fun ad S Q _ k1 k2 => V_cmpge (tgt := 31) (pc2 := 10) (dk D_X8_add 3 rfl) (by decide) rfl (fun q => k1 q) (fun q => k2 q)) (fun q1 => ?_) (fun q1 => ?_)
  · have h := h.1 q1
    exact h
  · have h := h.2 q1
    refine K_p (pc2 := 11) (lv2 := [(0, vR 65), (1, vI _)]) (st2 := [vR 65]) (fun ad S Q _ k => V_aload_n (pc2 := 11) (dk D_X8_add 4 rfl) rfl (V_lg 0 rfl) rfl k) ?_
    refine K_getF kc8 (h' := 66) (pc2 := 14) 0 (by decide) (dk D_X8_add 5 rfl) fl_8_9 (by decide) (fun _ _ => rfl) rfl (fixH 65 8 (by decide) rfl) (by decide) ?_
    refine K_p (pc2 := 15) (lv2 := [(0, vR 65), (1, vI _)]) (st2 := [vR 65, vR 66]) (fun ad S Q _ k => V_aload_n (pc2 := 15) (dk D_X8_add 6 rfl) rfl (V_lg 0 rfl) rfl k) ?_
    refine K_getI kc8 (pc2 := 18) 1 (dk D_X8_add 7 rfl) fl_8_13 (by decide) (fun _ _ => rfl) rfl (fixH 65 8 (by decide) rfl) ?_
    refine K_p (pc2 := 19) (lv2 := [(0, vR 65), (1, vI _)]) (st2 := [vI _, vI _, vR 66]) (fun ad S Q _ k => V_iload_n (pc2 := 19) (dk D_X8_add 8 rfl) rfl (V_lg 1 rfl) rfl k) ?_
    refine K_p (pc2 := 20) (lv2 := [(0, vR 65), (1, vI _)]) (st2 := [vI _, vI _, vR 66]) (fun ad S Q _ k => V_i2b (pc2 := 20) (dk D_X8_add 9 rfl) rfl k) ?_
    obtain ⟨h2, h⟩ := h
    refine K_bast (pc2 := 21) (dk D_X8_add 10 rfl) rfl (fixH 66 20 (by decide) rfl) h2 ?_
    have h := h _ rfl
    refine K_p (pc2 := 22) (lv2 := [(0, vR 65), (1, vI _)]) (st2 := [vR 65]) (fun ad S Q _ k => V_aload_n (pc2 := 22) (dk D_X8_add 11 rfl) rfl (V_lg 0 rfl) rfl k) ?_
    refine K_p (pc2 := 23) (lv2 := [(0, vR 65), (1, vI _)]) (st2 := [vR 65, vR 65]) (fun ad S Q _ k => V_dup (pc2 := 23) (dk D_X8_add 12 rfl) rfl rfl k) ?_
    refine K_getI kc8 (pc2 := 26) 1 (dk D_X8_add 13 rfl) fl_8_13 (by decide) (fun _ _ => rfl) rfl (fixH 65 8 (by decide) rfl) ?_
    refine K_p (pc2 := 27) (lv2 := [(0, vR 65), (1, vI _)]) (st2 := [vI _, vI _, vR 65]) (fun ad S Q _ k => V_iconst (x := 1) (pc2 := 27) (dk D_X8_add 14 rfl) (by decide) rfl k) ?_
    refine K_p (pc2 := 28) (lv2 := [(0, vR 65), (1, vI _)]) (st2 := [vI _, vR 65]) (fun ad S Q _ k => V_iadd (pc2 := 28) (dk D_X8_add 15 rfl) rfl k) ?_
    refine K_putI kc8 (pc2 := 31) 1 (dk D_X8_add 16 rfl) fl_8_13 (by decide) (Or.inl rfl) rfl rfl (fixH 65 8 (by decide) rfl) (by decide) ?_
    have h := h _ rfl
    exact h
theorem k_8_add_31 {X : Cx} {d : Nat} {κ : Km} {Q : Res → Km → Prop} (x1 : Int32) (h : Q (.inl none) κ) : K X d MX8_add 31 [(0, vR 65), (1, vI x1)] [] κ Q := by
  exact K_ret (r := .inl none) (fun ad S Q _ k => V_return (dk D_X8_add 17 rfl) rfl k) h
theorem k_8_size_0 {X : Cx} {d : Nat} {κ : Km} {Q : Res → Km → Prop}  (h : Q (.inl (some (vI (kI κ 65 1)))) κ) : K X d MX8_size 0 [(0, vR 65)] [] κ Q := by
  refine K_p (pc2 := 1) (lv2 := [(0, vR 65)]) (st2 := [vR 65]) (fun ad S Q _ k => V_aload_n (pc2 := 1) (dk D_X8_size 0 rfl) rfl (V_lg 0 rfl) rfl k) ?_
  refine K_getI kc8 (pc2 := 4) 1 (dk D_X8_size 1 rfl) fl_8_13 (by decide) (fun _ _ => rfl) rfl (fixH 65 8 (by decide) rfl) ?_
  exact K_ret (r := .inl (some (vI _))) (fun ad S Q _ k => V_ireturn (dk D_X8_size 2 rfl) rfl k) h
theorem k_8_clear_0 {X : Cx} {d : Nat} {κ : Km} {Q : Res → Km → Prop}  (h : ∀ κ1 : Km, κ1 = cI κ 65 1 0 → Q (.inl none) κ1) : K X d MX8_clear 0 [(0, vR 65)] [] κ Q := by
  refine K_p (pc2 := 1) (lv2 := [(0, vR 65)]) (st2 := [vR 65]) (fun ad S Q _ k => V_aload_n (pc2 := 1) (dk D_X8_clear 0 rfl) rfl (V_lg 0 rfl) rfl k) ?_
  refine K_p (pc2 := 2) (lv2 := [(0, vR 65)]) (st2 := [vI _, vR 65]) (fun ad S Q _ k => V_iconst (x := 0) (pc2 := 2) (dk D_X8_clear 1 rfl) (by decide) rfl k) ?_
  refine K_putI kc8 (pc2 := 5) 1 (dk D_X8_clear 2 rfl) fl_8_13 (by decide) (Or.inl rfl) rfl rfl (fixH 65 8 (by decide) rfl) (by decide) ?_
  have h := h _ rfl
  exact K_ret (r := .inl none) (fun ad S Q _ k => V_return (dk D_X8_clear 3 rfl) rfl k) h
theorem k_8_at_0 {X : Cx} {d : Nat} {κ : Km} {Q : Res → Km → Prop} (x1 : Int32) (h : ((x1 < 0 → K X d MX8_at 19 [(0, vR 65), (1, vI x1)] [] κ Q) ∧ (¬ x1 < 0 → (((kI κ 65 1) ≤ x1 → K X d MX8_at 19 [(0, vR 65), (1, vI x1)] [] κ Q) ∧ (¬ (kI κ 65 1) ≤ x1 → ((x1 < 3000 → (vp_in x1 (kW κ 66)) ∧ K X d MX8_at 33 [(0, vR 65), (1, vI x1)] [vI ((kI κ 66 (x1 : Int32).toNatClampNeg) &&& 255)] κ Q) ∧ (¬ x1 < 3000 → K X d MX8_at 19 [(0, vR 65), (1, vI x1)] [] κ Q))))))) : K X d MX8_at 0 [(0, vR 65), (1, vI x1)] [] κ Q := by
  refine K_p (pc2 := 1) (lv2 := [(0, vR 65), (1, vI _)]) (st2 := [vI _]) (fun ad S Q _ k => V_iload_n (pc2 := 1) (dk D_X8_at 0 rfl) rfl (V_lg 1 rfl) rfl k) ?_
  refine K_if (pa := 19) (pb := 4) (lv2 := [(0, vR 65), (1, vI _)]) (st2 := []) (fun ad S Q _ k1 k2 => V_iflt (tgt := 19) (pc2 := 4) (dk D_X8_at 1 rfl) (by decide) rfl (fun q => k1 q) (fun q => k2 q)) (fun q1 => ?_) (fun q1 => ?_)
  · have h := h.1 q1
    exact h
  · have h := h.2 q1
    refine K_p (pc2 := 5) (lv2 := [(0, vR 65), (1, vI _)]) (st2 := [vI _]) (fun ad S Q _ k => V_iload_n (pc2 := 5) (dk D_X8_at 2 rfl) rfl (V_lg 1 rfl) rfl k) ?_
    refine K_p (pc2 := 6) (lv2 := [(0, vR 65), (1, vI _)]) (st2 := [vR 65, vI _]) (fun ad S Q _ k => V_aload_n (pc2 := 6) (dk D_X8_at 3 rfl) rfl (V_lg 0 rfl) rfl k) ?_
    refine K_getI kc8 (pc2 := 9) 1 (dk D_X8_at 4 rfl) fl_8_13 (by decide) (fun _ _ => rfl) rfl (fixH 65 8 (by decide) rfl) ?_
    refine K_if (pa := 19) (pb := 12) (lv2 := [(0, vR 65), (1, vI _)]) (st2 := []) (fun ad S Q _ k1 k2 => V_cmpge (tgt := 19) (pc2 := 12) (dk D_X8_at 5 rfl) (by decide) rfl (fun q => k1 q) (fun q => k2 q)) (fun q2 => ?_) (fun q2 => ?_)
    · have h := h.1 q2
      exact h
    · have h := h.2 q2
      refine K_p (pc2 := 13) (lv2 := [(0, vR 65), (1, vI _)]) (st2 := [vI _]) (fun ad S Q _ k => V_iload_n (pc2 := 13) (dk D_X8_at 6 rfl) rfl (V_lg 1 rfl) rfl k) ?_
      refine K_p (pc2 := 16) (lv2 := [(0, vR 65), (1, vI _)]) (st2 := [vI _, vI _]) (fun ad S Q _ k => V_sipush (x := 3000) (pc2 := 16) (dk D_X8_at 7 rfl) (by decide) rfl k) ?_
      refine K_if (pa := 23) (pb := 19) (lv2 := [(0, vR 65), (1, vI _)]) (st2 := []) (fun ad S Q _ k1 k2 => V_cmplt (tgt := 23) (pc2 := 19) (dk D_X8_at 8 rfl) (by decide) rfl (fun q => k1 q) (fun q => k2 q)) (fun q3 => ?_) (fun q3 => ?_)
      · have h := h.1 q3
        refine K_p (pc2 := 24) (lv2 := [(0, vR 65), (1, vI _)]) (st2 := [vR 65]) (fun ad S Q _ k => V_aload_n (pc2 := 24) (dk D_X8_at 11 rfl) rfl (V_lg 0 rfl) rfl k) ?_
        refine K_getF kc8 (h' := 66) (pc2 := 27) 0 (by decide) (dk D_X8_at 12 rfl) fl_8_9 (by decide) (fun _ _ => rfl) rfl (fixH 65 8 (by decide) rfl) (by decide) ?_
        refine K_p (pc2 := 28) (lv2 := [(0, vR 65), (1, vI _)]) (st2 := [vI _, vR 66]) (fun ad S Q _ k => V_iload_n (pc2 := 28) (dk D_X8_at 13 rfl) rfl (V_lg 1 rfl) rfl k) ?_
        obtain ⟨h4, h⟩ := h
        refine K_bald (pc2 := 29) (dk D_X8_at 14 rfl) rfl (fixH 66 20 (by decide) rfl) h4 ?_
        refine K_p (pc2 := 32) (lv2 := [(0, vR 65), (1, vI _)]) (st2 := [vI _, vI _]) (fun ad S Q _ k => V_sipush (x := 255) (pc2 := 32) (dk D_X8_at 15 rfl) (by decide) rfl k) ?_
        refine K_p (pc2 := 33) (lv2 := [(0, vR 65), (1, vI _)]) (st2 := [vI _]) (fun ad S Q _ k => V_iand (pc2 := 33) (dk D_X8_at 16 rfl) rfl k) ?_
        exact h
      · have h := h.2 q3
        exact h
theorem k_8_at_19 {X : Cx} {d : Nat} {κ : Km} {Q : Res → Km → Prop} (x1 : Int32) (h : K X d MX8_at 33 [(0, vR 65), (1, vI x1)] [vI (-1)] κ Q) : K X d MX8_at 19 [(0, vR 65), (1, vI x1)] [] κ Q := by
  refine K_p (pc2 := 20) (lv2 := [(0, vR 65), (1, vI _)]) (st2 := [vI _]) (fun ad S Q _ k => V_iconst (x := (-1)) (pc2 := 20) (dk D_X8_at 9 rfl) (by decide) rfl k) ?_
  refine K_p (pc2 := 33) (lv2 := [(0, vR 65), (1, vI _)]) (st2 := [vI _]) (fun ad S Q _ k => V_goto (tgt := 33) (dk D_X8_at 10 rfl) (by decide) k) ?_
  exact h
theorem k_8_at_33 {X : Cx} {d : Nat} {κ : Km} {Q : Res → Km → Prop} (x1 : Int32) (t0 : Int32) (h : Q (.inl (some (vI t0))) κ) : K X d MX8_at 33 [(0, vR 65), (1, vI x1)] [vI t0] κ Q := by
  exact K_ret (r := .inl (some (vI _))) (fun ad S Q _ k => V_ireturn (dk D_X8_at 17 rfl) rfl k) h
theorem k_9_readTape_0 {X : Cx} {d : Nat} {κ : Km} {Q : Res → Km → Prop}  (h : ∀ κ1 : Km, κ1 = cI κ 72 5 0 → K X d MX9_readTape 9 [(0, vR 72), (1, vI 0), (2, vI 0)] [] κ1 Q) : K X d MX9_readTape 0 [(0, vR 72)] [] κ Q := by
  refine K_p (pc2 := 1) (lv2 := [(0, vR 72)]) (st2 := [vR 72]) (fun ad S Q _ k => V_aload_n (pc2 := 1) (dk D_X9_readTape 0 rfl) rfl (V_lg 0 rfl) rfl k) ?_
  refine K_p (pc2 := 2) (lv2 := [(0, vR 72)]) (st2 := [vI _, vR 72]) (fun ad S Q _ k => V_iconst (x := 0) (pc2 := 2) (dk D_X9_readTape 1 rfl) (by decide) rfl k) ?_
  refine K_putI kc9 (pc2 := 5) 5 (dk D_X9_readTape 2 rfl) fl_9_41 (by decide) (Or.inl rfl) rfl rfl (fixH 72 9 (by decide) rfl) (by decide) ?_
  have h := h _ rfl
  refine K_p (pc2 := 6) (lv2 := [(0, vR 72)]) (st2 := [vI _]) (fun ad S Q _ k => V_iconst (x := 0) (pc2 := 6) (dk D_X9_readTape 3 rfl) (by decide) rfl k) ?_
  refine K_p (pc2 := 7) (lv2 := [(0, vR 72), (1, vI _)]) (st2 := []) (fun ad S Q _ k => V_istore_n (pc2 := 7) (lv2 := [(0, _), (1, _)]) (dk D_X9_readTape 4 rfl) rfl (by decide) rfl rfl k) ?_
  refine K_p (pc2 := 8) (lv2 := [(0, vR 72), (1, vI _)]) (st2 := [vI _]) (fun ad S Q _ k => V_iconst (x := 0) (pc2 := 8) (dk D_X9_readTape 5 rfl) (by decide) rfl k) ?_
  refine K_p (pc2 := 9) (lv2 := [(0, vR 72), (1, vI _), (2, vI _)]) (st2 := []) (fun ad S Q _ k => V_istore_n (pc2 := 9) (lv2 := [(0, _), (1, _), (2, _)]) (dk D_X9_readTape 6 rfl) rfl (by decide) rfl rfl k) ?_
  exact h
theorem k_9_readTape_9 {X : Cx} {d : Nat} {κ : Km} {Q : Res → Km → Prop} (x1 : Int32) (x2 : Int32) (h : ((3000 ≤ x2 → K X d MX9_readTape 99 [(0, vR 72), (1, vI x1), (2, vI x2)] [] κ Q) ∧ (¬ 3000 ≤ x2 → ∃ e2 : Nat, e2 + 1 ≤ d ∧ KC' X e2 MX8_size [vR 65] κ (kRI fun y5 κ6 => ((y5 ≤ x1 → K X d MX9_readTape 99 [(0, vR 72), (1, vI x1), (2, vI x2)] [] κ6 Q) ∧ (¬ y5 ≤ x1 → ∃ e9 : Nat, e9 + 1 ≤ d ∧ KC' X e9 MX8_at [vR 65, vI x1] κ6 (kRI fun y12 κ13 => ((y12 = 32 → K X d MX9_readTape 48 [(0, vR 72), (1, vI x1), (2, vI x2), (3, vI y12)] [] κ13 Q) ∧ (¬ y12 = 32 → ((y12 = 10 → K X d MX9_readTape 48 [(0, vR 72), (1, vI x1), (2, vI x2), (3, vI y12)] [] κ13 Q) ∧ (¬ y12 = 10 → ∃ e17 : Nat, e17 + 1 ≤ d ∧ KC' X e17 MX9_isLetter [vI y12] κ13 (kRI fun y20 κ21 => ((y20 = 0 → ∃ e24 : Nat, e24 + 1 ≤ d ∧ KC' X e24 MX9_isFigure [vI y12] κ21 (kRI fun y27 κ28 => ((y27 = 0 → ∃ e31 : Nat, e31 + 1 ≤ d ∧ KC' X e31 MX9_readSign [vR 72, vI x1, vI y12] κ28 (kRI fun y34 κ35 => K X d MX9_readTape 93 [(0, vR 72), (1, vI y34), (2, vI x2), (3, vI y12)] [] κ35 Q)) ∧ (¬ y27 = 0 → ∃ e37 : Nat, e37 + 1 ≤ d ∧ KC' X e37 MX9_readNumber [vR 72, vI x1] κ28 (kRI fun y40 κ41 => K X d MX9_readTape 93 [(0, vR 72), (1, vI y40), (2, vI x2), (3, vI y12)] [] κ41 Q))))) ∧ (¬ y20 = 0 → ∃ e43 : Nat, e43 + 1 ≤ d ∧ KC' X e43 MX9_readName [vR 72, vI x1] κ21 (kRI fun y46 κ47 => K X d MX9_readTape 93 [(0, vR 72), (1, vI y46), (2, vI x2), (3, vI y12)] [] κ47 Q))))))))))))))) : K X d MX9_readTape 9 [(0, vR 72), (1, vI x1), (2, vI x2)] [] κ Q := by
  refine K_p (pc2 := 10) (lv2 := [(0, vR 72), (1, vI _), (2, vI _)]) (st2 := [vI _]) (fun ad S Q _ k => V_iload_n (pc2 := 10) (dk D_X9_readTape 7 rfl) rfl (V_lg 2 rfl) rfl k) ?_
  refine K_p (pc2 := 13) (lv2 := [(0, vR 72), (1, vI _), (2, vI _)]) (st2 := [vI _, vI _]) (fun ad S Q _ k => V_sipush (x := 3000) (pc2 := 13) (dk D_X9_readTape 8 rfl) (by decide) rfl k) ?_
  refine K_if (pa := 99) (pb := 16) (lv2 := [(0, vR 72), (1, vI _), (2, vI _)]) (st2 := []) (fun ad S Q _ k1 k2 => V_cmpge (tgt := 99) (pc2 := 16) (dk D_X9_readTape 9 rfl) (by decide) rfl (fun q => k1 q) (fun q => k2 q)) (fun q1 => ?_) (fun q1 => ?_)
  · have h := h.1 q1
    exact h
  · have h := h.2 q1
    refine K_p (pc2 := 17) (lv2 := [(0, vR 72), (1, vI _), (2, vI _)]) (st2 := [vI _]) (fun ad S Q _ k => V_iload_n (pc2 := 17) (dk D_X9_readTape 10 rfl) rfl (V_lg 1 rfl) rfl k) ?_
    refine K_p (pc2 := 18) (lv2 := [(0, vR 72), (1, vI _), (2, vI _)]) (st2 := [vR 72, vI _]) (fun ad S Q _ k => V_aload_n (pc2 := 18) (dk D_X9_readTape 11 rfl) rfl (V_lg 0 rfl) rfl k) ?_
    refine K_getF kc9 (h' := 65) (pc2 := 21) 0 (by decide) (dk D_X9_readTape 12 rfl) fl_9_23 (by decide) (fun _ _ => rfl) rfl (fixH 72 9 (by decide) rfl) (by decide) ?_
    obtain ⟨e2, he3, hc4⟩ := h
    refine K_call (as := [vR 65]) (st := [vI _]) (pc2 := 24) (okL.all _ ⟨(Or.inr ⟨Or.inl ⟨by decide, by decide⟩, by decide⟩), trivial, trivial, trivial⟩) (okS.all _ ⟨trivial, trivial⟩) (fun ad S Q Qc hC hc k => V_callV (as := []) (st := [_]) (M' := MX8_size) (ci := 8) (pc2 := 24) (dk D_X9_readTape 13 rfl) ml_9_47 mv_X8_size rfl rfl (by decide) rfl (Nat.le_of_ble_eq_true rfl) rfl he3 (hC.k' (fixH 65 8 (by decide) rfl)) hc k) hc4 (kRI.k fun y5 κ6 h mo7 => ?_)
    refine K_if (pa := 99) (pb := 27) (lv2 := [(0, vR 72), (1, vI _), (2, vI _)]) (st2 := []) (fun ad S Q _ k1 k2 => V_cmpge (tgt := 99) (pc2 := 27) (dk D_X9_readTape 14 rfl) (by decide) rfl (fun q => k1 q) (fun q => k2 q)) (fun q8 => ?_) (fun q8 => ?_)
    · have h := h.1 q8
      exact h
    · have h := h.2 q8
      refine K_p (pc2 := 28) (lv2 := [(0, vR 72), (1, vI _), (2, vI _)]) (st2 := [vR 72]) (fun ad S Q _ k => V_aload_n (pc2 := 28) (dk D_X9_readTape 15 rfl) rfl (V_lg 0 rfl) rfl k) ?_
      refine K_getF kc9 (h' := 65) (pc2 := 31) 0 (by decide) (dk D_X9_readTape 16 rfl) fl_9_23 (by decide) (fun _ _ => rfl) rfl (fixH 72 9 (by decide) rfl) (by decide) ?_
      refine K_p (pc2 := 32) (lv2 := [(0, vR 72), (1, vI _), (2, vI _)]) (st2 := [vI _, vR 65]) (fun ad S Q _ k => V_iload_n (pc2 := 32) (dk D_X9_readTape 17 rfl) rfl (V_lg 1 rfl) rfl k) ?_
      obtain ⟨e9, he10, hc11⟩ := h
      refine K_call (as := [vR 65, vI _]) (st := []) (pc2 := 35) (okL.all _ ⟨(Or.inr ⟨Or.inl ⟨by decide, by decide⟩, by decide⟩), trivial, trivial, trivial⟩) (okS.all _ trivial) (fun ad S Q Qc hC hc k => V_callV (as := [_]) (st := []) (M' := MX8_at) (ci := 8) (pc2 := 35) (dk D_X9_readTape 18 rfl) ml_9_49 mv_X8_at rfl rfl (by decide) rfl (Nat.le_of_ble_eq_true rfl) rfl he10 (hC.k' (fixH 65 8 (by decide) rfl)) hc k) hc11 (kRI.k fun y12 κ13 h mo14 => ?_)
      refine K_p (pc2 := 36) (lv2 := [(0, vR 72), (1, vI _), (2, vI _), (3, vI _)]) (st2 := []) (fun ad S Q _ k => V_istore_n (pc2 := 36) (lv2 := [(0, _), (1, _), (2, _), (3, _)]) (dk D_X9_readTape 19 rfl) rfl (by decide) rfl rfl k) ?_
      refine K_p (pc2 := 37) (lv2 := [(0, vR 72), (1, vI _), (2, vI _), (3, vI _)]) (st2 := [vI _]) (fun ad S Q _ k => V_iload_n (pc2 := 37) (dk D_X9_readTape 20 rfl) rfl (V_lg 3 rfl) rfl k) ?_
      refine K_p (pc2 := 39) (lv2 := [(0, vR 72), (1, vI _), (2, vI _), (3, vI _)]) (st2 := [vI _, vI _]) (fun ad S Q _ k => V_bipush (x := 32) (pc2 := 39) (dk D_X9_readTape 21 rfl) (by decide) rfl k) ?_
      refine K_if (pa := 48) (pb := 42) (lv2 := [(0, vR 72), (1, vI _), (2, vI _), (3, vI _)]) (st2 := []) (fun ad S Q _ k1 k2 => V_cmpeq (tgt := 48) (pc2 := 42) (dk D_X9_readTape 22 rfl) (by decide) rfl (fun q => k1 q) (fun q => k2 q)) (fun q15 => ?_) (fun q15 => ?_)
      · have h := h.1 q15
        exact h
      · have h := h.2 q15
        refine K_p (pc2 := 43) (lv2 := [(0, vR 72), (1, vI _), (2, vI _), (3, vI _)]) (st2 := [vI _]) (fun ad S Q _ k => V_iload_n (pc2 := 43) (dk D_X9_readTape 23 rfl) rfl (V_lg 3 rfl) rfl k) ?_
        refine K_p (pc2 := 45) (lv2 := [(0, vR 72), (1, vI _), (2, vI _), (3, vI _)]) (st2 := [vI _, vI _]) (fun ad S Q _ k => V_bipush (x := 10) (pc2 := 45) (dk D_X9_readTape 24 rfl) (by decide) rfl k) ?_
        refine K_if (pa := 48) (pb := 54) (lv2 := [(0, vR 72), (1, vI _), (2, vI _), (3, vI _)]) (st2 := []) (fun ad S Q _ k1 k2 => V_cmpne (tgt := 54) (pc2 := 48) (dk D_X9_readTape 25 rfl) (by decide) rfl (fun q => k2 q) (fun q => k1 q)) (fun q16 => ?_) (fun q16 => ?_)
        · have h := h.1 q16
          exact h
        · have h := h.2 q16
          refine K_p (pc2 := 55) (lv2 := [(0, vR 72), (1, vI _), (2, vI _), (3, vI _)]) (st2 := [vI _]) (fun ad S Q _ k => V_iload_n (pc2 := 55) (dk D_X9_readTape 28 rfl) rfl (V_lg 3 rfl) rfl k) ?_
          obtain ⟨e17, he18, hc19⟩ := h
          refine K_call (as := [vI _]) (st := []) (pc2 := 58) (okL.all _ ⟨(Or.inr ⟨Or.inl ⟨by decide, by decide⟩, by decide⟩), trivial, trivial, trivial, trivial⟩) (okS.all _ trivial) (fun ad S Q Qc hC hc k => V_callS (as := [_]) (st := []) (M' := MX9_isLetter) (pc2 := 58) (dk D_X9_readTape 29 rfl) ml_9_53 mv_X9_isLetter rfl rfl (Nat.le_of_ble_eq_true rfl) rfl he18 hc k) hc19 (kRI.k fun y20 κ21 h mo22 => ?_)
          refine K_if (pa := 70) (pb := 61) (lv2 := [(0, vR 72), (1, vI _), (2, vI _), (3, vI _)]) (st2 := []) (fun ad S Q _ k1 k2 => V_ifeq (tgt := 70) (pc2 := 61) (dk D_X9_readTape 30 rfl) (by decide) rfl (fun q => k1 q) (fun q => k2 q)) (fun q23 => ?_) (fun q23 => ?_)
          · have h := h.1 q23
            refine K_p (pc2 := 71) (lv2 := [(0, vR 72), (1, vI _), (2, vI _), (3, vI _)]) (st2 := [vI _]) (fun ad S Q _ k => V_iload_n (pc2 := 71) (dk D_X9_readTape 36 rfl) rfl (V_lg 3 rfl) rfl k) ?_
            obtain ⟨e24, he25, hc26⟩ := h
            refine K_call (as := [vI _]) (st := []) (pc2 := 74) (okL.all _ ⟨(Or.inr ⟨Or.inl ⟨by decide, by decide⟩, by decide⟩), trivial, trivial, trivial, trivial⟩) (okS.all _ trivial) (fun ad S Q Qc hC hc k => V_callS (as := [_]) (st := []) (M' := MX9_isFigure) (pc2 := 74) (dk D_X9_readTape 37 rfl) ml_9_60 mv_X9_isFigure rfl rfl (Nat.le_of_ble_eq_true rfl) rfl he25 hc k) hc26 (kRI.k fun y27 κ28 h mo29 => ?_)
            refine K_if (pa := 86) (pb := 77) (lv2 := [(0, vR 72), (1, vI _), (2, vI _), (3, vI _)]) (st2 := []) (fun ad S Q _ k1 k2 => V_ifeq (tgt := 86) (pc2 := 77) (dk D_X9_readTape 38 rfl) (by decide) rfl (fun q => k1 q) (fun q => k2 q)) (fun q30 => ?_) (fun q30 => ?_)
            · have h := h.1 q30
              refine K_p (pc2 := 87) (lv2 := [(0, vR 72), (1, vI _), (2, vI _), (3, vI _)]) (st2 := [vR 72]) (fun ad S Q _ k => V_aload_n (pc2 := 87) (dk D_X9_readTape 44 rfl) rfl (V_lg 0 rfl) rfl k) ?_
              refine K_p (pc2 := 88) (lv2 := [(0, vR 72), (1, vI _), (2, vI _), (3, vI _)]) (st2 := [vI _, vR 72]) (fun ad S Q _ k => V_iload_n (pc2 := 88) (dk D_X9_readTape 45 rfl) rfl (V_lg 1 rfl) rfl k) ?_
              refine K_p (pc2 := 89) (lv2 := [(0, vR 72), (1, vI _), (2, vI _), (3, vI _)]) (st2 := [vI _, vI _, vR 72]) (fun ad S Q _ k => V_iload_n (pc2 := 89) (dk D_X9_readTape 46 rfl) rfl (V_lg 3 rfl) rfl k) ?_
              obtain ⟨e31, he32, hc33⟩ := h
              refine K_call (as := [vR 72, vI _, vI _]) (st := []) (pc2 := 92) (okL.all _ ⟨(Or.inr ⟨Or.inl ⟨by decide, by decide⟩, by decide⟩), trivial, trivial, trivial, trivial⟩) (okS.all _ trivial) (fun ad S Q Qc hC hc k => V_callV (as := [_, _]) (st := []) (M' := MX9_readSign) (ci := 9) (pc2 := 92) (dk D_X9_readTape 47 rfl) ml_9_66 mv_X9_readSign rfl rfl (by decide) rfl (Nat.le_of_ble_eq_true rfl) rfl he32 (hC.k' (fixH 72 9 (by decide) rfl)) hc k) hc33 (kRI.k fun y34 κ35 h mo36 => ?_)
              refine K_p (pc2 := 93) (lv2 := [(0, vR 72), (1, vI _), (2, vI _), (3, vI _)]) (st2 := []) (fun ad S Q _ k => V_istore_n (pc2 := 93) (lv2 := [(0, _), (1, _), (2, _), (3, _)]) (dk D_X9_readTape 48 rfl) rfl (by decide) rfl rfl k) ?_
              exact h
            · have h := h.2 q30
              refine K_p (pc2 := 78) (lv2 := [(0, vR 72), (1, vI _), (2, vI _), (3, vI _)]) (st2 := [vR 72]) (fun ad S Q _ k => V_aload_n (pc2 := 78) (dk D_X9_readTape 39 rfl) rfl (V_lg 0 rfl) rfl k) ?_
              refine K_p (pc2 := 79) (lv2 := [(0, vR 72), (1, vI _), (2, vI _), (3, vI _)]) (st2 := [vI _, vR 72]) (fun ad S Q _ k => V_iload_n (pc2 := 79) (dk D_X9_readTape 40 rfl) rfl (V_lg 1 rfl) rfl k) ?_
              obtain ⟨e37, he38, hc39⟩ := h
              refine K_call (as := [vR 72, vI _]) (st := []) (pc2 := 82) (okL.all _ ⟨(Or.inr ⟨Or.inl ⟨by decide, by decide⟩, by decide⟩), trivial, trivial, trivial, trivial⟩) (okS.all _ trivial) (fun ad S Q Qc hC hc k => V_callV (as := [_]) (st := []) (M' := MX9_readNumber) (ci := 9) (pc2 := 82) (dk D_X9_readTape 41 rfl) ml_9_63 mv_X9_readNumber rfl rfl (by decide) rfl (Nat.le_of_ble_eq_true rfl) rfl he38 (hC.k' (fixH 72 9 (by decide) rfl)) hc k) hc39 (kRI.k fun y40 κ41 h mo42 => ?_)
              refine K_p (pc2 := 83) (lv2 := [(0, vR 72), (1, vI _), (2, vI _), (3, vI _)]) (st2 := []) (fun ad S Q _ k => V_istore_n (pc2 := 83) (lv2 := [(0, _), (1, _), (2, _), (3, _)]) (dk D_X9_readTape 42 rfl) rfl (by decide) rfl rfl k) ?_
              refine K_p (pc2 := 93) (lv2 := [(0, vR 72), (1, vI _), (2, vI _), (3, vI _)]) (st2 := []) (fun ad S Q _ k => V_goto (tgt := 93) (dk D_X9_readTape 43 rfl) (by decide) k) ?_
              exact h
          · have h := h.2 q23
            refine K_p (pc2 := 62) (lv2 := [(0, vR 72), (1, vI _), (2, vI _), (3, vI _)]) (st2 := [vR 72]) (fun ad S Q _ k => V_aload_n (pc2 := 62) (dk D_X9_readTape 31 rfl) rfl (V_lg 0 rfl) rfl k) ?_
            refine K_p (pc2 := 63) (lv2 := [(0, vR 72), (1, vI _), (2, vI _), (3, vI _)]) (st2 := [vI _, vR 72]) (fun ad S Q _ k => V_iload_n (pc2 := 63) (dk D_X9_readTape 32 rfl) rfl (V_lg 1 rfl) rfl k) ?_
            obtain ⟨e43, he44, hc45⟩ := h
            refine K_call (as := [vR 72, vI _]) (st := []) (pc2 := 66) (okL.all _ ⟨(Or.inr ⟨Or.inl ⟨by decide, by decide⟩, by decide⟩), trivial, trivial, trivial, trivial⟩) (okS.all _ trivial) (fun ad S Q Qc hC hc k => V_callV (as := [_]) (st := []) (M' := MX9_readName) (ci := 9) (pc2 := 66) (dk D_X9_readTape 33 rfl) ml_9_57 mv_X9_readName rfl rfl (by decide) rfl (Nat.le_of_ble_eq_true rfl) rfl he44 (hC.k' (fixH 72 9 (by decide) rfl)) hc k) hc45 (kRI.k fun y46 κ47 h mo48 => ?_)
            refine K_p (pc2 := 67) (lv2 := [(0, vR 72), (1, vI _), (2, vI _), (3, vI _)]) (st2 := []) (fun ad S Q _ k => V_istore_n (pc2 := 67) (lv2 := [(0, _), (1, _), (2, _), (3, _)]) (dk D_X9_readTape 34 rfl) rfl (by decide) rfl rfl k) ?_
            refine K_p (pc2 := 93) (lv2 := [(0, vR 72), (1, vI _), (2, vI _), (3, vI _)]) (st2 := []) (fun ad S Q _ k => V_goto (tgt := 93) (dk D_X9_readTape 35 rfl) (by decide) k) ?_
            exact h
theorem k_9_readTape_48 {X : Cx} {d : Nat} {κ : Km} {Q : Res → Km → Prop} (x1 : Int32) (x2 : Int32) (x3 : Int32) (h : K X d MX9_readTape 93 [(0, vR 72), (1, vI (x1 + 1)), (2, vI x2), (3, vI x3)] [] κ Q) : K X d MX9_readTape 48 [(0, vR 72), (1, vI x1), (2, vI x2), (3, vI x3)] [] κ Q := by
  refine K_p (pc2 := 51) (lv2 := [(0, vR 72), (1, vI _), (2, vI _), (3, vI _)]) (st2 := []) (fun ad S Q _ k => V_iinc (y := _ + 1) (pc2 := 51) (lv2 := [(0, _), (1, _), (2, _), (3, _)]) (dk D_X9_readTape 26 rfl) (V_lg 1 rfl) rfl (by decide) rfl rfl k) ?_
  refine K_p (pc2 := 93) (lv2 := [(0, vR 72), (1, vI _), (2, vI _), (3, vI _)]) (st2 := []) (fun ad S Q _ k => V_goto (tgt := 93) (dk D_X9_readTape 27 rfl) (by decide) k) ?_
  exact h
theorem k_9_readTape_93 {X : Cx} {d : Nat} {κ : Km} {Q : Res → Km → Prop} (x1 : Int32) (x2 : Int32) (x3 : Int32) (h : K X d MX9_readTape 9 [(0, vR 72), (1, vI x1), (2, vI (x2 + 1))] [] κ Q) : K X d MX9_readTape 93 [(0, vR 72), (1, vI x1), (2, vI x2), (3, vI x3)] [] κ Q := by
  refine K_p (pc2 := 96) (lv2 := [(0, vR 72), (1, vI _), (2, vI _), (3, vI _)]) (st2 := []) (fun ad S Q _ k => V_iinc (y := _ + 1) (pc2 := 96) (lv2 := [(0, _), (1, _), (2, _), (3, _)]) (dk D_X9_readTape 49 rfl) (V_lg 2 rfl) rfl (by decide) rfl rfl k) ?_
  refine K_p (pc2 := 9) (lv2 := [(0, vR 72), (1, vI _), (2, vI _), (3, vI _)]) (st2 := []) (fun ad S Q _ k => V_goto (tgt := 9) (dk D_X9_readTape 50 rfl) (by decide) k) ?_
  refine K_p (pc2 := 9) (lv2 := [(0, vR 72), (1, vI _), (2, vI _)]) (st2 := []) (fun ad S Q _ k => V_pick [0, 1, 2] (lv2 := [(0, _), (1, _), (2, _)]) rfl k) ?_
  exact h
theorem k_9_readTape_99 {X : Cx} {d : Nat} {κ : Km} {Q : Res → Km → Prop} (x1 : Int32) (x2 : Int32) (h : ∃ e1 : Nat, e1 + 1 ≤ d ∧ KC' X e1 MX8_size [vR 65] κ (kRI fun y4 κ5 => ∃ e7 : Nat, e7 + 1 ≤ d ∧ KC' X e7 MX9_add [vR 72, vI 0, vI y4, vL 0] κ5 (kRV fun  κ10 => ∀ κ12 : Km, κ12 = cI κ10 72 6 (-1) → ∃ e13 : Nat, e13 + 1 ≤ d ∧ KC' X e13 MX9_next [vR 72] κ12 (kRV fun  κ16 => Q (.inl none) κ16)))) : K X d MX9_readTape 99 [(0, vR 72), (1, vI x1), (2, vI x2)] [] κ Q := by
  refine K_p (pc2 := 100) (lv2 := [(0, vR 72), (1, vI _), (2, vI _)]) (st2 := [vR 72]) (fun ad S Q _ k => V_aload_n (pc2 := 100) (dk D_X9_readTape 51 rfl) rfl (V_lg 0 rfl) rfl k) ?_
  refine K_p (pc2 := 101) (lv2 := [(0, vR 72), (1, vI _), (2, vI _)]) (st2 := [vI _, vR 72]) (fun ad S Q _ k => V_iconst (x := 0) (pc2 := 101) (dk D_X9_readTape 52 rfl) (by decide) rfl k) ?_
  refine K_p (pc2 := 102) (lv2 := [(0, vR 72), (1, vI _), (2, vI _)]) (st2 := [vR 72, vI _, vR 72]) (fun ad S Q _ k => V_aload_n (pc2 := 102) (dk D_X9_readTape 53 rfl) rfl (V_lg 0 rfl) rfl k) ?_
  refine K_getF kc9 (h' := 65) (pc2 := 105) 0 (by decide) (dk D_X9_readTape 54 rfl) fl_9_23 (by decide) (fun _ _ => rfl) rfl (fixH 72 9 (by decide) rfl) (by decide) ?_
  obtain ⟨e1, he2, hc3⟩ := h
  refine K_call (as := [vR 65]) (st := [vI _, vR 72]) (pc2 := 108) (okL.all _ ⟨(Or.inr ⟨Or.inl ⟨by decide, by decide⟩, by decide⟩), trivial, trivial, trivial⟩) (okS.all _ ⟨trivial, (Or.inr ⟨Or.inl ⟨by decide, by decide⟩, by decide⟩), trivial⟩) (fun ad S Q Qc hC hc k => V_callV (as := []) (st := [_, _]) (M' := MX8_size) (ci := 8) (pc2 := 108) (dk D_X9_readTape 55 rfl) ml_9_47 mv_X8_size rfl rfl (by decide) rfl (Nat.le_of_ble_eq_true rfl) rfl he2 (hC.k' (fixH 65 8 (by decide) rfl)) hc k) hc3 (kRI.k fun y4 κ5 h mo6 => ?_)
  refine K_p (pc2 := 109) (lv2 := [(0, vR 72), (1, vI _), (2, vI _)]) (st2 := [vL _, vI _, vI _, vR 72]) (fun ad S Q _ k => V_lconst (x := 0) (pc2 := 109) (dk D_X9_readTape 56 rfl) (by decide) rfl k) ?_
  obtain ⟨e7, he8, hc9⟩ := h
  refine K_call (as := [vR 72, vI _, vI _, vL _]) (st := []) (pc2 := 112) (okL.all _ ⟨(Or.inr ⟨Or.inl ⟨by decide, by decide⟩, by decide⟩), trivial, trivial, trivial⟩) (okS.all _ trivial) (fun ad S Q Qc hC hc k => V_callV (as := [_, _, _]) (st := []) (M' := MX9_add) (ci := 9) (pc2 := 112) (dk D_X9_readTape 57 rfl) ml_9_70 mv_X9_add rfl rfl (by decide) rfl (Nat.le_of_ble_eq_true rfl) rfl he8 (hC.k' (fixH 72 9 (by decide) rfl)) hc k) hc9 (kRV.k fun  κ10 h mo11 => ?_)
  refine K_p (pc2 := 113) (lv2 := [(0, vR 72), (1, vI _), (2, vI _)]) (st2 := [vR 72]) (fun ad S Q _ k => V_aload_n (pc2 := 113) (dk D_X9_readTape 58 rfl) rfl (V_lg 0 rfl) rfl k) ?_
  refine K_p (pc2 := 114) (lv2 := [(0, vR 72), (1, vI _), (2, vI _)]) (st2 := [vI _, vR 72]) (fun ad S Q _ k => V_iconst (x := (-1)) (pc2 := 114) (dk D_X9_readTape 59 rfl) (by decide) rfl k) ?_
  refine K_putI kc9 (pc2 := 117) 6 (dk D_X9_readTape 60 rfl) fl_9_74 (by decide) (Or.inl rfl) rfl rfl (fixH 72 9 (by decide) rfl) (by decide) ?_
  have h := h _ rfl
  refine K_p (pc2 := 118) (lv2 := [(0, vR 72), (1, vI _), (2, vI _)]) (st2 := [vR 72]) (fun ad S Q _ k => V_aload_n (pc2 := 118) (dk D_X9_readTape 61 rfl) rfl (V_lg 0 rfl) rfl k) ?_
  obtain ⟨e13, he14, hc15⟩ := h
  refine K_call (as := [vR 72]) (st := []) (pc2 := 121) (okL.all _ ⟨(Or.inr ⟨Or.inl ⟨by decide, by decide⟩, by decide⟩), trivial, trivial, trivial⟩) (okS.all _ trivial) (fun ad S Q Qc hC hc k => V_callV (as := []) (st := []) (M' := MX9_next) (ci := 9) (pc2 := 121) (dk D_X9_readTape 62 rfl) ml_9_76 mv_X9_next rfl rfl (by decide) rfl (Nat.le_of_ble_eq_true rfl) rfl he14 (hC.k' (fixH 72 9 (by decide) rfl)) hc k) hc15 (kRV.k fun  κ16 h mo17 => ?_)
  exact K_ret (r := .inl none) (fun ad S Q _ k => V_return (dk D_X9_readTape 63 rfl) rfl k) h
theorem k_9_next_0 {X : Cx} {d : Nat} {κ : Km} {Q : Res → Km → Prop}  (h : ((((kI κ 72 5) - 1) ≤ (kI κ 72 6) → K X d MX9_next 27 [(0, vR 72)] [vI (kI κ 72 6), vR 72] κ Q) ∧ (¬ ((kI κ 72 5) - 1) ≤ (kI κ 72 6) → K X d MX9_next 27 [(0, vR 72)] [vI ((kI κ 72 6) + 1), vR 72] κ Q))) : K X d MX9_next 0 [(0, vR 72)] [] κ Q := by
  refine K_p (pc2 := 1) (lv2 := [(0, vR 72)]) (st2 := [vR 72]) (fun ad S Q _ k => V_aload_n (pc2 := 1) (dk D_X9_next 0 rfl) rfl (V_lg 0 rfl) rfl k) ?_
  refine K_p (pc2 := 2) (lv2 := [(0, vR 72)]) (st2 := [vR 72, vR 72]) (fun ad S Q _ k => V_aload_n (pc2 := 2) (dk D_X9_next 1 rfl) rfl (V_lg 0 rfl) rfl k) ?_
  refine K_getI kc9 (pc2 := 5) 6 (dk D_X9_next 2 rfl) fl_9_74 (by decide) (fun _ _ => rfl) rfl (fixH 72 9 (by decide) rfl) ?_
  refine K_p (pc2 := 6) (lv2 := [(0, vR 72)]) (st2 := [vR 72, vI _, vR 72]) (fun ad S Q _ k => V_aload_n (pc2 := 6) (dk D_X9_next 3 rfl) rfl (V_lg 0 rfl) rfl k) ?_
  refine K_getI kc9 (pc2 := 9) 5 (dk D_X9_next 4 rfl) fl_9_41 (by decide) (fun _ _ => rfl) rfl (fixH 72 9 (by decide) rfl) ?_
  refine K_p (pc2 := 10) (lv2 := [(0, vR 72)]) (st2 := [vI _, vI _, vI _, vR 72]) (fun ad S Q _ k => V_iconst (x := 1) (pc2 := 10) (dk D_X9_next 5 rfl) (by decide) rfl k) ?_
  refine K_p (pc2 := 11) (lv2 := [(0, vR 72)]) (st2 := [vI _, vI _, vR 72]) (fun ad S Q _ k => V_isub (pc2 := 11) (dk D_X9_next 6 rfl) rfl k) ?_
  refine K_if (pa := 23) (pb := 14) (lv2 := [(0, vR 72)]) (st2 := [vR 72]) (fun ad S Q _ k1 k2 => V_cmpge (tgt := 23) (pc2 := 14) (dk D_X9_next 7 rfl) (by decide) rfl (fun q => k1 q) (fun q => k2 q)) (fun q1 => ?_) (fun q1 => ?_)
  · have h := h.1 q1
    refine K_p (pc2 := 24) (lv2 := [(0, vR 72)]) (st2 := [vR 72, vR 72]) (fun ad S Q _ k => V_aload_n (pc2 := 24) (dk D_X9_next 13 rfl) rfl (V_lg 0 rfl) rfl k) ?_
    refine K_getI kc9 (pc2 := 27) 6 (dk D_X9_next 14 rfl) fl_9_74 (by decide) (fun _ _ => rfl) rfl (fixH 72 9 (by decide) rfl) ?_
    exact h
  · have h := h.2 q1
    refine K_p (pc2 := 15) (lv2 := [(0, vR 72)]) (st2 := [vR 72, vR 72]) (fun ad S Q _ k => V_aload_n (pc2 := 15) (dk D_X9_next 8 rfl) rfl (V_lg 0 rfl) rfl k) ?_
    refine K_getI kc9 (pc2 := 18) 6 (dk D_X9_next 9 rfl) fl_9_74 (by decide) (fun _ _ => rfl) rfl (fixH 72 9 (by decide) rfl) ?_
    refine K_p (pc2 := 19) (lv2 := [(0, vR 72)]) (st2 := [vI _, vI _, vR 72]) (fun ad S Q _ k => V_iconst (x := 1) (pc2 := 19) (dk D_X9_next 10 rfl) (by decide) rfl k) ?_
    refine K_p (pc2 := 20) (lv2 := [(0, vR 72)]) (st2 := [vI _, vR 72]) (fun ad S Q _ k => V_iadd (pc2 := 20) (dk D_X9_next 11 rfl) rfl k) ?_
    refine K_p (pc2 := 27) (lv2 := [(0, vR 72)]) (st2 := [vI _, vR 72]) (fun ad S Q _ k => V_goto (tgt := 27) (dk D_X9_next 12 rfl) (by decide) k) ?_
    exact h
theorem k_9_next_27 {X : Cx} {d : Nat} {κ : Km} {Q : Res → Km → Prop} (t1 : Int32) (h : ∀ κ1 : Km, κ1 = cI κ 72 6 t1 → (((kI κ1 72 6) < 0 → K X d MX9_next 75 [(0, vR 72)] [] κ1 Q) ∧ (¬ (kI κ1 72 6) < 0 → (((nI (kW κ1 74)) ≤ (kI κ1 72 6) → K X d MX9_next 75 [(0, vR 72)] [] κ1 Q) ∧ (¬ (nI (kW κ1 74)) ≤ (kI κ1 72 6) → (vp_in (kI κ1 72 6) (kW κ1 74)) ∧ ∀ κ5 : Km, κ5 = cI κ1 72 7 (kI κ1 74 ((kI κ1 72 6) : Int32).toNatClampNeg) → (vp_in (kI κ5 72 6) (kW κ5 75)) ∧ ∀ κ7 : Km, κ7 = cI κ5 72 8 (kI κ5 75 ((kI κ5 72 6) : Int32).toNatClampNeg) → K X d MX9_next 75 [(0, vR 72)] [] κ7 Q))))) : K X d MX9_next 27 [(0, vR 72)] [vI t1, vR 72] κ Q := by
  refine K_putI kc9 (pc2 := 30) 6 (dk D_X9_next 15 rfl) fl_9_74 (by decide) (Or.inl rfl) rfl rfl (fixH 72 9 (by decide) rfl) (by decide) ?_
  have h := h _ rfl
  refine K_p (pc2 := 31) (lv2 := [(0, vR 72)]) (st2 := [vR 72]) (fun ad S Q _ k => V_aload_n (pc2 := 31) (dk D_X9_next 16 rfl) rfl (V_lg 0 rfl) rfl k) ?_
  refine K_getI kc9 (pc2 := 34) 6 (dk D_X9_next 17 rfl) fl_9_74 (by decide) (fun _ _ => rfl) rfl (fixH 72 9 (by decide) rfl) ?_
  refine K_if (pa := 75) (pb := 37) (lv2 := [(0, vR 72)]) (st2 := []) (fun ad S Q _ k1 k2 => V_iflt (tgt := 75) (pc2 := 37) (dk D_X9_next 18 rfl) (by decide) rfl (fun q => k1 q) (fun q => k2 q)) (fun q2 => ?_) (fun q2 => ?_)
  · have h := h.1 q2
    exact h
  · have h := h.2 q2
    refine K_p (pc2 := 38) (lv2 := [(0, vR 72)]) (st2 := [vR 72]) (fun ad S Q _ k => V_aload_n (pc2 := 38) (dk D_X9_next 19 rfl) rfl (V_lg 0 rfl) rfl k) ?_
    refine K_getI kc9 (pc2 := 41) 6 (dk D_X9_next 20 rfl) fl_9_74 (by decide) (fun _ _ => rfl) rfl (fixH 72 9 (by decide) rfl) ?_
    refine K_p (pc2 := 42) (lv2 := [(0, vR 72)]) (st2 := [vR 72, vI _]) (fun ad S Q _ k => V_aload_n (pc2 := 42) (dk D_X9_next 21 rfl) rfl (V_lg 0 rfl) rfl k) ?_
    refine K_getF kc9 (h' := 74) (pc2 := 45) 2 (by decide) (dk D_X9_next 22 rfl) fl_9_13 (by decide) (fun _ _ => rfl) rfl (fixH 72 9 (by decide) rfl) (by decide) ?_
    refine K_alen (c := 21) (pc2 := 46) (dk D_X9_next 23 rfl) rfl (fixH 74 21 (by decide) rfl) (by decide) (by decide) ?_
    refine K_if (pa := 75) (pb := 49) (lv2 := [(0, vR 72)]) (st2 := []) (fun ad S Q _ k1 k2 => V_cmpge (tgt := 75) (pc2 := 49) (dk D_X9_next 24 rfl) (by decide) rfl (fun q => k1 q) (fun q => k2 q)) (fun q3 => ?_) (fun q3 => ?_)
    · have h := h.1 q3
      exact h
    · have h := h.2 q3
      refine K_p (pc2 := 50) (lv2 := [(0, vR 72)]) (st2 := [vR 72]) (fun ad S Q _ k => V_aload_n (pc2 := 50) (dk D_X9_next 25 rfl) rfl (V_lg 0 rfl) rfl k) ?_
      refine K_p (pc2 := 51) (lv2 := [(0, vR 72)]) (st2 := [vR 72, vR 72]) (fun ad S Q _ k => V_aload_n (pc2 := 51) (dk D_X9_next 26 rfl) rfl (V_lg 0 rfl) rfl k) ?_
      refine K_getF kc9 (h' := 74) (pc2 := 54) 2 (by decide) (dk D_X9_next 27 rfl) fl_9_13 (by decide) (fun _ _ => rfl) rfl (fixH 72 9 (by decide) rfl) (by decide) ?_
      refine K_p (pc2 := 55) (lv2 := [(0, vR 72)]) (st2 := [vR 72, vR 74, vR 72]) (fun ad S Q _ k => V_aload_n (pc2 := 55) (dk D_X9_next 28 rfl) rfl (V_lg 0 rfl) rfl k) ?_
      refine K_getI kc9 (pc2 := 58) 6 (dk D_X9_next 29 rfl) fl_9_74 (by decide) (fun _ _ => rfl) rfl (fixH 72 9 (by decide) rfl) ?_
      obtain ⟨h4, h⟩ := h
      refine K_iald (pc2 := 59) (dk D_X9_next 30 rfl) rfl (fixH 74 21 (by decide) rfl) h4 ?_
      refine K_putI kc9 (pc2 := 62) 7 (dk D_X9_next 31 rfl) fl_9_79 (by decide) (Or.inl rfl) rfl rfl (fixH 72 9 (by decide) rfl) (by decide) ?_
      have h := h _ rfl
      refine K_p (pc2 := 63) (lv2 := [(0, vR 72)]) (st2 := [vR 72]) (fun ad S Q _ k => V_aload_n (pc2 := 63) (dk D_X9_next 32 rfl) rfl (V_lg 0 rfl) rfl k) ?_
      refine K_p (pc2 := 64) (lv2 := [(0, vR 72)]) (st2 := [vR 72, vR 72]) (fun ad S Q _ k => V_aload_n (pc2 := 64) (dk D_X9_next 33 rfl) rfl (V_lg 0 rfl) rfl k) ?_
      refine K_getF kc9 (h' := 75) (pc2 := 67) 3 (by decide) (dk D_X9_next 34 rfl) fl_9_17 (by decide) (fun _ _ => rfl) rfl (fixH 72 9 (by decide) rfl) (by decide) ?_
      refine K_p (pc2 := 68) (lv2 := [(0, vR 72)]) (st2 := [vR 72, vR 75, vR 72]) (fun ad S Q _ k => V_aload_n (pc2 := 68) (dk D_X9_next 35 rfl) rfl (V_lg 0 rfl) rfl k) ?_
      refine K_getI kc9 (pc2 := 71) 6 (dk D_X9_next 36 rfl) fl_9_74 (by decide) (fun _ _ => rfl) rfl (fixH 72 9 (by decide) rfl) ?_
      obtain ⟨h6, h⟩ := h
      refine K_iald (pc2 := 72) (dk D_X9_next 37 rfl) rfl (fixH 75 21 (by decide) rfl) h6 ?_
      refine K_putI kc9 (pc2 := 75) 8 (dk D_X9_next 38 rfl) fl_9_82 (by decide) (Or.inl rfl) rfl rfl (fixH 72 9 (by decide) rfl) (by decide) ?_
      have h := h _ rfl
      exact h
theorem k_9_next_75 {X : Cx} {d : Nat} {κ : Km} {Q : Res → Km → Prop}  (h : Q (.inl none) κ) : K X d MX9_next 75 [(0, vR 72)] [] κ Q := by
  exact K_ret (r := .inl none) (fun ad S Q _ k => V_return (dk D_X9_next 39 rfl) rfl k) h
theorem k_9_index_0 {X : Cx} {d : Nat} {κ : Km} {Q : Res → Km → Prop}  (h : Q (.inl (some (vI (kI κ 72 6)))) κ) : K X d MX9_index 0 [(0, vR 72)] [] κ Q := by
  refine K_p (pc2 := 1) (lv2 := [(0, vR 72)]) (st2 := [vR 72]) (fun ad S Q _ k => V_aload_n (pc2 := 1) (dk D_X9_index 0 rfl) rfl (V_lg 0 rfl) rfl k) ?_
  refine K_getI kc9 (pc2 := 4) 6 (dk D_X9_index 1 rfl) fl_9_74 (by decide) (fun _ _ => rfl) rfl (fixH 72 9 (by decide) rfl) ?_
  exact K_ret (r := .inl (some (vI _))) (fun ad S Q _ k => V_ireturn (dk D_X9_index 2 rfl) rfl k) h
theorem k_9_kindBehind_0 {X : Cx} {d : Nat} {κ : Km} {Q : Res → Km → Prop}  (h : (((kI κ 72 6) < 0 → K X d MX9_kindBehind 20 [(0, vR 72)] [] κ Q) ∧ (¬ (kI κ 72 6) < 0 → ((((kI κ 72 6) + 1) < (kI κ 72 5) → (vp_in ((kI κ 72 6) + 1) (kW κ 74)) ∧ K X d MX9_kindBehind 35 [(0, vR 72)] [vI (kI κ 74 (((kI κ 72 6) + 1) : Int32).toNatClampNeg)] κ Q) ∧ (¬ ((kI κ 72 6) + 1) < (kI κ 72 5) → K X d MX9_kindBehind 20 [(0, vR 72)] [] κ Q))))) : K X d MX9_kindBehind 0 [(0, vR 72)] [] κ Q := by
  refine K_p (pc2 := 1) (lv2 := [(0, vR 72)]) (st2 := [vR 72]) (fun ad S Q _ k => V_aload_n (pc2 := 1) (dk D_X9_kindBehind 0 rfl) rfl (V_lg 0 rfl) rfl k) ?_
  refine K_getI kc9 (pc2 := 4) 6 (dk D_X9_kindBehind 1 rfl) fl_9_74 (by decide) (fun _ _ => rfl) rfl (fixH 72 9 (by decide) rfl) ?_
  refine K_if (pa := 20) (pb := 7) (lv2 := [(0, vR 72)]) (st2 := []) (fun ad S Q _ k1 k2 => V_iflt (tgt := 20) (pc2 := 7) (dk D_X9_kindBehind 2 rfl) (by decide) rfl (fun q => k1 q) (fun q => k2 q)) (fun q1 => ?_) (fun q1 => ?_)
  · have h := h.1 q1
    exact h
  · have h := h.2 q1
    refine K_p (pc2 := 8) (lv2 := [(0, vR 72)]) (st2 := [vR 72]) (fun ad S Q _ k => V_aload_n (pc2 := 8) (dk D_X9_kindBehind 3 rfl) rfl (V_lg 0 rfl) rfl k) ?_
    refine K_getI kc9 (pc2 := 11) 6 (dk D_X9_kindBehind 4 rfl) fl_9_74 (by decide) (fun _ _ => rfl) rfl (fixH 72 9 (by decide) rfl) ?_
    refine K_p (pc2 := 12) (lv2 := [(0, vR 72)]) (st2 := [vI _, vI _]) (fun ad S Q _ k => V_iconst (x := 1) (pc2 := 12) (dk D_X9_kindBehind 5 rfl) (by decide) rfl k) ?_
    refine K_p (pc2 := 13) (lv2 := [(0, vR 72)]) (st2 := [vI _]) (fun ad S Q _ k => V_iadd (pc2 := 13) (dk D_X9_kindBehind 6 rfl) rfl k) ?_
    refine K_p (pc2 := 14) (lv2 := [(0, vR 72)]) (st2 := [vR 72, vI _]) (fun ad S Q _ k => V_aload_n (pc2 := 14) (dk D_X9_kindBehind 7 rfl) rfl (V_lg 0 rfl) rfl k) ?_
    refine K_getI kc9 (pc2 := 17) 5 (dk D_X9_kindBehind 8 rfl) fl_9_41 (by decide) (fun _ _ => rfl) rfl (fixH 72 9 (by decide) rfl) ?_
    refine K_if (pa := 24) (pb := 20) (lv2 := [(0, vR 72)]) (st2 := []) (fun ad S Q _ k1 k2 => V_cmplt (tgt := 24) (pc2 := 20) (dk D_X9_kindBehind 9 rfl) (by decide) rfl (fun q => k1 q) (fun q => k2 q)) (fun q2 => ?_) (fun q2 => ?_)
    · have h := h.1 q2
      refine K_p (pc2 := 25) (lv2 := [(0, vR 72)]) (st2 := [vR 72]) (fun ad S Q _ k => V_aload_n (pc2 := 25) (dk D_X9_kindBehind 12 rfl) rfl (V_lg 0 rfl) rfl k) ?_
      refine K_getF kc9 (h' := 74) (pc2 := 28) 2 (by decide) (dk D_X9_kindBehind 13 rfl) fl_9_13 (by decide) (fun _ _ => rfl) rfl (fixH 72 9 (by decide) rfl) (by decide) ?_
      refine K_p (pc2 := 29) (lv2 := [(0, vR 72)]) (st2 := [vR 72, vR 74]) (fun ad S Q _ k => V_aload_n (pc2 := 29) (dk D_X9_kindBehind 14 rfl) rfl (V_lg 0 rfl) rfl k) ?_
      refine K_getI kc9 (pc2 := 32) 6 (dk D_X9_kindBehind 15 rfl) fl_9_74 (by decide) (fun _ _ => rfl) rfl (fixH 72 9 (by decide) rfl) ?_
      refine K_p (pc2 := 33) (lv2 := [(0, vR 72)]) (st2 := [vI _, vI _, vR 74]) (fun ad S Q _ k => V_iconst (x := 1) (pc2 := 33) (dk D_X9_kindBehind 16 rfl) (by decide) rfl k) ?_
      refine K_p (pc2 := 34) (lv2 := [(0, vR 72)]) (st2 := [vI _, vR 74]) (fun ad S Q _ k => V_iadd (pc2 := 34) (dk D_X9_kindBehind 17 rfl) rfl k) ?_
      obtain ⟨h3, h⟩ := h
      refine K_iald (pc2 := 35) (dk D_X9_kindBehind 18 rfl) rfl (fixH 74 21 (by decide) rfl) h3 ?_
      exact h
    · have h := h.2 q2
      exact h
theorem k_9_kindBehind_20 {X : Cx} {d : Nat} {κ : Km} {Q : Res → Km → Prop}  (h : K X d MX9_kindBehind 35 [(0, vR 72)] [vI 0] κ Q) : K X d MX9_kindBehind 20 [(0, vR 72)] [] κ Q := by
  refine K_p (pc2 := 21) (lv2 := [(0, vR 72)]) (st2 := [vI _]) (fun ad S Q _ k => V_iconst (x := 0) (pc2 := 21) (dk D_X9_kindBehind 10 rfl) (by decide) rfl k) ?_
  refine K_p (pc2 := 35) (lv2 := [(0, vR 72)]) (st2 := [vI _]) (fun ad S Q _ k => V_goto (tgt := 35) (dk D_X9_kindBehind 11 rfl) (by decide) k) ?_
  exact h
theorem k_9_kindBehind_35 {X : Cx} {d : Nat} {κ : Km} {Q : Res → Km → Prop} (t0 : Int32) (h : Q (.inl (some (vI t0))) κ) : K X d MX9_kindBehind 35 [(0, vR 72)] [vI t0] κ Q := by
  exact K_ret (r := .inl (some (vI _))) (fun ad S Q _ k => V_ireturn (dk D_X9_kindBehind 19 rfl) rfl k) h
theorem k_9_valueOf_0 {X : Cx} {d : Nat} {κ : Km} {Q : Res → Km → Prop} (x1 : Int32) (h : ((x1 < 0 → K X d MX9_valueOf 12 [(0, vR 72), (1, vI x1)] [] κ Q) ∧ (¬ x1 < 0 → ((x1 < (kI κ 72 5) → (vp_in x1 (kW κ 76)) ∧ K X d MX9_valueOf 22 [(0, vR 72), (1, vI x1)] [vL (kL κ 76 (x1 : Int32).toNatClampNeg)] κ Q) ∧ (¬ x1 < (kI κ 72 5) → K X d MX9_valueOf 12 [(0, vR 72), (1, vI x1)] [] κ Q))))) : K X d MX9_valueOf 0 [(0, vR 72), (1, vI x1)] [] κ Q := by
  refine K_p (pc2 := 1) (lv2 := [(0, vR 72), (1, vI _)]) (st2 := [vI _]) (fun ad S Q _ k => V_iload_n (pc2 := 1) (dk D_X9_valueOf 0 rfl) rfl (V_lg 1 rfl) rfl k) ?_
  refine K_if (pa := 12) (pb := 4) (lv2 := [(0, vR 72), (1, vI _)]) (st2 := []) (fun ad S Q _ k1 k2 => V_iflt (tgt := 12) (pc2 := 4) (dk D_X9_valueOf 1 rfl) (by decide) rfl (fun q => k1 q) (fun q => k2 q)) (fun q1 => ?_) (fun q1 => ?_)
  · have h := h.1 q1
    exact h
  · have h := h.2 q1
    refine K_p (pc2 := 5) (lv2 := [(0, vR 72), (1, vI _)]) (st2 := [vI _]) (fun ad S Q _ k => V_iload_n (pc2 := 5) (dk D_X9_valueOf 2 rfl) rfl (V_lg 1 rfl) rfl k) ?_
    refine K_p (pc2 := 6) (lv2 := [(0, vR 72), (1, vI _)]) (st2 := [vR 72, vI _]) (fun ad S Q _ k => V_aload_n (pc2 := 6) (dk D_X9_valueOf 3 rfl) rfl (V_lg 0 rfl) rfl k) ?_
    refine K_getI kc9 (pc2 := 9) 5 (dk D_X9_valueOf 4 rfl) fl_9_41 (by decide) (fun _ _ => rfl) rfl (fixH 72 9 (by decide) rfl) ?_
    refine K_if (pa := 16) (pb := 12) (lv2 := [(0, vR 72), (1, vI _)]) (st2 := []) (fun ad S Q _ k1 k2 => V_cmplt (tgt := 16) (pc2 := 12) (dk D_X9_valueOf 5 rfl) (by decide) rfl (fun q => k1 q) (fun q => k2 q)) (fun q2 => ?_) (fun q2 => ?_)
    · have h := h.1 q2
      refine K_p (pc2 := 17) (lv2 := [(0, vR 72), (1, vI _)]) (st2 := [vR 72]) (fun ad S Q _ k => V_aload_n (pc2 := 17) (dk D_X9_valueOf 8 rfl) rfl (V_lg 0 rfl) rfl k) ?_
      refine K_getF kc9 (h' := 76) (pc2 := 20) 4 (by decide) (dk D_X9_valueOf 9 rfl) fl_9_20 (by decide) (fun _ _ => rfl) rfl (fixH 72 9 (by decide) rfl) (by decide) ?_
      refine K_p (pc2 := 21) (lv2 := [(0, vR 72), (1, vI _)]) (st2 := [vI _, vR 76]) (fun ad S Q _ k => V_iload_n (pc2 := 21) (dk D_X9_valueOf 10 rfl) rfl (V_lg 1 rfl) rfl k) ?_
      obtain ⟨h3, h⟩ := h
      refine K_lald (pc2 := 22) (dk D_X9_valueOf 11 rfl) rfl (fixH 76 22 (by decide) rfl) h3 ?_
      exact h
    · have h := h.2 q2
      exact h
theorem k_9_valueOf_12 {X : Cx} {d : Nat} {κ : Km} {Q : Res → Km → Prop} (x1 : Int32) (h : K X d MX9_valueOf 22 [(0, vR 72), (1, vI x1)] [vL 0] κ Q) : K X d MX9_valueOf 12 [(0, vR 72), (1, vI x1)] [] κ Q := by
  refine K_p (pc2 := 13) (lv2 := [(0, vR 72), (1, vI _)]) (st2 := [vL _]) (fun ad S Q _ k => V_lconst (x := 0) (pc2 := 13) (dk D_X9_valueOf 6 rfl) (by decide) rfl k) ?_
  refine K_p (pc2 := 22) (lv2 := [(0, vR 72), (1, vI _)]) (st2 := [vL _]) (fun ad S Q _ k => V_goto (tgt := 22) (dk D_X9_valueOf 7 rfl) (by decide) k) ?_
  exact h
theorem k_9_valueOf_22 {X : Cx} {d : Nat} {κ : Km} {Q : Res → Km → Prop} (x1 : Int32) (t0 : Int64) (h : Q (.inl (some (vL t0))) κ) : K X d MX9_valueOf 22 [(0, vR 72), (1, vI x1)] [vL t0] κ Q := by
  exact K_ret (r := .inl (some (vL _))) (fun ad S Q _ k => V_lreturn (dk D_X9_valueOf 12 rfl) rfl k) h
theorem k_9_placeOf_0 {X : Cx} {d : Nat} {κ : Km} {Q : Res → Km → Prop} (x1 : Int32) (h : ((x1 < 0 → K X d MX9_placeOf 12 [(0, vR 72), (1, vI x1)] [] κ Q) ∧ (¬ x1 < 0 → ((x1 < (kI κ 72 5) → (vp_in x1 (kW κ 75)) ∧ K X d MX9_placeOf 22 [(0, vR 72), (1, vI x1)] [vI (kI κ 75 (x1 : Int32).toNatClampNeg)] κ Q) ∧ (¬ x1 < (kI κ 72 5) → K X d MX9_placeOf 12 [(0, vR 72), (1, vI x1)] [] κ Q))))) : K X d MX9_placeOf 0 [(0, vR 72), (1, vI x1)] [] κ Q := by
  refine K_p (pc2 := 1) (lv2 := [(0, vR 72), (1, vI _)]) (st2 := [vI _]) (fun ad S Q _ k => V_iload_n (pc2 := 1) (dk D_X9_placeOf 0 rfl) rfl (V_lg 1 rfl) rfl k) ?_
  refine K_if (pa := 12) (pb := 4) (lv2 := [(0, vR 72), (1, vI _)]) (st2 := []) (fun ad S Q _ k1 k2 => V_iflt (tgt := 12) (pc2 := 4) (dk D_X9_placeOf 1 rfl) (by decide) rfl (fun q => k1 q) (fun q => k2 q)) (fun q1 => ?_) (fun q1 => ?_)
  · have h := h.1 q1
    exact h
  · have h := h.2 q1
    refine K_p (pc2 := 5) (lv2 := [(0, vR 72), (1, vI _)]) (st2 := [vI _]) (fun ad S Q _ k => V_iload_n (pc2 := 5) (dk D_X9_placeOf 2 rfl) rfl (V_lg 1 rfl) rfl k) ?_
    refine K_p (pc2 := 6) (lv2 := [(0, vR 72), (1, vI _)]) (st2 := [vR 72, vI _]) (fun ad S Q _ k => V_aload_n (pc2 := 6) (dk D_X9_placeOf 3 rfl) rfl (V_lg 0 rfl) rfl k) ?_
    refine K_getI kc9 (pc2 := 9) 5 (dk D_X9_placeOf 4 rfl) fl_9_41 (by decide) (fun _ _ => rfl) rfl (fixH 72 9 (by decide) rfl) ?_
    refine K_if (pa := 16) (pb := 12) (lv2 := [(0, vR 72), (1, vI _)]) (st2 := []) (fun ad S Q _ k1 k2 => V_cmplt (tgt := 16) (pc2 := 12) (dk D_X9_placeOf 5 rfl) (by decide) rfl (fun q => k1 q) (fun q => k2 q)) (fun q2 => ?_) (fun q2 => ?_)
    · have h := h.1 q2
      refine K_p (pc2 := 17) (lv2 := [(0, vR 72), (1, vI _)]) (st2 := [vR 72]) (fun ad S Q _ k => V_aload_n (pc2 := 17) (dk D_X9_placeOf 8 rfl) rfl (V_lg 0 rfl) rfl k) ?_
      refine K_getF kc9 (h' := 75) (pc2 := 20) 3 (by decide) (dk D_X9_placeOf 9 rfl) fl_9_17 (by decide) (fun _ _ => rfl) rfl (fixH 72 9 (by decide) rfl) (by decide) ?_
      refine K_p (pc2 := 21) (lv2 := [(0, vR 72), (1, vI _)]) (st2 := [vI _, vR 75]) (fun ad S Q _ k => V_iload_n (pc2 := 21) (dk D_X9_placeOf 10 rfl) rfl (V_lg 1 rfl) rfl k) ?_
      obtain ⟨h3, h⟩ := h
      refine K_iald (pc2 := 22) (dk D_X9_placeOf 11 rfl) rfl (fixH 75 21 (by decide) rfl) h3 ?_
      exact h
    · have h := h.2 q2
      exact h
theorem k_9_placeOf_12 {X : Cx} {d : Nat} {κ : Km} {Q : Res → Km → Prop} (x1 : Int32) (h : K X d MX9_placeOf 22 [(0, vR 72), (1, vI x1)] [vI 0] κ Q) : K X d MX9_placeOf 12 [(0, vR 72), (1, vI x1)] [] κ Q := by
  refine K_p (pc2 := 13) (lv2 := [(0, vR 72), (1, vI _)]) (st2 := [vI _]) (fun ad S Q _ k => V_iconst (x := 0) (pc2 := 13) (dk D_X9_placeOf 6 rfl) (by decide) rfl k) ?_
  refine K_p (pc2 := 22) (lv2 := [(0, vR 72), (1, vI _)]) (st2 := [vI _]) (fun ad S Q _ k => V_goto (tgt := 22) (dk D_X9_placeOf 7 rfl) (by decide) k) ?_
  exact h
theorem k_9_placeOf_22 {X : Cx} {d : Nat} {κ : Km} {Q : Res → Km → Prop} (x1 : Int32) (t0 : Int32) (h : Q (.inl (some (vI t0))) κ) : K X d MX9_placeOf 22 [(0, vR 72), (1, vI x1)] [vI t0] κ Q := by
  exact K_ret (r := .inl (some (vI _))) (fun ad S Q _ k => V_ireturn (dk D_X9_placeOf 12 rfl) rfl k) h
theorem k_9_readName_0 {X : Cx} {d : Nat} {κ : Km} {Q : Res → Km → Prop} (x1 : Int32) (h : K X d MX9_readName 4 [(0, vR 72), (1, vI x1), (2, vI x1), (3, vL 0)] [] κ Q) : K X d MX9_readName 0 [(0, vR 72), (1, vI x1)] [] κ Q := by
  refine K_p (pc2 := 1) (lv2 := [(0, vR 72), (1, vI _)]) (st2 := [vI _]) (fun ad S Q _ k => V_iload_n (pc2 := 1) (dk D_X9_readName 0 rfl) rfl (V_lg 1 rfl) rfl k) ?_
  refine K_p (pc2 := 2) (lv2 := [(0, vR 72), (1, vI _), (2, vI _)]) (st2 := []) (fun ad S Q _ k => V_istore_n (pc2 := 2) (lv2 := [(0, _), (1, _), (2, _)]) (dk D_X9_readName 1 rfl) rfl (by decide) rfl rfl k) ?_
  refine K_p (pc2 := 3) (lv2 := [(0, vR 72), (1, vI _), (2, vI _)]) (st2 := [vL _]) (fun ad S Q _ k => V_lconst (x := 0) (pc2 := 3) (dk D_X9_readName 2 rfl) (by decide) rfl k) ?_
  refine K_p (pc2 := 4) (lv2 := [(0, vR 72), (1, vI _), (2, vI _), (3, vL _)]) (st2 := []) (fun ad S Q _ k => V_lstore_n (pc2 := 4) (lv2 := [(0, _), (1, _), (2, _), (3, _)]) (dk D_X9_readName 3 rfl) rfl (by decide) rfl rfl k) ?_
  exact h
theorem k_9_readName_4 {X : Cx} {d : Nat} {κ : Km} {Q : Res → Km → Prop} (x1 : Int32) (x2 : Int32) (l3 : Int64) (h : ∃ e1 : Nat, e1 + 1 ≤ d ∧ KC' X e1 MX8_size [vR 65] κ (kRI fun y4 κ5 => ((y4 ≤ x2 → K X d MX9_readName 68 [(0, vR 72), (1, vI x1), (2, vI x2), (3, vL l3)] [] κ5 Q) ∧ (¬ y4 ≤ x2 → ∃ e8 : Nat, e8 + 1 ≤ d ∧ KC' X e8 MX8_at [vR 65, vI x2] κ5 (kRI fun y11 κ12 => ∃ e14 : Nat, e14 + 1 ≤ d ∧ KC' X e14 MX9_isLetter [vI y11] κ12 (kRI fun y17 κ18 => ((y17 = 0 → K X d MX9_readName 68 [(0, vR 72), (1, vI x1), (2, vI x2), (3, vL l3)] [] κ18 Q) ∧ (¬ y17 = 0 → ((8 ≤ (x2 - x1) → K X d MX9_readName 61 [(0, vR 72), (1, vI x1), (2, vI x2), (3, vL l3)] [vL l3] κ18 Q) ∧ (¬ 8 ≤ (x2 - x1) → ∃ e22 : Nat, e22 + 1 ≤ d ∧ KC' X e22 MX8_at [vR 65, vI x2] κ18 (kRI fun y25 κ26 => K X d MX9_readName 61 [(0, vR 72), (1, vI x1), (2, vI x2), (3, vL l3)] [vL ((l3 * 32) + ((((y25 - 97) + 1) : Int32).toInt64))] κ26 Q))))))))))) : K X d MX9_readName 4 [(0, vR 72), (1, vI x1), (2, vI x2), (3, vL l3)] [] κ Q := by
  refine K_p (pc2 := 5) (lv2 := [(0, vR 72), (1, vI _), (2, vI _), (3, vL _)]) (st2 := [vI _]) (fun ad S Q _ k => V_iload_n (pc2 := 5) (dk D_X9_readName 4 rfl) rfl (V_lg 2 rfl) rfl k) ?_
  refine K_p (pc2 := 6) (lv2 := [(0, vR 72), (1, vI _), (2, vI _), (3, vL _)]) (st2 := [vR 72, vI _]) (fun ad S Q _ k => V_aload_n (pc2 := 6) (dk D_X9_readName 5 rfl) rfl (V_lg 0 rfl) rfl k) ?_
  refine K_getF kc9 (h' := 65) (pc2 := 9) 0 (by decide) (dk D_X9_readName 6 rfl) fl_9_23 (by decide) (fun _ _ => rfl) rfl (fixH 72 9 (by decide) rfl) (by decide) ?_
  obtain ⟨e1, he2, hc3⟩ := h
  refine K_call (as := [vR 65]) (st := [vI _]) (pc2 := 12) (okL.all _ ⟨(Or.inr ⟨Or.inl ⟨by decide, by decide⟩, by decide⟩), trivial, trivial, trivial, trivial⟩) (okS.all _ ⟨trivial, trivial⟩) (fun ad S Q Qc hC hc k => V_callV (as := []) (st := [_]) (M' := MX8_size) (ci := 8) (pc2 := 12) (dk D_X9_readName 7 rfl) ml_9_47 mv_X8_size rfl rfl (by decide) rfl (Nat.le_of_ble_eq_true rfl) rfl he2 (hC.k' (fixH 65 8 (by decide) rfl)) hc k) hc3 (kRI.k fun y4 κ5 h mo6 => ?_)
  refine K_if (pa := 68) (pb := 15) (lv2 := [(0, vR 72), (1, vI _), (2, vI _), (3, vL _)]) (st2 := []) (fun ad S Q _ k1 k2 => V_cmpge (tgt := 68) (pc2 := 15) (dk D_X9_readName 8 rfl) (by decide) rfl (fun q => k1 q) (fun q => k2 q)) (fun q7 => ?_) (fun q7 => ?_)
  · have h := h.1 q7
    exact h
  · have h := h.2 q7
    refine K_p (pc2 := 16) (lv2 := [(0, vR 72), (1, vI _), (2, vI _), (3, vL _)]) (st2 := [vR 72]) (fun ad S Q _ k => V_aload_n (pc2 := 16) (dk D_X9_readName 9 rfl) rfl (V_lg 0 rfl) rfl k) ?_
    refine K_getF kc9 (h' := 65) (pc2 := 19) 0 (by decide) (dk D_X9_readName 10 rfl) fl_9_23 (by decide) (fun _ _ => rfl) rfl (fixH 72 9 (by decide) rfl) (by decide) ?_
    refine K_p (pc2 := 20) (lv2 := [(0, vR 72), (1, vI _), (2, vI _), (3, vL _)]) (st2 := [vI _, vR 65]) (fun ad S Q _ k => V_iload_n (pc2 := 20) (dk D_X9_readName 11 rfl) rfl (V_lg 2 rfl) rfl k) ?_
    obtain ⟨e8, he9, hc10⟩ := h
    refine K_call (as := [vR 65, vI _]) (st := []) (pc2 := 23) (okL.all _ ⟨(Or.inr ⟨Or.inl ⟨by decide, by decide⟩, by decide⟩), trivial, trivial, trivial, trivial⟩) (okS.all _ trivial) (fun ad S Q Qc hC hc k => V_callV (as := [_]) (st := []) (M' := MX8_at) (ci := 8) (pc2 := 23) (dk D_X9_readName 12 rfl) ml_9_49 mv_X8_at rfl rfl (by decide) rfl (Nat.le_of_ble_eq_true rfl) rfl he9 (hC.k' (fixH 65 8 (by decide) rfl)) hc k) hc10 (kRI.k fun y11 κ12 h mo13 => ?_)
    obtain ⟨e14, he15, hc16⟩ := h
    refine K_call (as := [vI _]) (st := []) (pc2 := 26) (okL.all _ ⟨(Or.inr ⟨Or.inl ⟨by decide, by decide⟩, by decide⟩), trivial, trivial, trivial, trivial⟩) (okS.all _ trivial) (fun ad S Q Qc hC hc k => V_callS (as := [_]) (st := []) (M' := MX9_isLetter) (pc2 := 26) (dk D_X9_readName 13 rfl) ml_9_53 mv_X9_isLetter rfl rfl (Nat.le_of_ble_eq_true rfl) rfl he15 hc k) hc16 (kRI.k fun y17 κ18 h mo19 => ?_)
    refine K_if (pa := 68) (pb := 29) (lv2 := [(0, vR 72), (1, vI _), (2, vI _), (3, vL _)]) (st2 := []) (fun ad S Q _ k1 k2 => V_ifeq (tgt := 68) (pc2 := 29) (dk D_X9_readName 14 rfl) (by decide) rfl (fun q => k1 q) (fun q => k2 q)) (fun q20 => ?_) (fun q20 => ?_)
    · have h := h.1 q20
      exact h
    · have h := h.2 q20
      refine K_p (pc2 := 30) (lv2 := [(0, vR 72), (1, vI _), (2, vI _), (3, vL _)]) (st2 := [vI _]) (fun ad S Q _ k => V_iload_n (pc2 := 30) (dk D_X9_readName 15 rfl) rfl (V_lg 2 rfl) rfl k) ?_
      refine K_p (pc2 := 31) (lv2 := [(0, vR 72), (1, vI _), (2, vI _), (3, vL _)]) (st2 := [vI _, vI _]) (fun ad S Q _ k => V_iload_n (pc2 := 31) (dk D_X9_readName 16 rfl) rfl (V_lg 1 rfl) rfl k) ?_
      refine K_p (pc2 := 32) (lv2 := [(0, vR 72), (1, vI _), (2, vI _), (3, vL _)]) (st2 := [vI _]) (fun ad S Q _ k => V_isub (pc2 := 32) (dk D_X9_readName 17 rfl) rfl k) ?_
      refine K_p (pc2 := 34) (lv2 := [(0, vR 72), (1, vI _), (2, vI _), (3, vL _)]) (st2 := [vI _, vI _]) (fun ad S Q _ k => V_bipush (x := 8) (pc2 := 34) (dk D_X9_readName 18 rfl) (by decide) rfl k) ?_
      refine K_if (pa := 60) (pb := 37) (lv2 := [(0, vR 72), (1, vI _), (2, vI _), (3, vL _)]) (st2 := []) (fun ad S Q _ k1 k2 => V_cmpge (tgt := 60) (pc2 := 37) (dk D_X9_readName 19 rfl) (by decide) rfl (fun q => k1 q) (fun q => k2 q)) (fun q21 => ?_) (fun q21 => ?_)
      · have h := h.1 q21
        refine K_p (pc2 := 61) (lv2 := [(0, vR 72), (1, vI _), (2, vI _), (3, vL _)]) (st2 := [vL _]) (fun ad S Q _ k => V_lload_n (pc2 := 61) (dk D_X9_readName 34 rfl) rfl (V_lg 3 rfl) rfl k) ?_
        exact h
      · have h := h.2 q21
        refine K_p (pc2 := 38) (lv2 := [(0, vR 72), (1, vI _), (2, vI _), (3, vL _)]) (st2 := [vL _]) (fun ad S Q _ k => V_lload_n (pc2 := 38) (dk D_X9_readName 20 rfl) rfl (V_lg 3 rfl) rfl k) ?_
        refine K_p (pc2 := 41) (lv2 := [(0, vR 72), (1, vI _), (2, vI _), (3, vL _)]) (st2 := [vL _, vL _]) (fun ad S Q _ k => V_ldc2 (x := 32) (pc2 := 41) (dk D_X9_readName 21 rfl) kl_9_39 rfl k) ?_
        refine K_p (pc2 := 42) (lv2 := [(0, vR 72), (1, vI _), (2, vI _), (3, vL _)]) (st2 := [vL _]) (fun ad S Q _ k => V_lmul (pc2 := 42) (dk D_X9_readName 22 rfl) rfl k) ?_
        refine K_p (pc2 := 43) (lv2 := [(0, vR 72), (1, vI _), (2, vI _), (3, vL _)]) (st2 := [vR 72, vL _]) (fun ad S Q _ k => V_aload_n (pc2 := 43) (dk D_X9_readName 23 rfl) rfl (V_lg 0 rfl) rfl k) ?_
        refine K_getF kc9 (h' := 65) (pc2 := 46) 0 (by decide) (dk D_X9_readName 24 rfl) fl_9_23 (by decide) (fun _ _ => rfl) rfl (fixH 72 9 (by decide) rfl) (by decide) ?_
        refine K_p (pc2 := 47) (lv2 := [(0, vR 72), (1, vI _), (2, vI _), (3, vL _)]) (st2 := [vI _, vR 65, vL _]) (fun ad S Q _ k => V_iload_n (pc2 := 47) (dk D_X9_readName 25 rfl) rfl (V_lg 2 rfl) rfl k) ?_
        obtain ⟨e22, he23, hc24⟩ := h
        refine K_call (as := [vR 65, vI _]) (st := [vL _]) (pc2 := 50) (okL.all _ ⟨(Or.inr ⟨Or.inl ⟨by decide, by decide⟩, by decide⟩), trivial, trivial, trivial, trivial⟩) (okS.all _ ⟨trivial, trivial⟩) (fun ad S Q Qc hC hc k => V_callV (as := [_]) (st := [_]) (M' := MX8_at) (ci := 8) (pc2 := 50) (dk D_X9_readName 26 rfl) ml_9_49 mv_X8_at rfl rfl (by decide) rfl (Nat.le_of_ble_eq_true rfl) rfl he23 (hC.k' (fixH 65 8 (by decide) rfl)) hc k) hc24 (kRI.k fun y25 κ26 h mo27 => ?_)
        refine K_p (pc2 := 52) (lv2 := [(0, vR 72), (1, vI _), (2, vI _), (3, vL _)]) (st2 := [vI _, vI _, vL _]) (fun ad S Q _ k => V_bipush (x := 97) (pc2 := 52) (dk D_X9_readName 27 rfl) (by decide) rfl k) ?_
        refine K_p (pc2 := 53) (lv2 := [(0, vR 72), (1, vI _), (2, vI _), (3, vL _)]) (st2 := [vI _, vL _]) (fun ad S Q _ k => V_isub (pc2 := 53) (dk D_X9_readName 28 rfl) rfl k) ?_
        refine K_p (pc2 := 54) (lv2 := [(0, vR 72), (1, vI _), (2, vI _), (3, vL _)]) (st2 := [vI _, vI _, vL _]) (fun ad S Q _ k => V_iconst (x := 1) (pc2 := 54) (dk D_X9_readName 29 rfl) (by decide) rfl k) ?_
        refine K_p (pc2 := 55) (lv2 := [(0, vR 72), (1, vI _), (2, vI _), (3, vL _)]) (st2 := [vI _, vL _]) (fun ad S Q _ k => V_iadd (pc2 := 55) (dk D_X9_readName 30 rfl) rfl k) ?_
        refine K_p (pc2 := 56) (lv2 := [(0, vR 72), (1, vI _), (2, vI _), (3, vL _)]) (st2 := [vL _, vL _]) (fun ad S Q _ k => V_i2l (pc2 := 56) (dk D_X9_readName 31 rfl) rfl k) ?_
        refine K_p (pc2 := 57) (lv2 := [(0, vR 72), (1, vI _), (2, vI _), (3, vL _)]) (st2 := [vL _]) (fun ad S Q _ k => V_ladd (pc2 := 57) (dk D_X9_readName 32 rfl) rfl k) ?_
        refine K_p (pc2 := 61) (lv2 := [(0, vR 72), (1, vI _), (2, vI _), (3, vL _)]) (st2 := [vL _]) (fun ad S Q _ k => V_goto (tgt := 61) (dk D_X9_readName 33 rfl) (by decide) k) ?_
        exact h
theorem k_9_readName_61 {X : Cx} {d : Nat} {κ : Km} {Q : Res → Km → Prop} (x1 : Int32) (x2 : Int32) (l3 : Int64) (t0 : Int64) (h : K X d MX9_readName 4 [(0, vR 72), (1, vI x1), (2, vI (x2 + 1)), (3, vL t0)] [] κ Q) : K X d MX9_readName 61 [(0, vR 72), (1, vI x1), (2, vI x2), (3, vL l3)] [vL t0] κ Q := by
  refine K_p (pc2 := 62) (lv2 := [(0, vR 72), (1, vI _), (2, vI _), (3, vL _)]) (st2 := []) (fun ad S Q _ k => V_lstore_n (pc2 := 62) (lv2 := [(0, _), (1, _), (2, _), (3, _)]) (dk D_X9_readName 35 rfl) rfl (by decide) rfl rfl k) ?_
  refine K_p (pc2 := 65) (lv2 := [(0, vR 72), (1, vI _), (2, vI _), (3, vL _)]) (st2 := []) (fun ad S Q _ k => V_iinc (y := _ + 1) (pc2 := 65) (lv2 := [(0, _), (1, _), (2, _), (3, _)]) (dk D_X9_readName 36 rfl) (V_lg 2 rfl) rfl (by decide) rfl rfl k) ?_
  refine K_p (pc2 := 4) (lv2 := [(0, vR 72), (1, vI _), (2, vI _), (3, vL _)]) (st2 := []) (fun ad S Q _ k => V_goto (tgt := 4) (dk D_X9_readName 37 rfl) (by decide) k) ?_
  exact h
theorem k_9_readName_68 {X : Cx} {d : Nat} {κ : Km} {Q : Res → Km → Prop} (x1 : Int32) (x2 : Int32) (l3 : Int64) (h : (((x2 - x1) ≤ 8 → ∃ e2 : Nat, e2 + 1 ≤ d ∧ KC' X e2 MX9_kindOfName [vR 72, vL l3] κ (kRI fun y5 κ6 => K X d MX9_readName 86 [(0, vR 72), (1, vI x1), (2, vI x2), (3, vL l3)] [vI y5, vR 72] κ6 Q)) ∧ (¬ (x2 - x1) ≤ 8 → K X d MX9_readName 86 [(0, vR 72), (1, vI x1), (2, vI x2), (3, vL l3)] [vI 5, vR 72] κ Q))) : K X d MX9_readName 68 [(0, vR 72), (1, vI x1), (2, vI x2), (3, vL l3)] [] κ Q := by
  refine K_p (pc2 := 69) (lv2 := [(0, vR 72), (1, vI _), (2, vI _), (3, vL _)]) (st2 := [vR 72]) (fun ad S Q _ k => V_aload_n (pc2 := 69) (dk D_X9_readName 38 rfl) rfl (V_lg 0 rfl) rfl k) ?_
  refine K_p (pc2 := 70) (lv2 := [(0, vR 72), (1, vI _), (2, vI _), (3, vL _)]) (st2 := [vI _, vR 72]) (fun ad S Q _ k => V_iload_n (pc2 := 70) (dk D_X9_readName 39 rfl) rfl (V_lg 2 rfl) rfl k) ?_
  refine K_p (pc2 := 71) (lv2 := [(0, vR 72), (1, vI _), (2, vI _), (3, vL _)]) (st2 := [vI _, vI _, vR 72]) (fun ad S Q _ k => V_iload_n (pc2 := 71) (dk D_X9_readName 40 rfl) rfl (V_lg 1 rfl) rfl k) ?_
  refine K_p (pc2 := 72) (lv2 := [(0, vR 72), (1, vI _), (2, vI _), (3, vL _)]) (st2 := [vI _, vR 72]) (fun ad S Q _ k => V_isub (pc2 := 72) (dk D_X9_readName 41 rfl) rfl k) ?_
  refine K_p (pc2 := 74) (lv2 := [(0, vR 72), (1, vI _), (2, vI _), (3, vL _)]) (st2 := [vI _, vI _, vR 72]) (fun ad S Q _ k => V_bipush (x := 8) (pc2 := 74) (dk D_X9_readName 42 rfl) (by decide) rfl k) ?_
  refine K_if (pa := 81) (pb := 77) (lv2 := [(0, vR 72), (1, vI _), (2, vI _), (3, vL _)]) (st2 := [vR 72]) (fun ad S Q _ k1 k2 => V_cmple (tgt := 81) (pc2 := 77) (dk D_X9_readName 43 rfl) (by decide) rfl (fun q => k1 q) (fun q => k2 q)) (fun q1 => ?_) (fun q1 => ?_)
  · have h := h.1 q1
    refine K_p (pc2 := 82) (lv2 := [(0, vR 72), (1, vI _), (2, vI _), (3, vL _)]) (st2 := [vR 72, vR 72]) (fun ad S Q _ k => V_aload_n (pc2 := 82) (dk D_X9_readName 46 rfl) rfl (V_lg 0 rfl) rfl k) ?_
    refine K_p (pc2 := 83) (lv2 := [(0, vR 72), (1, vI _), (2, vI _), (3, vL _)]) (st2 := [vL _, vR 72, vR 72]) (fun ad S Q _ k => V_lload_n (pc2 := 83) (dk D_X9_readName 47 rfl) rfl (V_lg 3 rfl) rfl k) ?_
    obtain ⟨e2, he3, hc4⟩ := h
    refine K_call (as := [vR 72, vL _]) (st := [vR 72]) (pc2 := 86) (okL.all _ ⟨(Or.inr ⟨Or.inl ⟨by decide, by decide⟩, by decide⟩), trivial, trivial, trivial, trivial⟩) (okS.all _ ⟨(Or.inr ⟨Or.inl ⟨by decide, by decide⟩, by decide⟩), trivial⟩) (fun ad S Q Qc hC hc k => V_callV (as := [_]) (st := [_]) (M' := MX9_kindOfName) (ci := 9) (pc2 := 86) (dk D_X9_readName 48 rfl) ml_9_85 mv_X9_kindOfName rfl rfl (by decide) rfl (Nat.le_of_ble_eq_true rfl) rfl he3 (hC.k' (fixH 72 9 (by decide) rfl)) hc k) hc4 (kRI.k fun y5 κ6 h mo7 => ?_)
    exact h
  · have h := h.2 q1
    refine K_p (pc2 := 78) (lv2 := [(0, vR 72), (1, vI _), (2, vI _), (3, vL _)]) (st2 := [vI _, vR 72]) (fun ad S Q _ k => V_iconst (x := 5) (pc2 := 78) (dk D_X9_readName 44 rfl) (by decide) rfl k) ?_
    refine K_p (pc2 := 86) (lv2 := [(0, vR 72), (1, vI _), (2, vI _), (3, vL _)]) (st2 := [vI _, vR 72]) (fun ad S Q _ k => V_goto (tgt := 86) (dk D_X9_readName 45 rfl) (by decide) k) ?_
    exact h
theorem k_9_readName_86 {X : Cx} {d : Nat} {κ : Km} {Q : Res → Km → Prop} (x1 : Int32) (x2 : Int32) (l3 : Int64) (t1 : Int32) (h : ∃ e1 : Nat, e1 + 1 ≤ d ∧ KC' X e1 MX9_add [vR 72, vI t1, vI x1, vL l3] κ (kRV fun  κ4 => Q (.inl (some (vI x2))) κ4)) : K X d MX9_readName 86 [(0, vR 72), (1, vI x1), (2, vI x2), (3, vL l3)] [vI t1, vR 72] κ Q := by
  refine K_p (pc2 := 87) (lv2 := [(0, vR 72), (1, vI _), (2, vI _), (3, vL _)]) (st2 := [vI _, vI _, vR 72]) (fun ad S Q _ k => V_iload_n (pc2 := 87) (dk D_X9_readName 49 rfl) rfl (V_lg 1 rfl) rfl k) ?_
  refine K_p (pc2 := 88) (lv2 := [(0, vR 72), (1, vI _), (2, vI _), (3, vL _)]) (st2 := [vL _, vI _, vI _, vR 72]) (fun ad S Q _ k => V_lload_n (pc2 := 88) (dk D_X9_readName 50 rfl) rfl (V_lg 3 rfl) rfl k) ?_
  obtain ⟨e1, he2, hc3⟩ := h
  refine K_call (as := [vR 72, vI _, vI _, vL _]) (st := []) (pc2 := 91) (okL.all _ ⟨(Or.inr ⟨Or.inl ⟨by decide, by decide⟩, by decide⟩), trivial, trivial, trivial, trivial⟩) (okS.all _ trivial) (fun ad S Q Qc hC hc k => V_callV (as := [_, _, _]) (st := []) (M' := MX9_add) (ci := 9) (pc2 := 91) (dk D_X9_readName 51 rfl) ml_9_70 mv_X9_add rfl rfl (by decide) rfl (Nat.le_of_ble_eq_true rfl) rfl he2 (hC.k' (fixH 72 9 (by decide) rfl)) hc k) hc3 (kRV.k fun  κ4 h mo5 => ?_)
  refine K_p (pc2 := 92) (lv2 := [(0, vR 72), (1, vI _), (2, vI _), (3, vL _)]) (st2 := [vI _]) (fun ad S Q _ k => V_iload_n (pc2 := 92) (dk D_X9_readName 52 rfl) rfl (V_lg 2 rfl) rfl k) ?_
  exact K_ret (r := .inl (some (vI _))) (fun ad S Q _ k => V_ireturn (dk D_X9_readName 53 rfl) rfl k) h
theorem k_9_kindOfName_0 {X : Cx} {d : Nat} {κ : Km} {Q : Res → Km → Prop} (l1 : Int64) (h : K X d MX9_kindOfName 2 [(0, vR 72), (1, vL l1), (3, vI 0)] [] κ Q) : K X d MX9_kindOfName 0 [(0, vR 72), (1, vL l1)] [] κ Q := by
  refine K_p (pc2 := 1) (lv2 := [(0, vR 72), (1, vL _)]) (st2 := [vI _]) (fun ad S Q _ k => V_iconst (x := 0) (pc2 := 1) (dk D_X9_kindOfName 0 rfl) (by decide) rfl k) ?_
  refine K_p (pc2 := 2) (lv2 := [(0, vR 72), (1, vL _), (3, vI _)]) (st2 := []) (fun ad S Q _ k => V_istore_n (pc2 := 2) (lv2 := [(0, _), (1, _), (3, _)]) (dk D_X9_kindOfName 1 rfl) rfl (by decide) rfl rfl k) ?_
  exact h
theorem k_9_kindOfName_2 {X : Cx} {d : Nat} {κ : Km} {Q : Res → Km → Prop} (l1 : Int64) (x3 : Int32) (h : ((23 ≤ x3 → Q (.inl (some (vI 2))) κ) ∧ (¬ 23 ≤ x3 → (vp_in x3 (kW κ 73)) ∧ (((lg_cmp (kL κ 73 (x3 : Int32).toNatClampNeg) l1) = 0 → Q (.inl (some (vI (200 + x3)))) κ) ∧ (¬ (lg_cmp (kL κ 73 (x3 : Int32).toNatClampNeg) l1) = 0 → K X d MX9_kindOfName 2 [(0, vR 72), (1, vL l1), (3, vI (x3 + 1))] [] κ Q))))) : K X d MX9_kindOfName 2 [(0, vR 72), (1, vL l1), (3, vI x3)] [] κ Q := by
  refine K_p (pc2 := 3) (lv2 := [(0, vR 72), (1, vL _), (3, vI _)]) (st2 := [vI _]) (fun ad S Q _ k => V_iload_n (pc2 := 3) (dk D_X9_kindOfName 2 rfl) rfl (V_lg 2 rfl) rfl k) ?_
  refine K_p (pc2 := 5) (lv2 := [(0, vR 72), (1, vL _), (3, vI _)]) (st2 := [vI _, vI _]) (fun ad S Q _ k => V_bipush (x := 23) (pc2 := 5) (dk D_X9_kindOfName 3 rfl) (by decide) rfl k) ?_
  refine K_if (pa := 31) (pb := 8) (lv2 := [(0, vR 72), (1, vL _), (3, vI _)]) (st2 := []) (fun ad S Q _ k1 k2 => V_cmpge (tgt := 31) (pc2 := 8) (dk D_X9_kindOfName 4 rfl) (by decide) rfl (fun q => k1 q) (fun q => k2 q)) (fun q1 => ?_) (fun q1 => ?_)
  · have h := h.1 q1
    refine K_p (pc2 := 32) (lv2 := [(0, vR 72), (1, vL _), (3, vI _)]) (st2 := [vI _]) (fun ad S Q _ k => V_iconst (x := 2) (pc2 := 32) (dk D_X9_kindOfName 18 rfl) (by decide) rfl k) ?_
    exact K_ret (r := .inl (some (vI _))) (fun ad S Q _ k => V_ireturn (dk D_X9_kindOfName 19 rfl) rfl k) h
  · have h := h.2 q1
    refine K_p (pc2 := 9) (lv2 := [(0, vR 72), (1, vL _), (3, vI _)]) (st2 := [vR 72]) (fun ad S Q _ k => V_aload_n (pc2 := 9) (dk D_X9_kindOfName 5 rfl) rfl (V_lg 0 rfl) rfl k) ?_
    refine K_getF kc9 (h' := 73) (pc2 := 12) 1 (by decide) (dk D_X9_kindOfName 6 rfl) fl_9_9 (by decide) (fun _ _ => rfl) rfl (fixH 72 9 (by decide) rfl) (by decide) ?_
    refine K_p (pc2 := 13) (lv2 := [(0, vR 72), (1, vL _), (3, vI _)]) (st2 := [vI _, vR 73]) (fun ad S Q _ k => V_iload_n (pc2 := 13) (dk D_X9_kindOfName 7 rfl) rfl (V_lg 2 rfl) rfl k) ?_
    obtain ⟨h2, h⟩ := h
    refine K_lald (pc2 := 14) (dk D_X9_kindOfName 8 rfl) rfl (fixH 73 22 (by decide) rfl) h2 ?_
    refine K_p (pc2 := 15) (lv2 := [(0, vR 72), (1, vL _), (3, vI _)]) (st2 := [vL _, vL _]) (fun ad S Q _ k => V_lload_n (pc2 := 15) (dk D_X9_kindOfName 9 rfl) rfl (V_lg 1 rfl) rfl k) ?_
    refine K_p (pc2 := 16) (lv2 := [(0, vR 72), (1, vL _), (3, vI _)]) (st2 := [vI _]) (fun ad S Q _ k => V_lcmp (pc2 := 16) (dk D_X9_kindOfName 10 rfl) rfl k) ?_
    refine K_if (pa := 19) (pb := 25) (lv2 := [(0, vR 72), (1, vL _), (3, vI _)]) (st2 := []) (fun ad S Q _ k1 k2 => V_ifne (tgt := 25) (pc2 := 19) (dk D_X9_kindOfName 11 rfl) (by decide) rfl (fun q => k2 q) (fun q => k1 q)) (fun q3 => ?_) (fun q3 => ?_)
    · have h := h.1 q3
      refine K_p (pc2 := 22) (lv2 := [(0, vR 72), (1, vL _), (3, vI _)]) (st2 := [vI _]) (fun ad S Q _ k => V_sipush (x := 200) (pc2 := 22) (dk D_X9_kindOfName 12 rfl) (by decide) rfl k) ?_
      refine K_p (pc2 := 23) (lv2 := [(0, vR 72), (1, vL _), (3, vI _)]) (st2 := [vI _, vI _]) (fun ad S Q _ k => V_iload_n (pc2 := 23) (dk D_X9_kindOfName 13 rfl) rfl (V_lg 2 rfl) rfl k) ?_
      refine K_p (pc2 := 24) (lv2 := [(0, vR 72), (1, vL _), (3, vI _)]) (st2 := [vI _]) (fun ad S Q _ k => V_iadd (pc2 := 24) (dk D_X9_kindOfName 14 rfl) rfl k) ?_
      exact K_ret (r := .inl (some (vI _))) (fun ad S Q _ k => V_ireturn (dk D_X9_kindOfName 15 rfl) rfl k) h
    · have h := h.2 q3
      refine K_p (pc2 := 28) (lv2 := [(0, vR 72), (1, vL _), (3, vI _)]) (st2 := []) (fun ad S Q _ k => V_iinc (y := _ + 1) (pc2 := 28) (lv2 := [(0, _), (1, _), (3, _)]) (dk D_X9_kindOfName 16 rfl) (V_lg 2 rfl) rfl (by decide) rfl rfl k) ?_
      refine K_p (pc2 := 2) (lv2 := [(0, vR 72), (1, vL _), (3, vI _)]) (st2 := []) (fun ad S Q _ k => V_goto (tgt := 2) (dk D_X9_kindOfName 17 rfl) (by decide) k) ?_
      exact h
theorem k_9_readNumber_0 {X : Cx} {d : Nat} {κ : Km} {Q : Res → Km → Prop} (x1 : Int32) (h : K X d MX9_readNumber 4 [(0, vR 72), (1, vI x1), (2, vI x1), (3, vL 0)] [] κ Q) : K X d MX9_readNumber 0 [(0, vR 72), (1, vI x1)] [] κ Q := by
  refine K_p (pc2 := 1) (lv2 := [(0, vR 72), (1, vI _)]) (st2 := [vI _]) (fun ad S Q _ k => V_iload_n (pc2 := 1) (dk D_X9_readNumber 0 rfl) rfl (V_lg 1 rfl) rfl k) ?_
  refine K_p (pc2 := 2) (lv2 := [(0, vR 72), (1, vI _), (2, vI _)]) (st2 := []) (fun ad S Q _ k => V_istore_n (pc2 := 2) (lv2 := [(0, _), (1, _), (2, _)]) (dk D_X9_readNumber 1 rfl) rfl (by decide) rfl rfl k) ?_
  refine K_p (pc2 := 3) (lv2 := [(0, vR 72), (1, vI _), (2, vI _)]) (st2 := [vL _]) (fun ad S Q _ k => V_lconst (x := 0) (pc2 := 3) (dk D_X9_readNumber 2 rfl) (by decide) rfl k) ?_
  refine K_p (pc2 := 4) (lv2 := [(0, vR 72), (1, vI _), (2, vI _), (3, vL _)]) (st2 := []) (fun ad S Q _ k => V_lstore_n (pc2 := 4) (lv2 := [(0, _), (1, _), (2, _), (3, _)]) (dk D_X9_readNumber 3 rfl) rfl (by decide) rfl rfl k) ?_
  exact h
theorem k_9_readNumber_4 {X : Cx} {d : Nat} {κ : Km} {Q : Res → Km → Prop} (x1 : Int32) (x2 : Int32) (l3 : Int64) (h : ∃ e1 : Nat, e1 + 1 ≤ d ∧ KC' X e1 MX8_size [vR 65] κ (kRI fun y4 κ5 => ((y4 ≤ x2 → K X d MX9_readNumber 66 [(0, vR 72), (1, vI x1), (2, vI x2), (3, vL l3)] [] κ5 Q) ∧ (¬ y4 ≤ x2 → ∃ e8 : Nat, e8 + 1 ≤ d ∧ KC' X e8 MX8_at [vR 65, vI x2] κ5 (kRI fun y11 κ12 => ∃ e14 : Nat, e14 + 1 ≤ d ∧ KC' X e14 MX9_isFigure [vI y11] κ12 (kRI fun y17 κ18 => ((y17 = 0 → K X d MX9_readNumber 66 [(0, vR 72), (1, vI x1), (2, vI x2), (3, vL l3)] [] κ18 Q) ∧ (¬ y17 = 0 → ((9 ≤ (x2 - x1) → K X d MX9_readNumber 59 [(0, vR 72), (1, vI x1), (2, vI x2), (3, vL l3)] [vL l3] κ18 Q) ∧ (¬ 9 ≤ (x2 - x1) → ∃ e22 : Nat, e22 + 1 ≤ d ∧ KC' X e22 MX8_at [vR 65, vI x2] κ18 (kRI fun y25 κ26 => K X d MX9_readNumber 59 [(0, vR 72), (1, vI x1), (2, vI x2), (3, vL l3)] [vL ((l3 * 10) + (((y25 - 48) : Int32).toInt64))] κ26 Q))))))))))) : K X d MX9_readNumber 4 [(0, vR 72), (1, vI x1), (2, vI x2), (3, vL l3)] [] κ Q := by
  refine K_p (pc2 := 5) (lv2 := [(0, vR 72), (1, vI _), (2, vI _), (3, vL _)]) (st2 := [vI _]) (fun ad S Q _ k => V_iload_n (pc2 := 5) (dk D_X9_readNumber 4 rfl) rfl (V_lg 2 rfl) rfl k) ?_
  refine K_p (pc2 := 6) (lv2 := [(0, vR 72), (1, vI _), (2, vI _), (3, vL _)]) (st2 := [vR 72, vI _]) (fun ad S Q _ k => V_aload_n (pc2 := 6) (dk D_X9_readNumber 5 rfl) rfl (V_lg 0 rfl) rfl k) ?_
  refine K_getF kc9 (h' := 65) (pc2 := 9) 0 (by decide) (dk D_X9_readNumber 6 rfl) fl_9_23 (by decide) (fun _ _ => rfl) rfl (fixH 72 9 (by decide) rfl) (by decide) ?_
  obtain ⟨e1, he2, hc3⟩ := h
  refine K_call (as := [vR 65]) (st := [vI _]) (pc2 := 12) (okL.all _ ⟨(Or.inr ⟨Or.inl ⟨by decide, by decide⟩, by decide⟩), trivial, trivial, trivial, trivial⟩) (okS.all _ ⟨trivial, trivial⟩) (fun ad S Q Qc hC hc k => V_callV (as := []) (st := [_]) (M' := MX8_size) (ci := 8) (pc2 := 12) (dk D_X9_readNumber 7 rfl) ml_9_47 mv_X8_size rfl rfl (by decide) rfl (Nat.le_of_ble_eq_true rfl) rfl he2 (hC.k' (fixH 65 8 (by decide) rfl)) hc k) hc3 (kRI.k fun y4 κ5 h mo6 => ?_)
  refine K_if (pa := 66) (pb := 15) (lv2 := [(0, vR 72), (1, vI _), (2, vI _), (3, vL _)]) (st2 := []) (fun ad S Q _ k1 k2 => V_cmpge (tgt := 66) (pc2 := 15) (dk D_X9_readNumber 8 rfl) (by decide) rfl (fun q => k1 q) (fun q => k2 q)) (fun q7 => ?_) (fun q7 => ?_)
  · have h := h.1 q7
    exact h
  · have h := h.2 q7
    refine K_p (pc2 := 16) (lv2 := [(0, vR 72), (1, vI _), (2, vI _), (3, vL _)]) (st2 := [vR 72]) (fun ad S Q _ k => V_aload_n (pc2 := 16) (dk D_X9_readNumber 9 rfl) rfl (V_lg 0 rfl) rfl k) ?_
    refine K_getF kc9 (h' := 65) (pc2 := 19) 0 (by decide) (dk D_X9_readNumber 10 rfl) fl_9_23 (by decide) (fun _ _ => rfl) rfl (fixH 72 9 (by decide) rfl) (by decide) ?_
    refine K_p (pc2 := 20) (lv2 := [(0, vR 72), (1, vI _), (2, vI _), (3, vL _)]) (st2 := [vI _, vR 65]) (fun ad S Q _ k => V_iload_n (pc2 := 20) (dk D_X9_readNumber 11 rfl) rfl (V_lg 2 rfl) rfl k) ?_
    obtain ⟨e8, he9, hc10⟩ := h
    refine K_call (as := [vR 65, vI _]) (st := []) (pc2 := 23) (okL.all _ ⟨(Or.inr ⟨Or.inl ⟨by decide, by decide⟩, by decide⟩), trivial, trivial, trivial, trivial⟩) (okS.all _ trivial) (fun ad S Q Qc hC hc k => V_callV (as := [_]) (st := []) (M' := MX8_at) (ci := 8) (pc2 := 23) (dk D_X9_readNumber 12 rfl) ml_9_49 mv_X8_at rfl rfl (by decide) rfl (Nat.le_of_ble_eq_true rfl) rfl he9 (hC.k' (fixH 65 8 (by decide) rfl)) hc k) hc10 (kRI.k fun y11 κ12 h mo13 => ?_)
    obtain ⟨e14, he15, hc16⟩ := h
    refine K_call (as := [vI _]) (st := []) (pc2 := 26) (okL.all _ ⟨(Or.inr ⟨Or.inl ⟨by decide, by decide⟩, by decide⟩), trivial, trivial, trivial, trivial⟩) (okS.all _ trivial) (fun ad S Q Qc hC hc k => V_callS (as := [_]) (st := []) (M' := MX9_isFigure) (pc2 := 26) (dk D_X9_readNumber 13 rfl) ml_9_60 mv_X9_isFigure rfl rfl (Nat.le_of_ble_eq_true rfl) rfl he15 hc k) hc16 (kRI.k fun y17 κ18 h mo19 => ?_)
    refine K_if (pa := 66) (pb := 29) (lv2 := [(0, vR 72), (1, vI _), (2, vI _), (3, vL _)]) (st2 := []) (fun ad S Q _ k1 k2 => V_ifeq (tgt := 66) (pc2 := 29) (dk D_X9_readNumber 14 rfl) (by decide) rfl (fun q => k1 q) (fun q => k2 q)) (fun q20 => ?_) (fun q20 => ?_)
    · have h := h.1 q20
      exact h
    · have h := h.2 q20
      refine K_p (pc2 := 30) (lv2 := [(0, vR 72), (1, vI _), (2, vI _), (3, vL _)]) (st2 := [vI _]) (fun ad S Q _ k => V_iload_n (pc2 := 30) (dk D_X9_readNumber 15 rfl) rfl (V_lg 2 rfl) rfl k) ?_
      refine K_p (pc2 := 31) (lv2 := [(0, vR 72), (1, vI _), (2, vI _), (3, vL _)]) (st2 := [vI _, vI _]) (fun ad S Q _ k => V_iload_n (pc2 := 31) (dk D_X9_readNumber 16 rfl) rfl (V_lg 1 rfl) rfl k) ?_
      refine K_p (pc2 := 32) (lv2 := [(0, vR 72), (1, vI _), (2, vI _), (3, vL _)]) (st2 := [vI _]) (fun ad S Q _ k => V_isub (pc2 := 32) (dk D_X9_readNumber 17 rfl) rfl k) ?_
      refine K_p (pc2 := 34) (lv2 := [(0, vR 72), (1, vI _), (2, vI _), (3, vL _)]) (st2 := [vI _, vI _]) (fun ad S Q _ k => V_bipush (x := 9) (pc2 := 34) (dk D_X9_readNumber 18 rfl) (by decide) rfl k) ?_
      refine K_if (pa := 58) (pb := 37) (lv2 := [(0, vR 72), (1, vI _), (2, vI _), (3, vL _)]) (st2 := []) (fun ad S Q _ k1 k2 => V_cmpge (tgt := 58) (pc2 := 37) (dk D_X9_readNumber 19 rfl) (by decide) rfl (fun q => k1 q) (fun q => k2 q)) (fun q21 => ?_) (fun q21 => ?_)
      · have h := h.1 q21
        refine K_p (pc2 := 59) (lv2 := [(0, vR 72), (1, vI _), (2, vI _), (3, vL _)]) (st2 := [vL _]) (fun ad S Q _ k => V_lload_n (pc2 := 59) (dk D_X9_readNumber 32 rfl) rfl (V_lg 3 rfl) rfl k) ?_
        exact h
      · have h := h.2 q21
        refine K_p (pc2 := 38) (lv2 := [(0, vR 72), (1, vI _), (2, vI _), (3, vL _)]) (st2 := [vL _]) (fun ad S Q _ k => V_lload_n (pc2 := 38) (dk D_X9_readNumber 20 rfl) rfl (V_lg 3 rfl) rfl k) ?_
        refine K_p (pc2 := 41) (lv2 := [(0, vR 72), (1, vI _), (2, vI _), (3, vL _)]) (st2 := [vL _, vL _]) (fun ad S Q _ k => V_ldc2 (x := 10) (pc2 := 41) (dk D_X9_readNumber 21 rfl) kl_9_89 rfl k) ?_
        refine K_p (pc2 := 42) (lv2 := [(0, vR 72), (1, vI _), (2, vI _), (3, vL _)]) (st2 := [vL _]) (fun ad S Q _ k => V_lmul (pc2 := 42) (dk D_X9_readNumber 22 rfl) rfl k) ?_
        refine K_p (pc2 := 43) (lv2 := [(0, vR 72), (1, vI _), (2, vI _), (3, vL _)]) (st2 := [vR 72, vL _]) (fun ad S Q _ k => V_aload_n (pc2 := 43) (dk D_X9_readNumber 23 rfl) rfl (V_lg 0 rfl) rfl k) ?_
        refine K_getF kc9 (h' := 65) (pc2 := 46) 0 (by decide) (dk D_X9_readNumber 24 rfl) fl_9_23 (by decide) (fun _ _ => rfl) rfl (fixH 72 9 (by decide) rfl) (by decide) ?_
        refine K_p (pc2 := 47) (lv2 := [(0, vR 72), (1, vI _), (2, vI _), (3, vL _)]) (st2 := [vI _, vR 65, vL _]) (fun ad S Q _ k => V_iload_n (pc2 := 47) (dk D_X9_readNumber 25 rfl) rfl (V_lg 2 rfl) rfl k) ?_
        obtain ⟨e22, he23, hc24⟩ := h
        refine K_call (as := [vR 65, vI _]) (st := [vL _]) (pc2 := 50) (okL.all _ ⟨(Or.inr ⟨Or.inl ⟨by decide, by decide⟩, by decide⟩), trivial, trivial, trivial, trivial⟩) (okS.all _ ⟨trivial, trivial⟩) (fun ad S Q Qc hC hc k => V_callV (as := [_]) (st := [_]) (M' := MX8_at) (ci := 8) (pc2 := 50) (dk D_X9_readNumber 26 rfl) ml_9_49 mv_X8_at rfl rfl (by decide) rfl (Nat.le_of_ble_eq_true rfl) rfl he23 (hC.k' (fixH 65 8 (by decide) rfl)) hc k) hc24 (kRI.k fun y25 κ26 h mo27 => ?_)
        refine K_p (pc2 := 52) (lv2 := [(0, vR 72), (1, vI _), (2, vI _), (3, vL _)]) (st2 := [vI _, vI _, vL _]) (fun ad S Q _ k => V_bipush (x := 48) (pc2 := 52) (dk D_X9_readNumber 27 rfl) (by decide) rfl k) ?_
        refine K_p (pc2 := 53) (lv2 := [(0, vR 72), (1, vI _), (2, vI _), (3, vL _)]) (st2 := [vI _, vL _]) (fun ad S Q _ k => V_isub (pc2 := 53) (dk D_X9_readNumber 28 rfl) rfl k) ?_
        refine K_p (pc2 := 54) (lv2 := [(0, vR 72), (1, vI _), (2, vI _), (3, vL _)]) (st2 := [vL _, vL _]) (fun ad S Q _ k => V_i2l (pc2 := 54) (dk D_X9_readNumber 29 rfl) rfl k) ?_
        refine K_p (pc2 := 55) (lv2 := [(0, vR 72), (1, vI _), (2, vI _), (3, vL _)]) (st2 := [vL _]) (fun ad S Q _ k => V_ladd (pc2 := 55) (dk D_X9_readNumber 30 rfl) rfl k) ?_
        refine K_p (pc2 := 59) (lv2 := [(0, vR 72), (1, vI _), (2, vI _), (3, vL _)]) (st2 := [vL _]) (fun ad S Q _ k => V_goto (tgt := 59) (dk D_X9_readNumber 31 rfl) (by decide) k) ?_
        exact h
theorem k_9_readNumber_59 {X : Cx} {d : Nat} {κ : Km} {Q : Res → Km → Prop} (x1 : Int32) (x2 : Int32) (l3 : Int64) (t0 : Int64) (h : K X d MX9_readNumber 4 [(0, vR 72), (1, vI x1), (2, vI (x2 + 1)), (3, vL t0)] [] κ Q) : K X d MX9_readNumber 59 [(0, vR 72), (1, vI x1), (2, vI x2), (3, vL l3)] [vL t0] κ Q := by
  refine K_p (pc2 := 60) (lv2 := [(0, vR 72), (1, vI _), (2, vI _), (3, vL _)]) (st2 := []) (fun ad S Q _ k => V_lstore_n (pc2 := 60) (lv2 := [(0, _), (1, _), (2, _), (3, _)]) (dk D_X9_readNumber 33 rfl) rfl (by decide) rfl rfl k) ?_
  refine K_p (pc2 := 63) (lv2 := [(0, vR 72), (1, vI _), (2, vI _), (3, vL _)]) (st2 := []) (fun ad S Q _ k => V_iinc (y := _ + 1) (pc2 := 63) (lv2 := [(0, _), (1, _), (2, _), (3, _)]) (dk D_X9_readNumber 34 rfl) (V_lg 2 rfl) rfl (by decide) rfl rfl k) ?_
  refine K_p (pc2 := 4) (lv2 := [(0, vR 72), (1, vI _), (2, vI _), (3, vL _)]) (st2 := []) (fun ad S Q _ k => V_goto (tgt := 4) (dk D_X9_readNumber 35 rfl) (by decide) k) ?_
  exact h
theorem k_9_readNumber_66 {X : Cx} {d : Nat} {κ : Km} {Q : Res → Km → Prop} (x1 : Int32) (x2 : Int32) (l3 : Int64) (h : (((x2 - x1) ≤ 9 → K X d MX9_readNumber 81 [(0, vR 72), (1, vI x1), (2, vI x2), (3, vL l3)] [vI 3, vR 72] κ Q) ∧ (¬ (x2 - x1) ≤ 9 → K X d MX9_readNumber 81 [(0, vR 72), (1, vI x1), (2, vI x2), (3, vL l3)] [vI 6, vR 72] κ Q))) : K X d MX9_readNumber 66 [(0, vR 72), (1, vI x1), (2, vI x2), (3, vL l3)] [] κ Q := by
  refine K_p (pc2 := 67) (lv2 := [(0, vR 72), (1, vI _), (2, vI _), (3, vL _)]) (st2 := [vR 72]) (fun ad S Q _ k => V_aload_n (pc2 := 67) (dk D_X9_readNumber 36 rfl) rfl (V_lg 0 rfl) rfl k) ?_
  refine K_p (pc2 := 68) (lv2 := [(0, vR 72), (1, vI _), (2, vI _), (3, vL _)]) (st2 := [vI _, vR 72]) (fun ad S Q _ k => V_iload_n (pc2 := 68) (dk D_X9_readNumber 37 rfl) rfl (V_lg 2 rfl) rfl k) ?_
  refine K_p (pc2 := 69) (lv2 := [(0, vR 72), (1, vI _), (2, vI _), (3, vL _)]) (st2 := [vI _, vI _, vR 72]) (fun ad S Q _ k => V_iload_n (pc2 := 69) (dk D_X9_readNumber 38 rfl) rfl (V_lg 1 rfl) rfl k) ?_
  refine K_p (pc2 := 70) (lv2 := [(0, vR 72), (1, vI _), (2, vI _), (3, vL _)]) (st2 := [vI _, vR 72]) (fun ad S Q _ k => V_isub (pc2 := 70) (dk D_X9_readNumber 39 rfl) rfl k) ?_
  refine K_p (pc2 := 72) (lv2 := [(0, vR 72), (1, vI _), (2, vI _), (3, vL _)]) (st2 := [vI _, vI _, vR 72]) (fun ad S Q _ k => V_bipush (x := 9) (pc2 := 72) (dk D_X9_readNumber 40 rfl) (by decide) rfl k) ?_
  refine K_if (pa := 80) (pb := 75) (lv2 := [(0, vR 72), (1, vI _), (2, vI _), (3, vL _)]) (st2 := [vR 72]) (fun ad S Q _ k1 k2 => V_cmple (tgt := 80) (pc2 := 75) (dk D_X9_readNumber 41 rfl) (by decide) rfl (fun q => k1 q) (fun q => k2 q)) (fun q1 => ?_) (fun q1 => ?_)
  · have h := h.1 q1
    refine K_p (pc2 := 81) (lv2 := [(0, vR 72), (1, vI _), (2, vI _), (3, vL _)]) (st2 := [vI _, vR 72]) (fun ad S Q _ k => V_iconst (x := 3) (pc2 := 81) (dk D_X9_readNumber 44 rfl) (by decide) rfl k) ?_
    exact h
  · have h := h.2 q1
    refine K_p (pc2 := 77) (lv2 := [(0, vR 72), (1, vI _), (2, vI _), (3, vL _)]) (st2 := [vI _, vR 72]) (fun ad S Q _ k => V_bipush (x := 6) (pc2 := 77) (dk D_X9_readNumber 42 rfl) (by decide) rfl k) ?_
    refine K_p (pc2 := 81) (lv2 := [(0, vR 72), (1, vI _), (2, vI _), (3, vL _)]) (st2 := [vI _, vR 72]) (fun ad S Q _ k => V_goto (tgt := 81) (dk D_X9_readNumber 43 rfl) (by decide) k) ?_
    exact h
theorem k_9_readNumber_81 {X : Cx} {d : Nat} {κ : Km} {Q : Res → Km → Prop} (x1 : Int32) (x2 : Int32) (l3 : Int64) (t1 : Int32) (h : ∃ e1 : Nat, e1 + 1 ≤ d ∧ KC' X e1 MX9_add [vR 72, vI t1, vI x1, vL l3] κ (kRV fun  κ4 => Q (.inl (some (vI x2))) κ4)) : K X d MX9_readNumber 81 [(0, vR 72), (1, vI x1), (2, vI x2), (3, vL l3)] [vI t1, vR 72] κ Q := by
  refine K_p (pc2 := 82) (lv2 := [(0, vR 72), (1, vI _), (2, vI _), (3, vL _)]) (st2 := [vI _, vI _, vR 72]) (fun ad S Q _ k => V_iload_n (pc2 := 82) (dk D_X9_readNumber 45 rfl) rfl (V_lg 1 rfl) rfl k) ?_
  refine K_p (pc2 := 83) (lv2 := [(0, vR 72), (1, vI _), (2, vI _), (3, vL _)]) (st2 := [vL _, vI _, vI _, vR 72]) (fun ad S Q _ k => V_lload_n (pc2 := 83) (dk D_X9_readNumber 46 rfl) rfl (V_lg 3 rfl) rfl k) ?_
  obtain ⟨e1, he2, hc3⟩ := h
  refine K_call (as := [vR 72, vI _, vI _, vL _]) (st := []) (pc2 := 86) (okL.all _ ⟨(Or.inr ⟨Or.inl ⟨by decide, by decide⟩, by decide⟩), trivial, trivial, trivial, trivial⟩) (okS.all _ trivial) (fun ad S Q Qc hC hc k => V_callV (as := [_, _, _]) (st := []) (M' := MX9_add) (ci := 9) (pc2 := 86) (dk D_X9_readNumber 47 rfl) ml_9_70 mv_X9_add rfl rfl (by decide) rfl (Nat.le_of_ble_eq_true rfl) rfl he2 (hC.k' (fixH 72 9 (by decide) rfl)) hc k) hc3 (kRV.k fun  κ4 h mo5 => ?_)
  refine K_p (pc2 := 87) (lv2 := [(0, vR 72), (1, vI _), (2, vI _), (3, vL _)]) (st2 := [vI _]) (fun ad S Q _ k => V_iload_n (pc2 := 87) (dk D_X9_readNumber 48 rfl) rfl (V_lg 2 rfl) rfl k) ?_
  exact K_ret (r := .inl (some (vI _))) (fun ad S Q _ k => V_ireturn (dk D_X9_readNumber 49 rfl) rfl k) h
theorem k_9_readSign_0 {X : Cx} {d : Nat} {κ : Km} {Q : Res → Km → Prop} (x1 : Int32) (x2 : Int32) (h : ((x2 = 61 → ∃ e2 : Nat, e2 + 1 ≤ d ∧ KC' X e2 MX8_at [vR 65, vI (x1 + 1)] κ (kRI fun y5 κ6 => ((y5 = 61 → ∃ e9 : Nat, e9 + 1 ≤ d ∧ KC' X e9 MX9_add [vR 72, vI 4, vI x1, vL 0] κ6 (kRV fun  κ12 => Q (.inl (some (vI (x1 + 2)))) κ12)) ∧ (¬ y5 = 61 → K X d MX9_readSign 32 [(0, vR 72), (1, vI x1), (2, vI x2)] [] κ6 Q)))) ∧ (¬ x2 = 61 → K X d MX9_readSign 32 [(0, vR 72), (1, vI x1), (2, vI x2)] [] κ Q))) : K X d MX9_readSign 0 [(0, vR 72), (1, vI x1), (2, vI x2)] [] κ Q := by
  refine K_p (pc2 := 1) (lv2 := [(0, vR 72), (1, vI _), (2, vI _)]) (st2 := [vI _]) (fun ad S Q _ k => V_iload_n (pc2 := 1) (dk D_X9_readSign 0 rfl) rfl (V_lg 2 rfl) rfl k) ?_
  refine K_p (pc2 := 3) (lv2 := [(0, vR 72), (1, vI _), (2, vI _)]) (st2 := [vI _, vI _]) (fun ad S Q _ k => V_bipush (x := 61) (pc2 := 3) (dk D_X9_readSign 1 rfl) (by decide) rfl k) ?_
  refine K_if (pa := 6) (pb := 32) (lv2 := [(0, vR 72), (1, vI _), (2, vI _)]) (st2 := []) (fun ad S Q _ k1 k2 => V_cmpne (tgt := 32) (pc2 := 6) (dk D_X9_readSign 2 rfl) (by decide) rfl (fun q => k2 q) (fun q => k1 q)) (fun q1 => ?_) (fun q1 => ?_)
  · have h := h.1 q1
    refine K_p (pc2 := 7) (lv2 := [(0, vR 72), (1, vI _), (2, vI _)]) (st2 := [vR 72]) (fun ad S Q _ k => V_aload_n (pc2 := 7) (dk D_X9_readSign 3 rfl) rfl (V_lg 0 rfl) rfl k) ?_
    refine K_getF kc9 (h' := 65) (pc2 := 10) 0 (by decide) (dk D_X9_readSign 4 rfl) fl_9_23 (by decide) (fun _ _ => rfl) rfl (fixH 72 9 (by decide) rfl) (by decide) ?_
    refine K_p (pc2 := 11) (lv2 := [(0, vR 72), (1, vI _), (2, vI _)]) (st2 := [vI _, vR 65]) (fun ad S Q _ k => V_iload_n (pc2 := 11) (dk D_X9_readSign 5 rfl) rfl (V_lg 1 rfl) rfl k) ?_
    refine K_p (pc2 := 12) (lv2 := [(0, vR 72), (1, vI _), (2, vI _)]) (st2 := [vI _, vI _, vR 65]) (fun ad S Q _ k => V_iconst (x := 1) (pc2 := 12) (dk D_X9_readSign 6 rfl) (by decide) rfl k) ?_
    refine K_p (pc2 := 13) (lv2 := [(0, vR 72), (1, vI _), (2, vI _)]) (st2 := [vI _, vR 65]) (fun ad S Q _ k => V_iadd (pc2 := 13) (dk D_X9_readSign 7 rfl) rfl k) ?_
    obtain ⟨e2, he3, hc4⟩ := h
    refine K_call (as := [vR 65, vI _]) (st := []) (pc2 := 16) (okL.all _ ⟨(Or.inr ⟨Or.inl ⟨by decide, by decide⟩, by decide⟩), trivial, trivial, trivial⟩) (okS.all _ trivial) (fun ad S Q Qc hC hc k => V_callV (as := [_]) (st := []) (M' := MX8_at) (ci := 8) (pc2 := 16) (dk D_X9_readSign 8 rfl) ml_9_49 mv_X8_at rfl rfl (by decide) rfl (Nat.le_of_ble_eq_true rfl) rfl he3 (hC.k' (fixH 65 8 (by decide) rfl)) hc k) hc4 (kRI.k fun y5 κ6 h mo7 => ?_)
    refine K_p (pc2 := 18) (lv2 := [(0, vR 72), (1, vI _), (2, vI _)]) (st2 := [vI _, vI _]) (fun ad S Q _ k => V_bipush (x := 61) (pc2 := 18) (dk D_X9_readSign 9 rfl) (by decide) rfl k) ?_
    refine K_if (pa := 21) (pb := 32) (lv2 := [(0, vR 72), (1, vI _), (2, vI _)]) (st2 := []) (fun ad S Q _ k1 k2 => V_cmpne (tgt := 32) (pc2 := 21) (dk D_X9_readSign 10 rfl) (by decide) rfl (fun q => k2 q) (fun q => k1 q)) (fun q8 => ?_) (fun q8 => ?_)
    · have h := h.1 q8
      refine K_p (pc2 := 22) (lv2 := [(0, vR 72), (1, vI _), (2, vI _)]) (st2 := [vR 72]) (fun ad S Q _ k => V_aload_n (pc2 := 22) (dk D_X9_readSign 11 rfl) rfl (V_lg 0 rfl) rfl k) ?_
      refine K_p (pc2 := 23) (lv2 := [(0, vR 72), (1, vI _), (2, vI _)]) (st2 := [vI _, vR 72]) (fun ad S Q _ k => V_iconst (x := 4) (pc2 := 23) (dk D_X9_readSign 12 rfl) (by decide) rfl k) ?_
      refine K_p (pc2 := 24) (lv2 := [(0, vR 72), (1, vI _), (2, vI _)]) (st2 := [vI _, vI _, vR 72]) (fun ad S Q _ k => V_iload_n (pc2 := 24) (dk D_X9_readSign 13 rfl) rfl (V_lg 1 rfl) rfl k) ?_
      refine K_p (pc2 := 25) (lv2 := [(0, vR 72), (1, vI _), (2, vI _)]) (st2 := [vL _, vI _, vI _, vR 72]) (fun ad S Q _ k => V_lconst (x := 0) (pc2 := 25) (dk D_X9_readSign 14 rfl) (by decide) rfl k) ?_
      obtain ⟨e9, he10, hc11⟩ := h
      refine K_call (as := [vR 72, vI _, vI _, vL _]) (st := []) (pc2 := 28) (okL.all _ ⟨(Or.inr ⟨Or.inl ⟨by decide, by decide⟩, by decide⟩), trivial, trivial, trivial⟩) (okS.all _ trivial) (fun ad S Q Qc hC hc k => V_callV (as := [_, _, _]) (st := []) (M' := MX9_add) (ci := 9) (pc2 := 28) (dk D_X9_readSign 15 rfl) ml_9_70 mv_X9_add rfl rfl (by decide) rfl (Nat.le_of_ble_eq_true rfl) rfl he10 (hC.k' (fixH 72 9 (by decide) rfl)) hc k) hc11 (kRV.k fun  κ12 h mo13 => ?_)
      refine K_p (pc2 := 29) (lv2 := [(0, vR 72), (1, vI _), (2, vI _)]) (st2 := [vI _]) (fun ad S Q _ k => V_iload_n (pc2 := 29) (dk D_X9_readSign 16 rfl) rfl (V_lg 1 rfl) rfl k) ?_
      refine K_p (pc2 := 30) (lv2 := [(0, vR 72), (1, vI _), (2, vI _)]) (st2 := [vI _, vI _]) (fun ad S Q _ k => V_iconst (x := 2) (pc2 := 30) (dk D_X9_readSign 17 rfl) (by decide) rfl k) ?_
      refine K_p (pc2 := 31) (lv2 := [(0, vR 72), (1, vI _), (2, vI _)]) (st2 := [vI _]) (fun ad S Q _ k => V_iadd (pc2 := 31) (dk D_X9_readSign 18 rfl) rfl k) ?_
      exact K_ret (r := .inl (some (vI _))) (fun ad S Q _ k => V_ireturn (dk D_X9_readSign 19 rfl) rfl k) h
    · have h := h.2 q8
      exact h
  · have h := h.2 q1
    exact h
theorem k_9_readSign_32 {X : Cx} {d : Nat} {κ : Km} {Q : Res → Km → Prop} (x1 : Int32) (x2 : Int32) (h : ∃ e1 : Nat, e1 + 1 ≤ d ∧ KC' X e1 MJ0_indexOf_0f7a4 [vR 3, vI (((x2 : Int32).toUInt32 % 65536).toInt32)] κ (kRI fun y4 κ5 => ((0 ≤ y4 → K X d MX9_readSign 48 [(0, vR 72), (1, vI x1), (2, vI x2)] [vI x2, vR 72] κ5 Q) ∧ (¬ 0 ≤ y4 → K X d MX9_readSign 48 [(0, vR 72), (1, vI x1), (2, vI x2)] [vI 1, vR 72] κ5 Q)))) : K X d MX9_readSign 32 [(0, vR 72), (1, vI x1), (2, vI x2)] [] κ Q := by
  refine K_p (pc2 := 33) (lv2 := [(0, vR 72), (1, vI _), (2, vI _)]) (st2 := [vR 72]) (fun ad S Q _ k => V_aload_n (pc2 := 33) (dk D_X9_readSign 20 rfl) rfl (V_lg 0 rfl) rfl k) ?_
  refine K_p (pc2 := 35) (lv2 := [(0, vR 72), (1, vI _), (2, vI _)]) (st2 := [vR 3, vR 72]) (fun ad S Q _ k => V_ldcs 1 (pc2 := 35) (dk D_X9_readSign 21 rfl) rfl rfl k) ?_
  refine K_p (pc2 := 36) (lv2 := [(0, vR 72), (1, vI _), (2, vI _)]) (st2 := [vI _, vR 3, vR 72]) (fun ad S Q _ k => V_iload_n (pc2 := 36) (dk D_X9_readSign 22 rfl) rfl (V_lg 2 rfl) rfl k) ?_
  refine K_p (pc2 := 37) (lv2 := [(0, vR 72), (1, vI _), (2, vI _)]) (st2 := [vI _, vR 3, vR 72]) (fun ad S Q _ k => V_i2c (pc2 := 37) (dk D_X9_readSign 23 rfl) rfl k) ?_
  obtain ⟨e1, he2, hc3⟩ := h
  refine K_call (as := [vR 3, vI _]) (st := [vR 72]) (pc2 := 40) (okL.all _ ⟨(Or.inr ⟨Or.inl ⟨by decide, by decide⟩, by decide⟩), trivial, trivial, trivial⟩) (okS.all _ ⟨(Or.inr ⟨Or.inl ⟨by decide, by decide⟩, by decide⟩), trivial⟩) (fun ad S Q Qc hC hc k => V_callT (r := 3) (by decide) (by decide) (as := [_]) (st := [_]) (M' := MJ0_indexOf_0f7a4) (pc2 := 40) rfl (dk D_X9_readSign 24 rfl) ml_9_93 mv_J0_indexOf_0f7a4 rfl rfl (Nat.le_of_ble_eq_true rfl) rfl he2 hc k) hc3 (kRI.k fun y4 κ5 h mo6 => ?_)
  refine K_if (pa := 47) (pb := 43) (lv2 := [(0, vR 72), (1, vI _), (2, vI _)]) (st2 := [vR 72]) (fun ad S Q _ k1 k2 => V_ifge (tgt := 47) (pc2 := 43) (dk D_X9_readSign 25 rfl) (by decide) rfl (fun q => k1 q) (fun q => k2 q)) (fun q7 => ?_) (fun q7 => ?_)
  · have h := h.1 q7
    refine K_p (pc2 := 48) (lv2 := [(0, vR 72), (1, vI _), (2, vI _)]) (st2 := [vI _, vR 72]) (fun ad S Q _ k => V_iload_n (pc2 := 48) (dk D_X9_readSign 28 rfl) rfl (V_lg 2 rfl) rfl k) ?_
    exact h
  · have h := h.2 q7
    refine K_p (pc2 := 44) (lv2 := [(0, vR 72), (1, vI _), (2, vI _)]) (st2 := [vI _, vR 72]) (fun ad S Q _ k => V_iconst (x := 1) (pc2 := 44) (dk D_X9_readSign 26 rfl) (by decide) rfl k) ?_
    refine K_p (pc2 := 48) (lv2 := [(0, vR 72), (1, vI _), (2, vI _)]) (st2 := [vI _, vR 72]) (fun ad S Q _ k => V_goto (tgt := 48) (dk D_X9_readSign 27 rfl) (by decide) k) ?_
    exact h
theorem k_9_readSign_48 {X : Cx} {d : Nat} {κ : Km} {Q : Res → Km → Prop} (x1 : Int32) (x2 : Int32) (t1 : Int32) (h : ∃ e1 : Nat, e1 + 1 ≤ d ∧ KC' X e1 MX9_add [vR 72, vI t1, vI x1, vL 0] κ (kRV fun  κ4 => Q (.inl (some (vI (x1 + 1)))) κ4)) : K X d MX9_readSign 48 [(0, vR 72), (1, vI x1), (2, vI x2)] [vI t1, vR 72] κ Q := by
  refine K_p (pc2 := 49) (lv2 := [(0, vR 72), (1, vI _), (2, vI _)]) (st2 := [vI _, vI _, vR 72]) (fun ad S Q _ k => V_iload_n (pc2 := 49) (dk D_X9_readSign 29 rfl) rfl (V_lg 1 rfl) rfl k) ?_
  refine K_p (pc2 := 50) (lv2 := [(0, vR 72), (1, vI _), (2, vI _)]) (st2 := [vL _, vI _, vI _, vR 72]) (fun ad S Q _ k => V_lconst (x := 0) (pc2 := 50) (dk D_X9_readSign 30 rfl) (by decide) rfl k) ?_
  obtain ⟨e1, he2, hc3⟩ := h
  refine K_call (as := [vR 72, vI _, vI _, vL _]) (st := []) (pc2 := 53) (okL.all _ ⟨(Or.inr ⟨Or.inl ⟨by decide, by decide⟩, by decide⟩), trivial, trivial, trivial⟩) (okS.all _ trivial) (fun ad S Q Qc hC hc k => V_callV (as := [_, _, _]) (st := []) (M' := MX9_add) (ci := 9) (pc2 := 53) (dk D_X9_readSign 31 rfl) ml_9_70 mv_X9_add rfl rfl (by decide) rfl (Nat.le_of_ble_eq_true rfl) rfl he2 (hC.k' (fixH 72 9 (by decide) rfl)) hc k) hc3 (kRV.k fun  κ4 h mo5 => ?_)
  refine K_p (pc2 := 54) (lv2 := [(0, vR 72), (1, vI _), (2, vI _)]) (st2 := [vI _]) (fun ad S Q _ k => V_iload_n (pc2 := 54) (dk D_X9_readSign 32 rfl) rfl (V_lg 1 rfl) rfl k) ?_
  refine K_p (pc2 := 55) (lv2 := [(0, vR 72), (1, vI _), (2, vI _)]) (st2 := [vI _, vI _]) (fun ad S Q _ k => V_iconst (x := 1) (pc2 := 55) (dk D_X9_readSign 33 rfl) (by decide) rfl k) ?_
  refine K_p (pc2 := 56) (lv2 := [(0, vR 72), (1, vI _), (2, vI _)]) (st2 := [vI _]) (fun ad S Q _ k => V_iadd (pc2 := 56) (dk D_X9_readSign 34 rfl) rfl k) ?_
  exact K_ret (r := .inl (some (vI _))) (fun ad S Q _ k => V_ireturn (dk D_X9_readSign 35 rfl) rfl k) h
theorem k_9_isLetter_0 {X : Cx} {d : Nat} {κ : Km} {Q : Res → Km → Prop} (x0 : Int32) (h : ((x0 < 97 → K X d MX9_isLetter 16 [(0, vI x0)] [] κ Q) ∧ (¬ x0 < 97 → ((122 < x0 → K X d MX9_isLetter 16 [(0, vI x0)] [] κ Q) ∧ (¬ 122 < x0 → K X d MX9_isLetter 17 [(0, vI x0)] [vI 1] κ Q))))) : K X d MX9_isLetter 0 [(0, vI x0)] [] κ Q := by
  refine K_p (pc2 := 1) (lv2 := [(0, vI _)]) (st2 := [vI _]) (fun ad S Q _ k => V_iload_n (pc2 := 1) (dk D_X9_isLetter 0 rfl) rfl (V_lg 0 rfl) rfl k) ?_
  refine K_p (pc2 := 3) (lv2 := [(0, vI _)]) (st2 := [vI _, vI _]) (fun ad S Q _ k => V_bipush (x := 97) (pc2 := 3) (dk D_X9_isLetter 1 rfl) (by decide) rfl k) ?_
  refine K_if (pa := 16) (pb := 6) (lv2 := [(0, vI _)]) (st2 := []) (fun ad S Q _ k1 k2 => V_cmplt (tgt := 16) (pc2 := 6) (dk D_X9_isLetter 2 rfl) (by decide) rfl (fun q => k1 q) (fun q => k2 q)) (fun q1 => ?_) (fun q1 => ?_)
  · have h := h.1 q1
    exact h
  · have h := h.2 q1
    refine K_p (pc2 := 7) (lv2 := [(0, vI _)]) (st2 := [vI _]) (fun ad S Q _ k => V_iload_n (pc2 := 7) (dk D_X9_isLetter 3 rfl) rfl (V_lg 0 rfl) rfl k) ?_
    refine K_p (pc2 := 9) (lv2 := [(0, vI _)]) (st2 := [vI _, vI _]) (fun ad S Q _ k => V_bipush (x := 122) (pc2 := 9) (dk D_X9_isLetter 4 rfl) (by decide) rfl k) ?_
    refine K_if (pa := 16) (pb := 12) (lv2 := [(0, vI _)]) (st2 := []) (fun ad S Q _ k1 k2 => V_cmpgt (tgt := 16) (pc2 := 12) (dk D_X9_isLetter 5 rfl) (by decide) rfl (fun q => k1 q) (fun q => k2 q)) (fun q2 => ?_) (fun q2 => ?_)
    · have h := h.1 q2
      exact h
    · have h := h.2 q2
      refine K_p (pc2 := 13) (lv2 := [(0, vI _)]) (st2 := [vI _]) (fun ad S Q _ k => V_iconst (x := 1) (pc2 := 13) (dk D_X9_isLetter 6 rfl) (by decide) rfl k) ?_
      refine K_p (pc2 := 17) (lv2 := [(0, vI _)]) (st2 := [vI _]) (fun ad S Q _ k => V_goto (tgt := 17) (dk D_X9_isLetter 7 rfl) (by decide) k) ?_
      exact h
theorem k_9_isLetter_16 {X : Cx} {d : Nat} {κ : Km} {Q : Res → Km → Prop} (x0 : Int32) (h : K X d MX9_isLetter 17 [(0, vI x0)] [vI 0] κ Q) : K X d MX9_isLetter 16 [(0, vI x0)] [] κ Q := by
  refine K_p (pc2 := 17) (lv2 := [(0, vI _)]) (st2 := [vI _]) (fun ad S Q _ k => V_iconst (x := 0) (pc2 := 17) (dk D_X9_isLetter 8 rfl) (by decide) rfl k) ?_
  exact h
theorem k_9_isLetter_17 {X : Cx} {d : Nat} {κ : Km} {Q : Res → Km → Prop} (x0 : Int32) (t0 : Int32) (h : (t0 = 0 ∨ t0 = 1) ∧ Q (.inl (some (vI t0))) κ) : K X d MX9_isLetter 17 [(0, vI x0)] [vI t0] κ Q := by
  obtain ⟨h1, h⟩ := h
  exact K_ret (r := .inl (some (vI _))) (fun ad S Q _ k => V_zreturn (dk D_X9_isLetter 9 rfl) rfl h1 k) h
theorem k_9_isFigure_0 {X : Cx} {d : Nat} {κ : Km} {Q : Res → Km → Prop} (x0 : Int32) (h : ((x0 < 48 → K X d MX9_isFigure 16 [(0, vI x0)] [] κ Q) ∧ (¬ x0 < 48 → ((57 < x0 → K X d MX9_isFigure 16 [(0, vI x0)] [] κ Q) ∧ (¬ 57 < x0 → K X d MX9_isFigure 17 [(0, vI x0)] [vI 1] κ Q))))) : K X d MX9_isFigure 0 [(0, vI x0)] [] κ Q := by
  refine K_p (pc2 := 1) (lv2 := [(0, vI _)]) (st2 := [vI _]) (fun ad S Q _ k => V_iload_n (pc2 := 1) (dk D_X9_isFigure 0 rfl) rfl (V_lg 0 rfl) rfl k) ?_
  refine K_p (pc2 := 3) (lv2 := [(0, vI _)]) (st2 := [vI _, vI _]) (fun ad S Q _ k => V_bipush (x := 48) (pc2 := 3) (dk D_X9_isFigure 1 rfl) (by decide) rfl k) ?_
  refine K_if (pa := 16) (pb := 6) (lv2 := [(0, vI _)]) (st2 := []) (fun ad S Q _ k1 k2 => V_cmplt (tgt := 16) (pc2 := 6) (dk D_X9_isFigure 2 rfl) (by decide) rfl (fun q => k1 q) (fun q => k2 q)) (fun q1 => ?_) (fun q1 => ?_)
  · have h := h.1 q1
    exact h
  · have h := h.2 q1
    refine K_p (pc2 := 7) (lv2 := [(0, vI _)]) (st2 := [vI _]) (fun ad S Q _ k => V_iload_n (pc2 := 7) (dk D_X9_isFigure 3 rfl) rfl (V_lg 0 rfl) rfl k) ?_
    refine K_p (pc2 := 9) (lv2 := [(0, vI _)]) (st2 := [vI _, vI _]) (fun ad S Q _ k => V_bipush (x := 57) (pc2 := 9) (dk D_X9_isFigure 4 rfl) (by decide) rfl k) ?_
    refine K_if (pa := 16) (pb := 12) (lv2 := [(0, vI _)]) (st2 := []) (fun ad S Q _ k1 k2 => V_cmpgt (tgt := 16) (pc2 := 12) (dk D_X9_isFigure 5 rfl) (by decide) rfl (fun q => k1 q) (fun q => k2 q)) (fun q2 => ?_) (fun q2 => ?_)
    · have h := h.1 q2
      exact h
    · have h := h.2 q2
      refine K_p (pc2 := 13) (lv2 := [(0, vI _)]) (st2 := [vI _]) (fun ad S Q _ k => V_iconst (x := 1) (pc2 := 13) (dk D_X9_isFigure 6 rfl) (by decide) rfl k) ?_
      refine K_p (pc2 := 17) (lv2 := [(0, vI _)]) (st2 := [vI _]) (fun ad S Q _ k => V_goto (tgt := 17) (dk D_X9_isFigure 7 rfl) (by decide) k) ?_
      exact h
theorem k_9_isFigure_16 {X : Cx} {d : Nat} {κ : Km} {Q : Res → Km → Prop} (x0 : Int32) (h : K X d MX9_isFigure 17 [(0, vI x0)] [vI 0] κ Q) : K X d MX9_isFigure 16 [(0, vI x0)] [] κ Q := by
  refine K_p (pc2 := 17) (lv2 := [(0, vI _)]) (st2 := [vI _]) (fun ad S Q _ k => V_iconst (x := 0) (pc2 := 17) (dk D_X9_isFigure 8 rfl) (by decide) rfl k) ?_
  exact h
theorem k_9_isFigure_17 {X : Cx} {d : Nat} {κ : Km} {Q : Res → Km → Prop} (x0 : Int32) (t0 : Int32) (h : (t0 = 0 ∨ t0 = 1) ∧ Q (.inl (some (vI t0))) κ) : K X d MX9_isFigure 17 [(0, vI x0)] [vI t0] κ Q := by
  obtain ⟨h1, h⟩ := h
  exact K_ret (r := .inl (some (vI _))) (fun ad S Q _ k => V_zreturn (dk D_X9_isFigure 9 rfl) rfl h1 k) h
