theorem k_6_make_0 {X : Cx} {d : Nat} {κ : Km} {Q : Res → Km → Prop} (x1 : Int32) (x2 : Int32) (x3 : Int32) (h : ∃ e1 : Nat, e1 + 1 ≤ d ∧ KC' X e1 MX6_isFull [vR 79] κ (kRI fun y4 κ5 => ((y4 = 0 → ∀ κ8 : Km, κ8 = cI κ5 79 10 ((kI κ5 79 10) + 1) → ∀ κ9 : Km, κ9 = cI κ8 79 11 ((kI κ8 79 11) + 1) → (vp_in (kI κ9 79 10) 61) ∧ ((if 1 ≤ ((kI κ9 79 10) : Int32).toNatClampNeg ∧ ((kI κ9 79 10) : Int32).toNatClampNeg ≤ kV κ9 then 1002 + 8 * ((kI κ9 79 10) : Int32).toNatClampNeg else 0) = 0 ∨ live κ9 (if 1 ≤ ((kI κ9 79 10) : Int32).toNatClampNeg ∧ ((kI κ9 79 10) : Int32).toNatClampNeg ≤ kV κ9 then 1002 + 8 * ((kI κ9 79 10) : Int32).toNatClampNeg else 0)) ∧ (((if 1 ≤ ((kI κ9 79 10) : Int32).toNatClampNeg ∧ ((kI κ9 79 10) : Int32).toNatClampNeg ≤ kV κ9 then 1002 + 8 * ((kI κ9 79 10) : Int32).toNatClampNeg else 0) = 0 → (2 ≤ d) ∧ (kV κ9 < 60) ∧ ((kI κ9 79 10) = nI (kV κ9 + 1)) ∧ ∀ κ16 : Km, κ16 = newV κ9 → K X d MX6_make 58 [(0, vR 79), (1, vI x1), (2, vI x2), (3, vI x3)] [] κ16 Q) ∧ (¬ ((if 1 ≤ ((kI κ9 79 10) : Int32).toNatClampNeg ∧ ((kI κ9 79 10) : Int32).toNatClampNeg ≤ kV κ9 then 1002 + 8 * ((kI κ9 79 10) : Int32).toNatClampNeg else 0) = 0) → K X d MX6_make 58 [(0, vR 79), (1, vI x1), (2, vI x2), (3, vI x3)] [] κ9 Q))) ∧ (¬ y4 = 0 → Q (.inl (some (vI (-9)))) κ5)))) : K X d MX6_make 0 [(0, vR 79), (1, vI x1), (2, vI x2), (3, vI x3)] [] κ Q := by
  refine K_p (pc2 := 1) (lv2 := [(0, vR 79), (1, vI _), (2, vI _), (3, vI _)]) (st2 := [vR 79]) (fun ad S Q _ k => V_aload_n (pc2 := 1) (dk D_X6_make 0 rfl) rfl (V_lg 0 rfl) rfl k) ?_
  obtain ⟨e1, he2, hc3⟩ := h
  refine K_call (as := [vR 79]) (st := []) (pc2 := 4) (okL.all _ ⟨(Or.inr ⟨Or.inl ⟨by decide, by decide⟩, by decide⟩), trivial, trivial, trivial, trivial⟩) (okS.all _ trivial) (fun ad S Q Qc hC hc k => V_callV (as := []) (st := []) (M' := MX6_isFull) (ci := 6) (pc2 := 4) (dk D_X6_make 1 rfl) ml_6_90 mv_X6_isFull rfl rfl (by decide) rfl (Nat.le_of_ble_eq_true rfl) rfl he2 (hC.k' (fixH 79 6 (by decide) rfl)) hc k) hc3 (kRI.k fun y4 κ5 h mo6 => ?_)
  refine K_if (pa := 10) (pb := 7) (lv2 := [(0, vR 79), (1, vI _), (2, vI _), (3, vI _)]) (st2 := []) (fun ad S Q _ k1 k2 => V_ifeq (tgt := 10) (pc2 := 7) (dk D_X6_make 2 rfl) (by decide) rfl (fun q => k1 q) (fun q => k2 q)) (fun q7 => ?_) (fun q7 => ?_)
  · have h := h.1 q7
    refine K_p (pc2 := 11) (lv2 := [(0, vR 79), (1, vI _), (2, vI _), (3, vI _)]) (st2 := [vR 79]) (fun ad S Q _ k => V_aload_n (pc2 := 11) (dk D_X6_make 5 rfl) rfl (V_lg 0 rfl) rfl k) ?_
    refine K_p (pc2 := 12) (lv2 := [(0, vR 79), (1, vI _), (2, vI _), (3, vI _)]) (st2 := [vR 79, vR 79]) (fun ad S Q _ k => V_dup (pc2 := 12) (dk D_X6_make 6 rfl) rfl rfl k) ?_
    refine K_getI kc6 (pc2 := 15) 10 (dk D_X6_make 7 rfl) fl_6_65 (by decide) (fun _ _ => rfl) rfl (fixH 79 6 (by decide) rfl) ?_
    refine K_p (pc2 := 16) (lv2 := [(0, vR 79), (1, vI _), (2, vI _), (3, vI _)]) (st2 := [vI _, vI _, vR 79]) (fun ad S Q _ k => V_iconst (x := 1) (pc2 := 16) (dk D_X6_make 8 rfl) (by decide) rfl k) ?_
    refine K_p (pc2 := 17) (lv2 := [(0, vR 79), (1, vI _), (2, vI _), (3, vI _)]) (st2 := [vI _, vR 79]) (fun ad S Q _ k => V_iadd (pc2 := 17) (dk D_X6_make 9 rfl) rfl k) ?_
    refine K_putI kc6 (pc2 := 20) 10 (dk D_X6_make 10 rfl) fl_6_65 (by decide) (Or.inl rfl) rfl rfl (fixH 79 6 (by decide) rfl) (by decide) ?_
    have h := h _ rfl
    refine K_p (pc2 := 21) (lv2 := [(0, vR 79), (1, vI _), (2, vI _), (3, vI _)]) (st2 := [vR 79]) (fun ad S Q _ k => V_aload_n (pc2 := 21) (dk D_X6_make 11 rfl) rfl (V_lg 0 rfl) rfl k) ?_
    refine K_p (pc2 := 22) (lv2 := [(0, vR 79), (1, vI _), (2, vI _), (3, vI _)]) (st2 := [vR 79, vR 79]) (fun ad S Q _ k => V_dup (pc2 := 22) (dk D_X6_make 12 rfl) rfl rfl k) ?_
    refine K_getI kc6 (pc2 := 25) 11 (dk D_X6_make 13 rfl) fl_6_68 (by decide) (fun _ _ => rfl) rfl (fixH 79 6 (by decide) rfl) ?_
    refine K_p (pc2 := 26) (lv2 := [(0, vR 79), (1, vI _), (2, vI _), (3, vI _)]) (st2 := [vI _, vI _, vR 79]) (fun ad S Q _ k => V_iconst (x := 1) (pc2 := 26) (dk D_X6_make 14 rfl) (by decide) rfl k) ?_
    refine K_p (pc2 := 27) (lv2 := [(0, vR 79), (1, vI _), (2, vI _), (3, vI _)]) (st2 := [vI _, vR 79]) (fun ad S Q _ k => V_iadd (pc2 := 27) (dk D_X6_make 15 rfl) rfl k) ?_
    refine K_putI kc6 (pc2 := 30) 11 (dk D_X6_make 16 rfl) fl_6_68 (by decide) (Or.inl rfl) rfl rfl (fixH 79 6 (by decide) rfl) (by decide) ?_
    have h := h _ rfl
    refine K_p (pc2 := 31) (lv2 := [(0, vR 79), (1, vI _), (2, vI _), (3, vI _)]) (st2 := [vR 79]) (fun ad S Q _ k => V_aload_n (pc2 := 31) (dk D_X6_make 17 rfl) rfl (V_lg 0 rfl) rfl k) ?_
    refine K_getF kc6 (h' := 89) (pc2 := 34) 5 (by decide) (dk D_X6_make 18 rfl) fl_6_30 (by decide) (fun _ _ => rfl) rfl (fixH 79 6 (by decide) rfl) (by decide) ?_
    refine K_p (pc2 := 35) (lv2 := [(0, vR 79), (1, vI _), (2, vI _), (3, vI _)]) (st2 := [vR 79, vR 89]) (fun ad S Q _ k => V_aload_n (pc2 := 35) (dk D_X6_make 19 rfl) rfl (V_lg 0 rfl) rfl k) ?_
    refine K_getI kc6 (pc2 := 38) 10 (dk D_X6_make 20 rfl) fl_6_65 (by decide) (fun _ _ => rfl) rfl (fixH 79 6 (by decide) rfl) ?_
    obtain ⟨h10, h⟩ := h
    refine K_aV (pc2 := 39) (dk D_X6_make 21 rfl) rfl h10 ?_
    obtain ⟨h12, h⟩ := h
    refine K_ifnonnull (tgt := 58) (pc2 := 42) (dk D_X6_make 22 rfl) (by decide) rfl h12 (fun q11 => ?_) (fun q11 => ?_)
    · have h := h.1 q11
      refine K_p (pc2 := 43) (lv2 := [(0, vR 79), (1, vI _), (2, vI _), (3, vI _)]) (st2 := [vR 79]) (fun ad S Q _ k => V_aload_n (pc2 := 43) (dk D_X6_make 23 rfl) rfl (V_lg 0 rfl) rfl k) ?_
      refine K_getF kc6 (h' := 89) (pc2 := 46) 5 (by decide) (dk D_X6_make 24 rfl) fl_6_30 (by decide) (fun _ _ => rfl) rfl (fixH 79 6 (by decide) rfl) (by decide) ?_
      refine K_p (pc2 := 47) (lv2 := [(0, vR 79), (1, vI _), (2, vI _), (3, vI _)]) (st2 := [vR 79, vR 89]) (fun ad S Q _ k => V_aload_n (pc2 := 47) (dk D_X6_make 25 rfl) rfl (V_lg 0 rfl) rfl k) ?_
      refine K_getI kc6 (pc2 := 50) 10 (dk D_X6_make 26 rfl) fl_6_65 (by decide) (fun _ _ => rfl) rfl (fixH 79 6 (by decide) rfl) ?_
      obtain ⟨h13, h⟩ := h
      obtain ⟨h14, h⟩ := h
      obtain ⟨h15, h⟩ := h
      refine K_newV (pc2 := 58) (okL.all _ ⟨(Or.inr ⟨Or.inl ⟨by decide, by decide⟩, by decide⟩), trivial, trivial, trivial, trivial⟩) (okS.all _ trivial) (dk D_X6_make 27 rfl) cl_6_28 (dk D_X6_make 28 rfl) (dk D_X6_make 29 rfl) ml_6_94 (dk D_X6_make 30 rfl) rfl (Nat.le_of_ble_eq_true rfl) h13 h14 h15 ?_
      have h := h _ rfl
      exact h
    · have h := h.2 q11
      exact h
  · have h := h.2 q7
    refine K_p (pc2 := 9) (lv2 := [(0, vR 79), (1, vI _), (2, vI _), (3, vI _)]) (st2 := [vI _]) (fun ad S Q _ k => V_bipush (x := (-9)) (pc2 := 9) (dk D_X6_make 3 rfl) (by decide) rfl k) ?_
    exact K_ret (r := .inl (some (vI _))) (fun ad S Q _ k => V_ireturn (dk D_X6_make 4 rfl) rfl k) h
theorem k_6_make_58 {X : Cx} {d : Nat} {κ : Km} {Q : Res → Km → Prop} (x1 : Int32) (x2 : Int32) (x3 : Int32) (h : (vp_in (kI κ 79 10) 61) ∧ (isH κ (if 1 ≤ ((kI κ 79 10) : Int32).toNatClampNeg ∧ ((kI κ 79 10) : Int32).toNatClampNeg ≤ kV κ then 1002 + 8 * ((kI κ 79 10) : Int32).toNatClampNeg else 0) 10) ∧ ∃ e2 : Nat, e2 + 1 ≤ d ∧ KC' X e2 MX10_reset [vR (if 1 ≤ ((kI κ 79 10) : Int32).toNatClampNeg ∧ ((kI κ 79 10) : Int32).toNatClampNeg ≤ kV κ then 1002 + 8 * ((kI κ 79 10) : Int32).toNatClampNeg else 0), vI (kI κ 79 10), vI x1, vI x2, vI x3] κ (kRV fun  κ6 => Q (.inl (some (vI (kI κ6 79 10)))) κ6)) : K X d MX6_make 58 [(0, vR 79), (1, vI x1), (2, vI x2), (3, vI x3)] [] κ Q := by
  refine K_p (pc2 := 59) (lv2 := [(0, vR 79), (1, vI _), (2, vI _), (3, vI _)]) (st2 := [vR 79]) (fun ad S Q _ k => V_aload_n (pc2 := 59) (dk D_X6_make 31 rfl) rfl (V_lg 0 rfl) rfl k) ?_
  refine K_getF kc6 (h' := 89) (pc2 := 62) 5 (by decide) (dk D_X6_make 32 rfl) fl_6_30 (by decide) (fun _ _ => rfl) rfl (fixH 79 6 (by decide) rfl) (by decide) ?_
  refine K_p (pc2 := 63) (lv2 := [(0, vR 79), (1, vI _), (2, vI _), (3, vI _)]) (st2 := [vR 79, vR 89]) (fun ad S Q _ k => V_aload_n (pc2 := 63) (dk D_X6_make 33 rfl) rfl (V_lg 0 rfl) rfl k) ?_
  refine K_getI kc6 (pc2 := 66) 10 (dk D_X6_make 34 rfl) fl_6_65 (by decide) (fun _ _ => rfl) rfl (fixH 79 6 (by decide) rfl) ?_
  obtain ⟨h1, h⟩ := h
  refine K_aV (pc2 := 67) (dk D_X6_make 35 rfl) rfl h1 ?_
  refine K_p (pc2 := 68) (lv2 := [(0, vR 79), (1, vI _), (2, vI _), (3, vI _)]) (st2 := [vR 79, vR _]) (fun ad S Q _ k => V_aload_n (pc2 := 68) (dk D_X6_make 36 rfl) rfl (V_lg 0 rfl) rfl k) ?_
  refine K_getI kc6 (pc2 := 71) 10 (dk D_X6_make 37 rfl) fl_6_65 (by decide) (fun _ _ => rfl) rfl (fixH 79 6 (by decide) rfl) ?_
  refine K_p (pc2 := 72) (lv2 := [(0, vR 79), (1, vI _), (2, vI _), (3, vI _)]) (st2 := [vI _, vI _, vR _]) (fun ad S Q _ k => V_iload_n (pc2 := 72) (dk D_X6_make 38 rfl) rfl (V_lg 1 rfl) rfl k) ?_
  refine K_p (pc2 := 73) (lv2 := [(0, vR 79), (1, vI _), (2, vI _), (3, vI _)]) (st2 := [vI _, vI _, vI _, vR _]) (fun ad S Q _ k => V_iload_n (pc2 := 73) (dk D_X6_make 39 rfl) rfl (V_lg 2 rfl) rfl k) ?_
  refine K_p (pc2 := 74) (lv2 := [(0, vR 79), (1, vI _), (2, vI _), (3, vI _)]) (st2 := [vI _, vI _, vI _, vI _, vR _]) (fun ad S Q _ k => V_iload_n (pc2 := 74) (dk D_X6_make 40 rfl) rfl (V_lg 3 rfl) rfl k) ?_
  obtain ⟨h5, h⟩ := h
  obtain ⟨e2, he3, hc4⟩ := h
  refine K_call (as := [vR _, vI _, vI _, vI _, vI _]) (st := []) (pc2 := 77) (okL.all _ ⟨(Or.inr ⟨Or.inl ⟨by decide, by decide⟩, by decide⟩), trivial, trivial, trivial, trivial⟩) (okS.all _ trivial) (fun ad S Q Qc hC hc k => V_callV (as := [_, _, _, _]) (st := []) (M' := MX10_reset) (ci := 10) (pc2 := 77) (dk D_X6_make 41 rfl) ml_6_95 mv_X10_reset rfl rfl (by decide) rfl (Nat.le_of_ble_eq_true rfl) rfl he3 (hC.k' h5) hc k) hc4 (kRV.k fun  κ6 h mo7 => ?_)
  refine K_p (pc2 := 78) (lv2 := [(0, vR 79), (1, vI _), (2, vI _), (3, vI _)]) (st2 := [vR 79]) (fun ad S Q _ k => V_aload_n (pc2 := 78) (dk D_X6_make 42 rfl) rfl (V_lg 0 rfl) rfl k) ?_
  refine K_getI kc6 (pc2 := 81) 10 (dk D_X6_make 43 rfl) fl_6_65 (by decide) (fun _ _ => rfl) rfl (fixH 79 6 (by decide) rfl) ?_
  exact K_ret (r := .inl (some (vI _))) (fun ad S Q _ k => V_ireturn (dk D_X6_make 44 rfl) rfl k) h
theorem k_6_give_0 {X : Cx} {d : Nat} {κ : Km} {Q : Res → Km → Prop} (x1 : Int32) (r2 : Nat) (x3 : Int32) (h : (isH κ r2 10) ∧ ∃ e2 : Nat, e2 + 1 ≤ d ∧ KC' X e2 MX4_add [vR 82, vI x1, vI (kI κ r2 0)] κ (kRV fun  κ5 => ∀ κ7 : Km, κ7 = cI κ5 79 13 (kI κ5 r2 0) → ∃ e8 : Nat, e8 + 1 ≤ d ∧ KC' X e8 MX7_at [vR 67, vI (kI κ7 r2 2)] κ7 (kRR fun p11 κ12 => (((kI κ12 r2 1) = 1 → (isH κ12 p11 0) ∧ ∃ e15 : Nat, e15 + 1 ≤ d ∧ KC' X e15 MX10_push [vR r2, vI x3] κ12 (kRV fun  κ19 => K X d MX6_give 68 [(0, vR 79), (1, vI x1), (2, vR r2), (3, vI x3), (4, vR p11)] [] κ19 Q)) ∧ (¬ (kI κ12 r2 1) = 1 → (p11 = 0 ∨ live κ12 p11) ∧ ((p11 = 0 → K X d MX6_give 68 [(0, vR 79), (1, vI x1), (2, vR r2), (3, vI x3), (4, vR p11)] [] κ12 Q) ∧ (¬ p11 = 0 → (2 ≤ d) ∧ (isH κ12 p11 0) ∧ ∃ n24 s25 : Nat, r2 = 1002 + 8 * n24 ∧ 1 ≤ n24 ∧ n24 ≤ kV κ12 ∧ kW κ12 (1003 + 8 * n24) = 0 ∧ kI κ12 79 8 = nI s25 ∧ s25 ≤ 12 ∧ (s25 ≠ 0 → kW κ12 (1004 + 8 * (s25 - 1)) ≠ 0 ∧ kW κ12 (1004 + 8 * (s25 - 1)) < 2147483648) ∧ ∀ κ34 : Km, κ34 = begK κ12 n24 s25 → ∃ e35 : Nat, e35 + 1 ≤ d ∧ KC' X e35 MX10_enter [vR r2, vR p11] κ34 (kRV fun  κ38 => K X d MX6_give 68 [(0, vR 79), (1, vI x1), (2, vR r2), (3, vI x3), (4, vR p11)] [] κ38 Q)))))))) : K X d MX6_give 0 [(0, vR 79), (1, vI x1), (2, vR r2), (3, vI x3)] [] κ Q := by
  refine K_p (pc2 := 1) (lv2 := [(0, vR 79), (1, vI _), (2, vR _), (3, vI _)]) (st2 := [vR 79]) (fun ad S Q _ k => V_aload_n (pc2 := 1) (dk D_X6_give 0 rfl) rfl (V_lg 0 rfl) rfl k) ?_
  refine K_getF kc6 (h' := 82) (pc2 := 4) 1 (by decide) (dk D_X6_give 1 rfl) fl_6_18 (by decide) (fun _ _ => rfl) rfl (fixH 79 6 (by decide) rfl) (by decide) ?_
  refine K_p (pc2 := 5) (lv2 := [(0, vR 79), (1, vI _), (2, vR _), (3, vI _)]) (st2 := [vI _, vR 82]) (fun ad S Q _ k => V_iload_n (pc2 := 5) (dk D_X6_give 2 rfl) rfl (V_lg 1 rfl) rfl k) ?_
  refine K_p (pc2 := 6) (lv2 := [(0, vR 79), (1, vI _), (2, vR _), (3, vI _)]) (st2 := [vR _, vI _, vR 82]) (fun ad S Q _ k => V_aload_n (pc2 := 6) (dk D_X6_give 3 rfl) rfl (V_lg 2 rfl) rfl k) ?_
  obtain ⟨h1, h⟩ := h
  refine K_getI kc10 (pc2 := 9) 0 (dk D_X6_give 4 rfl) fl_6_198 (by decide) (fun _ _ => rfl) rfl h1 ?_
  obtain ⟨e2, he3, hc4⟩ := h
  refine K_call (as := [vR 82, vI _, vI _]) (st := []) (pc2 := 12) (okL.all _ ⟨(Or.inr ⟨Or.inl ⟨by decide, by decide⟩, by decide⟩), trivial, (isH.ok h1 (by decide)), trivial, trivial⟩) (okS.all _ trivial) (fun ad S Q Qc hC hc k => V_callV (as := [_, _]) (st := []) (M' := MX4_add) (ci := 4) (pc2 := 12) (dk D_X6_give 5 rfl) ml_6_215 mv_X4_add rfl rfl (by decide) rfl (Nat.le_of_ble_eq_true rfl) rfl he3 (hC.k' (fixH 82 4 (by decide) rfl)) hc k) hc4 (kRV.k fun  κ5 h mo6 => ?_)
  refine K_p (pc2 := 13) (lv2 := [(0, vR 79), (1, vI _), (2, vR _), (3, vI _)]) (st2 := [vR 79]) (fun ad S Q _ k => V_aload_n (pc2 := 13) (dk D_X6_give 6 rfl) rfl (V_lg 0 rfl) rfl k) ?_
  refine K_p (pc2 := 14) (lv2 := [(0, vR 79), (1, vI _), (2, vR _), (3, vI _)]) (st2 := [vR _, vR 79]) (fun ad S Q _ k => V_aload_n (pc2 := 14) (dk D_X6_give 7 rfl) rfl (V_lg 2 rfl) rfl k) ?_
  refine K_getI kc10 (pc2 := 17) 0 (dk D_X6_give 8 rfl) fl_6_198 (by decide) (fun _ _ => rfl) rfl (isH.mo h1 (by decide) mo6) ?_
  refine K_putI kc6 (pc2 := 20) 13 (dk D_X6_give 9 rfl) fl_6_74 (by decide) (Or.inl rfl) rfl rfl (fixH 79 6 (by decide) rfl) (by decide) ?_
  have h := h _ rfl
  refine K_p (pc2 := 21) (lv2 := [(0, vR 79), (1, vI _), (2, vR _), (3, vI _)]) (st2 := [vR 79]) (fun ad S Q _ k => V_aload_n (pc2 := 21) (dk D_X6_give 10 rfl) rfl (V_lg 0 rfl) rfl k) ?_
  refine K_getF kc6 (h' := 67) (pc2 := 24) 3 (by decide) (dk D_X6_give 11 rfl) fl_6_43 (by decide) (fun _ _ => rfl) rfl (fixH 79 6 (by decide) rfl) (by decide) ?_
  refine K_p (pc2 := 25) (lv2 := [(0, vR 79), (1, vI _), (2, vR _), (3, vI _)]) (st2 := [vR _, vR 67]) (fun ad S Q _ k => V_aload_n (pc2 := 25) (dk D_X6_give 12 rfl) rfl (V_lg 2 rfl) rfl k) ?_
  refine K_getI kc10 (pc2 := 28) 2 (dk D_X6_give 13 rfl) fl_6_276 (by decide) (fun _ _ => rfl) rfl (isH.mo h1 (by decide) mo6) ?_
  obtain ⟨e8, he9, hc10⟩ := h
  refine K_call (as := [vR 67, vI _]) (st := []) (pc2 := 31) (okL.all _ ⟨(Or.inr ⟨Or.inl ⟨by decide, by decide⟩, by decide⟩), trivial, (isH.ok (isH.mo h1 (by decide) mo6) (by decide)), trivial, trivial⟩) (okS.all _ trivial) (fun ad S Q Qc hC hc k => V_callV (as := [_]) (st := []) (M' := MX7_at) (ci := 7) (pc2 := 31) (dk D_X6_give 14 rfl) ml_6_256 mv_X7_at rfl rfl (by decide) rfl (Nat.le_of_ble_eq_true rfl) rfl he9 (hC.k' (fixH 67 7 (by decide) rfl)) hc k) hc10 (kRR.k fun p11 κ12 h mo13 => ?_)
  refine K_p (pc2 := 33) (lv2 := [(0, vR 79), (1, vI _), (2, vR _), (3, vI _), (4, vR _)]) (st2 := []) (fun ad S Q _ k => V_astore (pc2 := 33) (lv2 := [(0, _), (1, _), (2, _), (3, _), (4, _)]) (dk D_X6_give 15 rfl) (by decide) rfl rfl k) ?_
  refine K_p (pc2 := 34) (lv2 := [(0, vR 79), (1, vI _), (2, vR _), (3, vI _), (4, vR _)]) (st2 := [vR _]) (fun ad S Q _ k => V_aload_n (pc2 := 34) (dk D_X6_give 16 rfl) rfl (V_lg 2 rfl) rfl k) ?_
  refine K_getI kc10 (pc2 := 37) 1 (dk D_X6_give 17 rfl) fl_6_131 (by decide) (fun _ _ => rfl) rfl (isH.mo (isH.mo h1 (by decide) mo6) (by decide) mo13) ?_
  refine K_p (pc2 := 38) (lv2 := [(0, vR 79), (1, vI _), (2, vR _), (3, vI _), (4, vR _)]) (st2 := [vI _, vI _]) (fun ad S Q _ k => V_iconst (x := 1) (pc2 := 38) (dk D_X6_give 18 rfl) (by decide) rfl k) ?_
  refine K_if (pa := 41) (pb := 49) (lv2 := [(0, vR 79), (1, vI _), (2, vR _), (3, vI _), (4, vR _)]) (st2 := []) (fun ad S Q _ k1 k2 => V_cmpne (tgt := 49) (pc2 := 41) (dk D_X6_give 19 rfl) (by decide) rfl (fun q => k2 q) (fun q => k1 q)) (fun q14 => ?_) (fun q14 => ?_)
  · have h := h.1 q14
    refine K_p (pc2 := 42) (lv2 := [(0, vR 79), (1, vI _), (2, vR _), (3, vI _), (4, vR _)]) (st2 := [vR _]) (fun ad S Q _ k => V_aload_n (pc2 := 42) (dk D_X6_give 20 rfl) rfl (V_lg 2 rfl) rfl k) ?_
    refine K_p (pc2 := 43) (lv2 := [(0, vR 79), (1, vI _), (2, vR _), (3, vI _), (4, vR _)]) (st2 := [vI _, vR _]) (fun ad S Q _ k => V_iload_n (pc2 := 43) (dk D_X6_give 21 rfl) rfl (V_lg 3 rfl) rfl k) ?_
    obtain ⟨h18, h⟩ := h
    obtain ⟨e15, he16, hc17⟩ := h
    refine K_call (as := [vR _, vI _]) (st := []) (pc2 := 46) (okL.all _ ⟨(Or.inr ⟨Or.inl ⟨by decide, by decide⟩, by decide⟩), trivial, (isH.ok (isH.mo (isH.mo h1 (by decide) mo6) (by decide) mo13) (by decide)), trivial, (isH.ok h18 (by decide)), trivial⟩) (okS.all _ trivial) (fun ad S Q Qc hC hc k => V_callV (as := [_]) (st := []) (M' := MX10_push) (ci := 10) (pc2 := 46) (dk D_X6_give 22 rfl) ml_6_223 mv_X10_push rfl rfl (by decide) rfl (Nat.le_of_ble_eq_true rfl) rfl he16 (hC.k' (isH.mo (isH.mo h1 (by decide) mo6) (by decide) mo13)) hc k) hc17 (kRV.k fun  κ19 h mo20 => ?_)
    refine K_p (pc2 := 68) (lv2 := [(0, vR 79), (1, vI _), (2, vR _), (3, vI _), (4, vR _)]) (st2 := []) (fun ad S Q _ k => V_goto (tgt := 68) (dk D_X6_give 23 rfl) (by decide) k) ?_
    exact h
  · have h := h.2 q14
    refine K_p (pc2 := 51) (lv2 := [(0, vR 79), (1, vI _), (2, vR _), (3, vI _), (4, vR _)]) (st2 := [vR _]) (fun ad S Q _ k => V_aload (pc2 := 51) (dk D_X6_give 24 rfl) (V_lg 4 rfl) rfl k) ?_
    obtain ⟨h22, h⟩ := h
    refine K_ifnull (tgt := 68) (pc2 := 54) (dk D_X6_give 25 rfl) (by decide) rfl h22 (fun q21 => ?_) (fun q21 => ?_)
    · have h := h.1 q21
      exact h
    · have h := h.2 q21
      refine K_p (pc2 := 55) (lv2 := [(0, vR 79), (1, vI _), (2, vR _), (3, vI _), (4, vR _)]) (st2 := [vR _]) (fun ad S Q _ k => V_aload_n (pc2 := 55) (dk D_X6_give 26 rfl) rfl (V_lg 2 rfl) rfl k) ?_
      refine K_p (pc2 := 56) (lv2 := [(0, vR 79), (1, vI _), (2, vR _), (3, vI _), (4, vR _)]) (st2 := [vR 79, vR _]) (fun ad S Q _ k => V_aload_n (pc2 := 56) (dk D_X6_give 27 rfl) rfl (V_lg 0 rfl) rfl k) ?_
      obtain ⟨h23, h⟩ := h
      obtain ⟨h26, h⟩ := h
      obtain ⟨n24, s25, rfl, hb27, hb28, hb29, hb30, hb31, hb32, h⟩ := h
      refine K_begin (n := n24) (s := s25) (pc2 := 62) (okL.all _ ⟨(Or.inr ⟨Or.inl ⟨by decide, by decide⟩, by decide⟩), trivial, (isH.ok (isH.mo (isH.mo h1 (by decide) mo6) (by decide) mo13) (by decide)), trivial, (isH.ok h26 (by decide)), trivial⟩) (okS.all _ trivial) (dk D_X6_give 28 rfl) ml_6_279 (dk D_X6_give 29 rfl) ml_6_283 rfl h23 (Nat.le_of_ble_eq_true rfl) hb27 hb28 hb29 hb30 hb31 hb32 ?_
      have h := h _ rfl
      refine K_p (pc2 := 63) (lv2 := [(0, vR 79), (1, vI _), (2, vR _), (3, vI _), (4, vR _)]) (st2 := [vR _]) (fun ad S Q _ k => V_aload_n (pc2 := 63) (dk D_X6_give 30 rfl) rfl (V_lg 2 rfl) rfl k) ?_
      refine K_p (pc2 := 65) (lv2 := [(0, vR 79), (1, vI _), (2, vR _), (3, vI _), (4, vR _)]) (st2 := [vR _, vR _]) (fun ad S Q _ k => V_aload (pc2 := 65) (dk D_X6_give 31 rfl) (V_lg 4 rfl) rfl k) ?_
      obtain ⟨e35, he36, hc37⟩ := h
      refine K_call (as := [vR _, vR _]) (st := []) (pc2 := 68) (okL.all _ ⟨(Or.inr ⟨Or.inl ⟨by decide, by decide⟩, by decide⟩), trivial, (isH.ok (isH.mo (isH.mo (isH.mo h1 (by decide) mo6) (by decide) mo13) (by decide) begK_mo) (by decide)), trivial, (isH.ok (isH.mo h26 (by decide) begK_mo) (by decide)), trivial⟩) (okS.all _ trivial) (fun ad S Q Qc hC hc k => V_callV (as := [_]) (st := []) (M' := MX10_enter) (ci := 10) (pc2 := 68) (dk D_X6_give 32 rfl) ml_6_263 mv_X10_enter rfl rfl (by decide) rfl (Nat.le_of_ble_eq_true rfl) rfl he36 (hC.k' (isH.mo (isH.mo (isH.mo h1 (by decide) mo6) (by decide) mo13) (by decide) begK_mo)) hc k) hc37 (kRV.k fun  κ38 h mo39 => ?_)
      exact h
theorem k_6_give_68 {X : Cx} {d : Nat} {κ : Km} {Q : Res → Km → Prop} (x1 : Int32) (r2 : Nat) (x3 : Int32) (r4 : Nat) (h : (isH κ r2 10) ∧ ∀ κ2 : Km, κ2 = cI κ r2 1 2 → Q (.inl none) κ2) : K X d MX6_give 68 [(0, vR 79), (1, vI x1), (2, vR r2), (3, vI x3), (4, vR r4)] [] κ Q := by
  refine K_p (pc2 := 69) (lv2 := [(0, vR 79), (1, vI _), (2, vR _), (3, vI _), (4, vR _)]) (st2 := [vR _]) (fun ad S Q _ k => V_aload_n (pc2 := 69) (dk D_X6_give 33 rfl) rfl (V_lg 2 rfl) rfl k) ?_
  refine K_p (pc2 := 70) (lv2 := [(0, vR 79), (1, vI _), (2, vR _), (3, vI _), (4, vR _)]) (st2 := [vI _, vR _]) (fun ad S Q _ k => V_iconst (x := 2) (pc2 := 70) (dk D_X6_give 34 rfl) (by decide) rfl k) ?_
  obtain ⟨h1, h⟩ := h
  refine K_putI kc10 (pc2 := 73) 1 (dk D_X6_give 35 rfl) fl_6_131 (by decide) (Or.inl rfl) rfl rfl h1 (isH.n69 h1 (by decide)) ?_
  have h := h _ rfl
  exact K_ret (r := .inl none) (fun ad S Q _ k => V_return (dk D_X6_give 36 rfl) rfl k) h
