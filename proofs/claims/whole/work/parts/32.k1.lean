theorem k_0_begin_0 {X : Cx} {d : Nat} {κ : Km} {Q : Res → Km → Prop} (r0 : Nat) (x1 : Int32) (l2 : Int64) (x4 : Int32) (x5 : Int32) (h : (isH κ r0 0) ∧ (x1 = 0 ∨ x1 = 1) ∧ ∀ κ3 : Km, κ3 = cI κ r0 2 x1 → ∀ κ4 : Km, κ4 = cL κ3 r0 1 l2 → ∀ κ5 : Km, κ5 = cI κ4 r0 3 x4 → ∀ κ6 : Km, κ6 = cI κ5 r0 4 0 → ∀ κ7 : Km, κ7 = cI κ6 r0 5 0 → ∀ κ8 : Km, κ8 = cI κ7 r0 6 x5 → ∀ κ9 : Km, κ9 = cI κ8 r0 7 x5 → ∀ κ10 : Km, κ10 = cI κ9 r0 8 (-9) → Q (.inl none) κ10) : K X d MX0_begin 0 [(0, vR r0), (1, vI x1), (2, vL l2), (4, vI x4), (5, vI x5)] [] κ Q := by
  refine K_p (pc2 := 1) (lv2 := [(0, vR _), (1, vI _), (2, vL _), (4, vI _), (5, vI _)]) (st2 := [vR _]) (fun ad S Q _ k => V_aload_n (pc2 := 1) (dk D_X0_begin 0 rfl) rfl (V_lg 0 rfl) rfl k) ?_
  refine K_p (pc2 := 2) (lv2 := [(0, vR _), (1, vI _), (2, vL _), (4, vI _), (5, vI _)]) (st2 := [vI _, vR _]) (fun ad S Q _ k => V_iload_n (pc2 := 2) (dk D_X0_begin 1 rfl) rfl (V_lg 1 rfl) rfl k) ?_
  obtain ⟨h1, h⟩ := h
  obtain ⟨h2, h⟩ := h
  refine K_putZ kc0 (pc2 := 5) 2 (dk D_X0_begin 2 rfl) fl_0_15 (by decide) (Or.inl rfl) rfl rfl h1 (isH.n69 h1 (by decide)) h2 ?_
  have h := h _ rfl
  refine K_p (pc2 := 6) (lv2 := [(0, vR _), (1, vI _), (2, vL _), (4, vI _), (5, vI _)]) (st2 := [vR _]) (fun ad S Q _ k => V_aload_n (pc2 := 6) (dk D_X0_begin 3 rfl) rfl (V_lg 0 rfl) rfl k) ?_
  refine K_p (pc2 := 7) (lv2 := [(0, vR _), (1, vI _), (2, vL _), (4, vI _), (5, vI _)]) (st2 := [vL _, vR _]) (fun ad S Q _ k => V_lload_n (pc2 := 7) (dk D_X0_begin 4 rfl) rfl (V_lg 2 rfl) rfl k) ?_
  refine K_putL kc0 (pc2 := 10) 1 (dk D_X0_begin 5 rfl) fl_0_19 (by decide) (Or.inl rfl) rfl rfl h1 ?_
  have h := h _ rfl
  refine K_p (pc2 := 11) (lv2 := [(0, vR _), (1, vI _), (2, vL _), (4, vI _), (5, vI _)]) (st2 := [vR _]) (fun ad S Q _ k => V_aload_n (pc2 := 11) (dk D_X0_begin 6 rfl) rfl (V_lg 0 rfl) rfl k) ?_
  refine K_p (pc2 := 13) (lv2 := [(0, vR _), (1, vI _), (2, vL _), (4, vI _), (5, vI _)]) (st2 := [vI _, vR _]) (fun ad S Q _ k => V_iload (pc2 := 13) (dk D_X0_begin 7 rfl) (V_lg 3 rfl) rfl k) ?_
  refine K_putI kc0 (pc2 := 16) 3 (dk D_X0_begin 8 rfl) fl_0_23 (by decide) (Or.inl rfl) rfl rfl h1 (isH.n69 h1 (by decide)) ?_
  have h := h _ rfl
  refine K_p (pc2 := 17) (lv2 := [(0, vR _), (1, vI _), (2, vL _), (4, vI _), (5, vI _)]) (st2 := [vR _]) (fun ad S Q _ k => V_aload_n (pc2 := 17) (dk D_X0_begin 9 rfl) rfl (V_lg 0 rfl) rfl k) ?_
  refine K_p (pc2 := 18) (lv2 := [(0, vR _), (1, vI _), (2, vL _), (4, vI _), (5, vI _)]) (st2 := [vI _, vR _]) (fun ad S Q _ k => V_iconst (x := 0) (pc2 := 18) (dk D_X0_begin 10 rfl) (by decide) rfl k) ?_
  refine K_putI kc0 (pc2 := 21) 4 (dk D_X0_begin 11 rfl) fl_0_27 (by decide) (Or.inl rfl) rfl rfl h1 (isH.n69 h1 (by decide)) ?_
  have h := h _ rfl
  refine K_p (pc2 := 22) (lv2 := [(0, vR _), (1, vI _), (2, vL _), (4, vI _), (5, vI _)]) (st2 := [vR _]) (fun ad S Q _ k => V_aload_n (pc2 := 22) (dk D_X0_begin 12 rfl) rfl (V_lg 0 rfl) rfl k) ?_
  refine K_p (pc2 := 23) (lv2 := [(0, vR _), (1, vI _), (2, vL _), (4, vI _), (5, vI _)]) (st2 := [vI _, vR _]) (fun ad S Q _ k => V_iconst (x := 0) (pc2 := 23) (dk D_X0_begin 13 rfl) (by decide) rfl k) ?_
  refine K_putI kc0 (pc2 := 26) 5 (dk D_X0_begin 14 rfl) fl_0_30 (by decide) (Or.inl rfl) rfl rfl h1 (isH.n69 h1 (by decide)) ?_
  have h := h _ rfl
  refine K_p (pc2 := 27) (lv2 := [(0, vR _), (1, vI _), (2, vL _), (4, vI _), (5, vI _)]) (st2 := [vR _]) (fun ad S Q _ k => V_aload_n (pc2 := 27) (dk D_X0_begin 15 rfl) rfl (V_lg 0 rfl) rfl k) ?_
  refine K_p (pc2 := 29) (lv2 := [(0, vR _), (1, vI _), (2, vL _), (4, vI _), (5, vI _)]) (st2 := [vI _, vR _]) (fun ad S Q _ k => V_iload (pc2 := 29) (dk D_X0_begin 16 rfl) (V_lg 4 rfl) rfl k) ?_
  refine K_putI kc0 (pc2 := 32) 6 (dk D_X0_begin 17 rfl) fl_0_33 (by decide) (Or.inl rfl) rfl rfl h1 (isH.n69 h1 (by decide)) ?_
  have h := h _ rfl
  refine K_p (pc2 := 33) (lv2 := [(0, vR _), (1, vI _), (2, vL _), (4, vI _), (5, vI _)]) (st2 := [vR _]) (fun ad S Q _ k => V_aload_n (pc2 := 33) (dk D_X0_begin 18 rfl) rfl (V_lg 0 rfl) rfl k) ?_
  refine K_p (pc2 := 35) (lv2 := [(0, vR _), (1, vI _), (2, vL _), (4, vI _), (5, vI _)]) (st2 := [vI _, vR _]) (fun ad S Q _ k => V_iload (pc2 := 35) (dk D_X0_begin 19 rfl) (V_lg 4 rfl) rfl k) ?_
  refine K_putI kc0 (pc2 := 38) 7 (dk D_X0_begin 20 rfl) fl_0_36 (by decide) (Or.inl rfl) rfl rfl h1 (isH.n69 h1 (by decide)) ?_
  have h := h _ rfl
  refine K_p (pc2 := 39) (lv2 := [(0, vR _), (1, vI _), (2, vL _), (4, vI _), (5, vI _)]) (st2 := [vR _]) (fun ad S Q _ k => V_aload_n (pc2 := 39) (dk D_X0_begin 21 rfl) rfl (V_lg 0 rfl) rfl k) ?_
  refine K_p (pc2 := 41) (lv2 := [(0, vR _), (1, vI _), (2, vL _), (4, vI _), (5, vI _)]) (st2 := [vI _, vR _]) (fun ad S Q _ k => V_bipush (x := (-9)) (pc2 := 41) (dk D_X0_begin 22 rfl) (by decide) rfl k) ?_
  refine K_putI kc0 (pc2 := 44) 8 (dk D_X0_begin 23 rfl) fl_0_39 (by decide) (Or.inl rfl) rfl rfl h1 (isH.n69 h1 (by decide)) ?_
  have h := h _ rfl
  exact K_ret (r := .inl none) (fun ad S Q _ k => V_return (dk D_X0_begin 24 rfl) rfl k) h
theorem k_0_find_0 {X : Cx} {d : Nat} {κ : Km} {Q : Res → Km → Prop} (r0 : Nat) (l1 : Int64) (h : K X d MX0_find 2 [(0, vR r0), (1, vL l1), (3, vI 0)] [] κ Q) : K X d MX0_find 0 [(0, vR r0), (1, vL l1)] [] κ Q := by
  refine K_p (pc2 := 1) (lv2 := [(0, vR _), (1, vL _)]) (st2 := [vI _]) (fun ad S Q _ k => V_iconst (x := 0) (pc2 := 1) (dk D_X0_find 0 rfl) (by decide) rfl k) ?_
  refine K_p (pc2 := 2) (lv2 := [(0, vR _), (1, vL _), (3, vI _)]) (st2 := []) (fun ad S Q _ k => V_istore_n (pc2 := 2) (lv2 := [(0, _), (1, _), (3, _)]) (dk D_X0_find 1 rfl) rfl (by decide) rfl rfl k) ?_
  exact h
theorem k_0_find_2 {X : Cx} {d : Nat} {κ : Km} {Q : Res → Km → Prop} (r0 : Nat) (l1 : Int64) (x3 : Int32) (h : (isH κ r0 0) ∧ (((kI κ r0 5) ≤ x3 → K X d MX0_find 35 [(0, vR r0), (1, vL l1), (3, vI x3)] [] κ Q) ∧ (¬ (kI κ r0 5) ≤ x3 → ((12 ≤ x3 → K X d MX0_find 35 [(0, vR r0), (1, vL l1), (3, vI x3)] [] κ Q) ∧ (¬ 12 ≤ x3 → (isH κ (r0 + 1) 22) ∧ (vp_in x3 (kW κ (r0 + 1))) ∧ (((lg_cmp (kL κ (r0 + 1) (x3 : Int32).toNatClampNeg) l1) = 0 → Q (.inl (some (vI x3))) κ) ∧ (¬ (lg_cmp (kL κ (r0 + 1) (x3 : Int32).toNatClampNeg) l1) = 0 → K X d MX0_find 2 [(0, vR r0), (1, vL l1), (3, vI (x3 + 1))] [] κ Q))))))) : K X d MX0_find 2 [(0, vR r0), (1, vL l1), (3, vI x3)] [] κ Q := by
  refine K_p (pc2 := 3) (lv2 := [(0, vR _), (1, vL _), (3, vI _)]) (st2 := [vI _]) (fun ad S Q _ k => V_iload_n (pc2 := 3) (dk D_X0_find 2 rfl) rfl (V_lg 2 rfl) rfl k) ?_
  refine K_p (pc2 := 4) (lv2 := [(0, vR _), (1, vL _), (3, vI _)]) (st2 := [vR _, vI _]) (fun ad S Q _ k => V_aload_n (pc2 := 4) (dk D_X0_find 3 rfl) rfl (V_lg 0 rfl) rfl k) ?_
  obtain ⟨h1, h⟩ := h
  refine K_getI kc0 (pc2 := 7) 5 (dk D_X0_find 4 rfl) fl_0_30 (by decide) (fun _ _ => rfl) rfl h1 ?_
  refine K_if (pa := 35) (pb := 10) (lv2 := [(0, vR _), (1, vL _), (3, vI _)]) (st2 := []) (fun ad S Q _ k1 k2 => V_cmpge (tgt := 35) (pc2 := 10) (dk D_X0_find 5 rfl) (by decide) rfl (fun q => k1 q) (fun q => k2 q)) (fun q2 => ?_) (fun q2 => ?_)
  · have h := h.1 q2
    exact h
  · have h := h.2 q2
    refine K_p (pc2 := 11) (lv2 := [(0, vR _), (1, vL _), (3, vI _)]) (st2 := [vI _]) (fun ad S Q _ k => V_iload_n (pc2 := 11) (dk D_X0_find 6 rfl) rfl (V_lg 2 rfl) rfl k) ?_
    refine K_p (pc2 := 13) (lv2 := [(0, vR _), (1, vL _), (3, vI _)]) (st2 := [vI _, vI _]) (fun ad S Q _ k => V_bipush (x := 12) (pc2 := 13) (dk D_X0_find 7 rfl) (by decide) rfl k) ?_
    refine K_if (pa := 35) (pb := 16) (lv2 := [(0, vR _), (1, vL _), (3, vI _)]) (st2 := []) (fun ad S Q _ k1 k2 => V_cmpge (tgt := 35) (pc2 := 16) (dk D_X0_find 8 rfl) (by decide) rfl (fun q => k1 q) (fun q => k2 q)) (fun q3 => ?_) (fun q3 => ?_)
    · have h := h.1 q3
      exact h
    · have h := h.2 q3
      refine K_p (pc2 := 17) (lv2 := [(0, vR _), (1, vL _), (3, vI _)]) (st2 := [vR _]) (fun ad S Q _ k => V_aload_n (pc2 := 17) (dk D_X0_find 9 rfl) rfl (V_lg 0 rfl) rfl k) ?_
      refine K_getN (pc2 := 20) (dk D_X0_find 10 rfl) fl_0_11 rfl h1 ?_
      refine K_p (pc2 := 21) (lv2 := [(0, vR _), (1, vL _), (3, vI _)]) (st2 := [vI _, vR _]) (fun ad S Q _ k => V_iload_n (pc2 := 21) (dk D_X0_find 11 rfl) rfl (V_lg 2 rfl) rfl k) ?_
      obtain ⟨h4, h⟩ := h
      obtain ⟨h5, h⟩ := h
      refine K_lald (pc2 := 22) (dk D_X0_find 12 rfl) rfl h4 h5 ?_
      refine K_p (pc2 := 23) (lv2 := [(0, vR _), (1, vL _), (3, vI _)]) (st2 := [vL _, vL _]) (fun ad S Q _ k => V_lload_n (pc2 := 23) (dk D_X0_find 13 rfl) rfl (V_lg 1 rfl) rfl k) ?_
      refine K_p (pc2 := 24) (lv2 := [(0, vR _), (1, vL _), (3, vI _)]) (st2 := [vI _]) (fun ad S Q _ k => V_lcmp (pc2 := 24) (dk D_X0_find 14 rfl) rfl k) ?_
      refine K_if (pa := 27) (pb := 29) (lv2 := [(0, vR _), (1, vL _), (3, vI _)]) (st2 := []) (fun ad S Q _ k1 k2 => V_ifne (tgt := 29) (pc2 := 27) (dk D_X0_find 15 rfl) (by decide) rfl (fun q => k2 q) (fun q => k1 q)) (fun q6 => ?_) (fun q6 => ?_)
      · have h := h.1 q6
        refine K_p (pc2 := 28) (lv2 := [(0, vR _), (1, vL _), (3, vI _)]) (st2 := [vI _]) (fun ad S Q _ k => V_iload_n (pc2 := 28) (dk D_X0_find 16 rfl) rfl (V_lg 2 rfl) rfl k) ?_
        exact K_ret (r := .inl (some (vI _))) (fun ad S Q _ k => V_ireturn (dk D_X0_find 17 rfl) rfl k) h
      · have h := h.2 q6
        refine K_p (pc2 := 32) (lv2 := [(0, vR _), (1, vL _), (3, vI _)]) (st2 := []) (fun ad S Q _ k => V_iinc (y := _ + 1) (pc2 := 32) (lv2 := [(0, _), (1, _), (3, _)]) (dk D_X0_find 18 rfl) (V_lg 2 rfl) rfl (by decide) rfl rfl k) ?_
        refine K_p (pc2 := 2) (lv2 := [(0, vR _), (1, vL _), (3, vI _)]) (st2 := []) (fun ad S Q _ k => V_goto (tgt := 2) (dk D_X0_find 19 rfl) (by decide) k) ?_
        exact h
theorem k_0_find_35 {X : Cx} {d : Nat} {κ : Km} {Q : Res → Km → Prop} (r0 : Nat) (l1 : Int64) (x3 : Int32) (h : Q (.inl (some (vI (-9)))) κ) : K X d MX0_find 35 [(0, vR r0), (1, vL l1), (3, vI x3)] [] κ Q := by
  refine K_p (pc2 := 37) (lv2 := [(0, vR _), (1, vL _), (3, vI _)]) (st2 := [vI _]) (fun ad S Q _ k => V_bipush (x := (-9)) (pc2 := 37) (dk D_X0_find 20 rfl) (by decide) rfl k) ?_
  exact K_ret (r := .inl (some (vI _))) (fun ad S Q _ k => V_ireturn (dk D_X0_find 21 rfl) rfl k) h
theorem k_0_declare_0 {X : Cx} {d : Nat} {κ : Km} {Q : Res → Km → Prop} (r0 : Nat) (l1 : Int64) (x3 : Int32) (h : (isH κ r0 0) ∧ ∃ e1 : Nat, e1 + 1 ≤ d ∧ KC' X e1 MX0_find [vR r0, vL l1] κ (kRI fun y4 κ6 => ((y4 = (-9) → ((12 ≤ (kI κ6 r0 5) → (((kI κ6 r0 8) = (-9) → ∀ κ11 : Km, κ11 = cI κ6 r0 8 x3 → K X d MX0_declare 57 [(0, vR r0), (1, vL l1), (3, vI x3)] [] κ11 Q) ∧ (¬ (kI κ6 r0 8) = (-9) → K X d MX0_declare 57 [(0, vR r0), (1, vL l1), (3, vI x3)] [] κ6 Q))) ∧ (¬ 12 ≤ (kI κ6 r0 5) → (isH κ6 (r0 + 1) 22) ∧ (vp_in (kI κ6 r0 5) (kW κ6 (r0 + 1))) ∧ ∀ κ14 : Km, κ14 = cL κ6 (r0 + 1) (((kI κ6 r0 5) : Int32).toNatClampNeg) l1 → ∀ κ15 : Km, κ15 = cI κ14 r0 5 ((kI κ14 r0 5) + 1) → K X d MX0_declare 57 [(0, vR r0), (1, vL l1), (3, vI x3)] [] κ15 Q))) ∧ (¬ y4 = (-9) → Q (.inl none) κ6)))) : K X d MX0_declare 0 [(0, vR r0), (1, vL l1), (3, vI x3)] [] κ Q := by
  refine K_p (pc2 := 1) (lv2 := [(0, vR _), (1, vL _), (3, vI _)]) (st2 := [vR _]) (fun ad S Q _ k => V_aload_n (pc2 := 1) (dk D_X0_declare 0 rfl) rfl (V_lg 0 rfl) rfl k) ?_
  refine K_p (pc2 := 2) (lv2 := [(0, vR _), (1, vL _), (3, vI _)]) (st2 := [vL _, vR _]) (fun ad S Q _ k => V_lload_n (pc2 := 2) (dk D_X0_declare 1 rfl) rfl (V_lg 1 rfl) rfl k) ?_
  obtain ⟨h5, h⟩ := h
  obtain ⟨e1, he2, hc3⟩ := h
  refine K_call (as := [vR _, vL _]) (st := []) (pc2 := 5) (okL.all _ ⟨(isH.ok h5 (by decide)), trivial, trivial, trivial⟩) (okS.all _ trivial) (fun ad S Q Qc hC hc k => V_callV (as := [_]) (st := []) (M' := MX0_find) (ci := 0) (pc2 := 5) (dk D_X0_declare 2 rfl) ml_0_42 mv_X0_find rfl rfl (by decide) rfl (Nat.le_of_ble_eq_true rfl) rfl he2 (hC.k' h5) hc k) hc3 (kRI.k fun y4 κ6 h mo7 => ?_)
  refine K_p (pc2 := 7) (lv2 := [(0, vR _), (1, vL _), (3, vI _)]) (st2 := [vI _, vI _]) (fun ad S Q _ k => V_bipush (x := (-9)) (pc2 := 7) (dk D_X0_declare 3 rfl) (by decide) rfl k) ?_
  refine K_if (pa := 11) (pb := 10) (lv2 := [(0, vR _), (1, vL _), (3, vI _)]) (st2 := []) (fun ad S Q _ k1 k2 => V_cmpeq (tgt := 11) (pc2 := 10) (dk D_X0_declare 4 rfl) (by decide) rfl (fun q => k1 q) (fun q => k2 q)) (fun q8 => ?_) (fun q8 => ?_)
  · have h := h.1 q8
    refine K_p (pc2 := 12) (lv2 := [(0, vR _), (1, vL _), (3, vI _)]) (st2 := [vR _]) (fun ad S Q _ k => V_aload_n (pc2 := 12) (dk D_X0_declare 6 rfl) rfl (V_lg 0 rfl) rfl k) ?_
    refine K_getI kc0 (pc2 := 15) 5 (dk D_X0_declare 7 rfl) fl_0_30 (by decide) (fun _ _ => rfl) rfl (isH.mo h5 (by decide) mo7) ?_
    refine K_p (pc2 := 17) (lv2 := [(0, vR _), (1, vL _), (3, vI _)]) (st2 := [vI _, vI _]) (fun ad S Q _ k => V_bipush (x := 12) (pc2 := 17) (dk D_X0_declare 8 rfl) (by decide) rfl k) ?_
    refine K_if (pa := 43) (pb := 20) (lv2 := [(0, vR _), (1, vL _), (3, vI _)]) (st2 := []) (fun ad S Q _ k1 k2 => V_cmpge (tgt := 43) (pc2 := 20) (dk D_X0_declare 9 rfl) (by decide) rfl (fun q => k1 q) (fun q => k2 q)) (fun q9 => ?_) (fun q9 => ?_)
    · have h := h.1 q9
      refine K_p (pc2 := 44) (lv2 := [(0, vR _), (1, vL _), (3, vI _)]) (st2 := [vR _]) (fun ad S Q _ k => V_aload_n (pc2 := 44) (dk D_X0_declare 23 rfl) rfl (V_lg 0 rfl) rfl k) ?_
      refine K_getI kc0 (pc2 := 47) 8 (dk D_X0_declare 24 rfl) fl_0_39 (by decide) (fun _ _ => rfl) rfl (isH.mo h5 (by decide) mo7) ?_
      refine K_p (pc2 := 49) (lv2 := [(0, vR _), (1, vL _), (3, vI _)]) (st2 := [vI _, vI _]) (fun ad S Q _ k => V_bipush (x := (-9)) (pc2 := 49) (dk D_X0_declare 25 rfl) (by decide) rfl k) ?_
      refine K_if (pa := 52) (pb := 57) (lv2 := [(0, vR _), (1, vL _), (3, vI _)]) (st2 := []) (fun ad S Q _ k1 k2 => V_cmpne (tgt := 57) (pc2 := 52) (dk D_X0_declare 26 rfl) (by decide) rfl (fun q => k2 q) (fun q => k1 q)) (fun q10 => ?_) (fun q10 => ?_)
      · have h := h.1 q10
        refine K_p (pc2 := 53) (lv2 := [(0, vR _), (1, vL _), (3, vI _)]) (st2 := [vR _]) (fun ad S Q _ k => V_aload_n (pc2 := 53) (dk D_X0_declare 27 rfl) rfl (V_lg 0 rfl) rfl k) ?_
        refine K_p (pc2 := 54) (lv2 := [(0, vR _), (1, vL _), (3, vI _)]) (st2 := [vI _, vR _]) (fun ad S Q _ k => V_iload_n (pc2 := 54) (dk D_X0_declare 28 rfl) rfl (V_lg 2 rfl) rfl k) ?_
        refine K_putI kc0 (pc2 := 57) 8 (dk D_X0_declare 29 rfl) fl_0_39 (by decide) (Or.inl rfl) rfl rfl (isH.mo h5 (by decide) mo7) (isH.n69 (isH.mo h5 (by decide) mo7) (by decide)) ?_
        have h := h _ rfl
        exact h
      · have h := h.2 q10
        exact h
    · have h := h.2 q9
      refine K_p (pc2 := 21) (lv2 := [(0, vR _), (1, vL _), (3, vI _)]) (st2 := [vR _]) (fun ad S Q _ k => V_aload_n (pc2 := 21) (dk D_X0_declare 10 rfl) rfl (V_lg 0 rfl) rfl k) ?_
      refine K_getN (pc2 := 24) (dk D_X0_declare 11 rfl) fl_0_11 rfl (isH.mo h5 (by decide) mo7) ?_
      refine K_p (pc2 := 25) (lv2 := [(0, vR _), (1, vL _), (3, vI _)]) (st2 := [vR _, vR _]) (fun ad S Q _ k => V_aload_n (pc2 := 25) (dk D_X0_declare 12 rfl) rfl (V_lg 0 rfl) rfl k) ?_
      refine K_getI kc0 (pc2 := 28) 5 (dk D_X0_declare 13 rfl) fl_0_30 (by decide) (fun _ _ => rfl) rfl (isH.mo h5 (by decide) mo7) ?_
      refine K_p (pc2 := 29) (lv2 := [(0, vR _), (1, vL _), (3, vI _)]) (st2 := [vL _, vI _, vR _]) (fun ad S Q _ k => V_lload_n (pc2 := 29) (dk D_X0_declare 14 rfl) rfl (V_lg 1 rfl) rfl k) ?_
      obtain ⟨h12, h⟩ := h
      obtain ⟨h13, h⟩ := h
      refine K_last (pc2 := 30) (dk D_X0_declare 15 rfl) rfl h12 h13 ?_
      have h := h _ rfl
      refine K_p (pc2 := 31) (lv2 := [(0, vR _), (1, vL _), (3, vI _)]) (st2 := [vR _]) (fun ad S Q _ k => V_aload_n (pc2 := 31) (dk D_X0_declare 16 rfl) rfl (V_lg 0 rfl) rfl k) ?_
      refine K_p (pc2 := 32) (lv2 := [(0, vR _), (1, vL _), (3, vI _)]) (st2 := [vR _, vR _]) (fun ad S Q _ k => V_dup (pc2 := 32) (dk D_X0_declare 17 rfl) rfl rfl k) ?_
      refine K_getI kc0 (pc2 := 35) 5 (dk D_X0_declare 18 rfl) fl_0_30 (by decide) (fun _ _ => rfl) rfl (isH.mo h5 (by decide) mo7) ?_
      refine K_p (pc2 := 36) (lv2 := [(0, vR _), (1, vL _), (3, vI _)]) (st2 := [vI _, vI _, vR _]) (fun ad S Q _ k => V_iconst (x := 1) (pc2 := 36) (dk D_X0_declare 19 rfl) (by decide) rfl k) ?_
      refine K_p (pc2 := 37) (lv2 := [(0, vR _), (1, vL _), (3, vI _)]) (st2 := [vI _, vR _]) (fun ad S Q _ k => V_iadd (pc2 := 37) (dk D_X0_declare 20 rfl) rfl k) ?_
      refine K_putI kc0 (pc2 := 40) 5 (dk D_X0_declare 21 rfl) fl_0_30 (by decide) (Or.inl rfl) rfl rfl (isH.mo h5 (by decide) mo7) (isH.n69 (isH.mo h5 (by decide) mo7) (by decide)) ?_
      have h := h _ rfl
      refine K_p (pc2 := 57) (lv2 := [(0, vR _), (1, vL _), (3, vI _)]) (st2 := []) (fun ad S Q _ k => V_goto (tgt := 57) (dk D_X0_declare 22 rfl) (by decide) k) ?_
      exact h
  · have h := h.2 q8
    exact K_ret (r := .inl none) (fun ad S Q _ k => V_return (dk D_X0_declare 5 rfl) rfl k) h
theorem k_0_declare_57 {X : Cx} {d : Nat} {κ : Km} {Q : Res → Km → Prop} (r0 : Nat) (l1 : Int64) (x3 : Int32) (h : Q (.inl none) κ) : K X d MX0_declare 57 [(0, vR r0), (1, vL l1), (3, vI x3)] [] κ Q := by
  exact K_ret (r := .inl none) (fun ad S Q _ k => V_return (dk D_X0_declare 30 rfl) rfl k) h
theorem k_0_fact_0 {X : Cx} {d : Nat} {κ : Km} {Q : Res → Km → Prop} (r0 : Nat) (x1 : Int32) (h : ((x1 = 0 → (isH κ r0 0) ∧ (((kI κ r0 2) = 0 → K X d MX0_fact 44 [(0, vR r0), (1, vI x1)] [vI 0] κ Q) ∧ (¬ (kI κ r0 2) = 0 → K X d MX0_fact 44 [(0, vR r0), (1, vI x1)] [vI 1] κ Q))) ∧ (x1 = 1 → (isH κ r0 0) ∧ Q (.inl (some (vI (kI κ r0 4)))) κ) ∧ (x1 = 2 → (isH κ r0 0) ∧ Q (.inl (some (vI (kI κ r0 5)))) κ) ∧ (x1 = 3 → (isH κ r0 0) ∧ Q (.inl (some (vI (kI κ r0 3)))) κ) ∧ (¬ (x1 = 0 ∨ x1 = 1 ∨ x1 = 2 ∨ x1 = 3) → Q (.inl (some (vI (-1)))) κ))) : K X d MX0_fact 0 [(0, vR r0), (1, vI x1)] [] κ Q := by
  refine K_p (pc2 := 1) (lv2 := [(0, vR _), (1, vI _)]) (st2 := [vI _]) (fun ad S Q _ k => V_iload_n (pc2 := 1) (dk D_X0_fact 0 rfl) rfl (V_lg 1 rfl) rfl k) ?_
  refine K_table (dk D_X0_fact 1 rfl) [32, 45, 50, 55] 60 (by decide) (by decide) rfl (by decide) (fun q1 => ?_) (fun j2 hj q1 => ?_)
  · have h := h.2.2.2.2 (by rintro (hk | hk | hk | hk) <;> (rw [hk] at q1; revert q1; decide))
    refine K_p (pc2 := 61) (lv2 := [(0, vR _), (1, vI _)]) (st2 := [vI _]) (fun ad S Q _ k => V_iconst (x := (-1)) (pc2 := 61) (dk D_X0_fact 18 rfl) (by decide) rfl k) ?_
    exact K_ret (r := .inl (some (vI _))) (fun ad S Q _ k => V_ireturn (dk D_X0_fact 19 rfl) rfl k) h
  · have hj2 : j2 = 0 ∨ j2 = 1 ∨ j2 = 2 ∨ j2 = 3 := by simp at hj; omega
    clear hj
    rcases hj2 with rfl | rfl | rfl | rfl
    · have hx : x1 = 0 := Int32.toInt_inj.mp (by rw [q1]; decide)
      have h := h.1 hx
      refine K_p (pc2 := 33) (lv2 := [(0, vR _), (1, vI _)]) (st2 := [vR _]) (fun ad S Q _ k => V_aload_n (pc2 := 33) (dk D_X0_fact 2 rfl) rfl (V_lg 0 rfl) rfl k) ?_
      obtain ⟨h3, h⟩ := h
      refine K_getI kc0 (pc2 := 36) 2 (dk D_X0_fact 3 rfl) fl_0_15 (by decide) (fun _ _ => rfl) rfl h3 ?_
      refine K_if (pa := 43) (pb := 39) (lv2 := [(0, vR _), (1, vI _)]) (st2 := []) (fun ad S Q _ k1 k2 => V_ifeq (tgt := 43) (pc2 := 39) (dk D_X0_fact 4 rfl) (by decide) rfl (fun q => k1 q) (fun q => k2 q)) (fun q4 => ?_) (fun q4 => ?_)
      · have h := h.1 q4
        refine K_p (pc2 := 44) (lv2 := [(0, vR _), (1, vI _)]) (st2 := [vI _]) (fun ad S Q _ k => V_iconst (x := 0) (pc2 := 44) (dk D_X0_fact 7 rfl) (by decide) rfl k) ?_
        exact h
      · have h := h.2 q4
        refine K_p (pc2 := 40) (lv2 := [(0, vR _), (1, vI _)]) (st2 := [vI _]) (fun ad S Q _ k => V_iconst (x := 1) (pc2 := 40) (dk D_X0_fact 5 rfl) (by decide) rfl k) ?_
        refine K_p (pc2 := 44) (lv2 := [(0, vR _), (1, vI _)]) (st2 := [vI _]) (fun ad S Q _ k => V_goto (tgt := 44) (dk D_X0_fact 6 rfl) (by decide) k) ?_
        exact h
    · have hx : x1 = 1 := Int32.toInt_inj.mp (by rw [q1]; decide)
      have h := h.2.1 hx
      refine K_p (pc2 := 46) (lv2 := [(0, vR _), (1, vI _)]) (st2 := [vR _]) (fun ad S Q _ k => V_aload_n (pc2 := 46) (dk D_X0_fact 9 rfl) rfl (V_lg 0 rfl) rfl k) ?_
      obtain ⟨h5, h⟩ := h
      refine K_getI kc0 (pc2 := 49) 4 (dk D_X0_fact 10 rfl) fl_0_27 (by decide) (fun _ _ => rfl) rfl h5 ?_
      exact K_ret (r := .inl (some (vI _))) (fun ad S Q _ k => V_ireturn (dk D_X0_fact 11 rfl) rfl k) h
    · have hx : x1 = 2 := Int32.toInt_inj.mp (by rw [q1]; decide)
      have h := h.2.2.1 hx
      refine K_p (pc2 := 51) (lv2 := [(0, vR _), (1, vI _)]) (st2 := [vR _]) (fun ad S Q _ k => V_aload_n (pc2 := 51) (dk D_X0_fact 12 rfl) rfl (V_lg 0 rfl) rfl k) ?_
      obtain ⟨h6, h⟩ := h
      refine K_getI kc0 (pc2 := 54) 5 (dk D_X0_fact 13 rfl) fl_0_30 (by decide) (fun _ _ => rfl) rfl h6 ?_
      exact K_ret (r := .inl (some (vI _))) (fun ad S Q _ k => V_ireturn (dk D_X0_fact 14 rfl) rfl k) h
    · have hx : x1 = 3 := Int32.toInt_inj.mp (by rw [q1]; decide)
      have h := h.2.2.2.1 hx
      refine K_p (pc2 := 56) (lv2 := [(0, vR _), (1, vI _)]) (st2 := [vR _]) (fun ad S Q _ k => V_aload_n (pc2 := 56) (dk D_X0_fact 15 rfl) rfl (V_lg 0 rfl) rfl k) ?_
      obtain ⟨h7, h⟩ := h
      refine K_getI kc0 (pc2 := 59) 3 (dk D_X0_fact 16 rfl) fl_0_23 (by decide) (fun _ _ => rfl) rfl h7 ?_
      exact K_ret (r := .inl (some (vI _))) (fun ad S Q _ k => V_ireturn (dk D_X0_fact 17 rfl) rfl k) h
theorem k_0_fact_44 {X : Cx} {d : Nat} {κ : Km} {Q : Res → Km → Prop} (r0 : Nat) (x1 : Int32) (t0 : Int32) (h : Q (.inl (some (vI t0))) κ) : K X d MX0_fact 44 [(0, vR r0), (1, vI x1)] [vI t0] κ Q := by
  exact K_ret (r := .inl (some (vI _))) (fun ad S Q _ k => V_ireturn (dk D_X0_fact 8 rfl) rfl k) h
theorem k_2_clear_0 {X : Cx} {d : Nat} {κ : Km} {Q : Res → Km → Prop}  (h : ∀ κ1 : Km, κ1 = cI κ 84 1 1 → ∃ e2 : Nat, e2 + 1 ≤ d ∧ KC' X e2 MX2_comeOut [vR 84, vI 0] κ1 (kRV fun  κ5 => Q (.inl none) κ5)) : K X d MX2_clear 0 [(0, vR 84)] [] κ Q := by
  refine K_p (pc2 := 1) (lv2 := [(0, vR 84)]) (st2 := [vR 84]) (fun ad S Q _ k => V_aload_n (pc2 := 1) (dk D_X2_clear 0 rfl) rfl (V_lg 0 rfl) rfl k) ?_
  refine K_p (pc2 := 2) (lv2 := [(0, vR 84)]) (st2 := [vI _, vR 84]) (fun ad S Q _ k => V_iconst (x := 1) (pc2 := 2) (dk D_X2_clear 1 rfl) (by decide) rfl k) ?_
  refine K_putI kc2 (pc2 := 5) 1 (dk D_X2_clear 2 rfl) fl_2_24 (by decide) (Or.inl rfl) rfl rfl (fixH 84 2 (by decide) rfl) (by decide) ?_
  have h := h _ rfl
  refine K_p (pc2 := 6) (lv2 := [(0, vR 84)]) (st2 := [vR 84]) (fun ad S Q _ k => V_aload_n (pc2 := 6) (dk D_X2_clear 3 rfl) rfl (V_lg 0 rfl) rfl k) ?_
  refine K_p (pc2 := 7) (lv2 := [(0, vR 84)]) (st2 := [vI _, vR 84]) (fun ad S Q _ k => V_iconst (x := 0) (pc2 := 7) (dk D_X2_clear 4 rfl) (by decide) rfl k) ?_
  obtain ⟨e2, he3, hc4⟩ := h
  refine K_call (as := [vR 84, vI _]) (st := []) (pc2 := 10) (okL.all _ ⟨(Or.inr ⟨Or.inl ⟨by decide, by decide⟩, by decide⟩), trivial⟩) (okS.all _ trivial) (fun ad S Q Qc hC hc k => V_callV (as := [_]) (st := []) (M' := MX2_comeOut) (ci := 2) (pc2 := 10) (dk D_X2_clear 5 rfl) ml_2_28 mv_X2_comeOut rfl rfl (by decide) rfl (Nat.le_of_ble_eq_true rfl) rfl he3 (hC.k' (fixH 84 2 (by decide) rfl)) hc k) hc4 (kRV.k fun  κ5 h mo6 => ?_)
  exact K_ret (r := .inl none) (fun ad S Q _ k => V_return (dk D_X2_clear 6 rfl) rfl k) h
theorem k_2_comeOut_0 {X : Cx} {d : Nat} {κ : Km} {Q : Res → Km → Prop} (x1 : Int32) (h : ∀ κ1 : Km, κ1 = cI κ 84 2 x1 → ∀ κ2 : Km, κ2 = cI κ1 84 3 0 → Q (.inl none) κ2) : K X d MX2_comeOut 0 [(0, vR 84), (1, vI x1)] [] κ Q := by
  refine K_p (pc2 := 1) (lv2 := [(0, vR 84), (1, vI _)]) (st2 := [vR 84]) (fun ad S Q _ k => V_aload_n (pc2 := 1) (dk D_X2_comeOut 0 rfl) rfl (V_lg 0 rfl) rfl k) ?_
  refine K_p (pc2 := 2) (lv2 := [(0, vR 84), (1, vI _)]) (st2 := [vI _, vR 84]) (fun ad S Q _ k => V_iload_n (pc2 := 2) (dk D_X2_comeOut 1 rfl) rfl (V_lg 1 rfl) rfl k) ?_
  refine K_putI kc2 (pc2 := 5) 2 (dk D_X2_comeOut 2 rfl) fl_2_32 (by decide) (Or.inl rfl) rfl rfl (fixH 84 2 (by decide) rfl) (by decide) ?_
  have h := h _ rfl
  refine K_p (pc2 := 6) (lv2 := [(0, vR 84), (1, vI _)]) (st2 := [vR 84]) (fun ad S Q _ k => V_aload_n (pc2 := 6) (dk D_X2_comeOut 3 rfl) rfl (V_lg 0 rfl) rfl k) ?_
  refine K_p (pc2 := 7) (lv2 := [(0, vR 84), (1, vI _)]) (st2 := [vI _, vR 84]) (fun ad S Q _ k => V_iconst (x := 0) (pc2 := 7) (dk D_X2_comeOut 4 rfl) (by decide) rfl k) ?_
  refine K_putZ kc2 (pc2 := 10) 3 (dk D_X2_comeOut 5 rfl) fl_2_35 (by decide) (Or.inl rfl) rfl rfl (fixH 84 2 (by decide) rfl) (by decide) (Or.inl rfl) ?_
  have h := h _ rfl
  exact K_ret (r := .inl none) (fun ad S Q _ k => V_return (dk D_X2_comeOut 6 rfl) rfl k) h
theorem k_2_putBeneath_0 {X : Cx} {d : Nat} {κ : Km} {Q : Res → Km → Prop} (x1 : Int32) (x2 : Int32) (h : ∃ e1 : Nat, e1 + 1 ≤ d ∧ KC' X e1 MX2_get [vR 84, vI x1, vI 6] κ (kRI fun y4 κ5 => ((y4 = 0 → ∃ e8 : Nat, e8 + 1 ≤ d ∧ KC' X e8 MX2_put [vR 84, vI x1, vI 5, vI x2] κ5 (kRV fun  κ11 => K X d MX2_putBeneath 30 [(0, vR 84), (1, vI x1), (2, vI x2), (3, vI y4)] [] κ11 Q)) ∧ (¬ y4 = 0 → ∃ e13 : Nat, e13 + 1 ≤ d ∧ KC' X e13 MX2_put [vR 84, vI y4, vI 7, vI x2] κ5 (kRV fun  κ16 => K X d MX2_putBeneath 30 [(0, vR 84), (1, vI x1), (2, vI x2), (3, vI y4)] [] κ16 Q))))) : K X d MX2_putBeneath 0 [(0, vR 84), (1, vI x1), (2, vI x2)] [] κ Q := by
  refine K_p (pc2 := 1) (lv2 := [(0, vR 84), (1, vI _), (2, vI _)]) (st2 := [vR 84]) (fun ad S Q _ k => V_aload_n (pc2 := 1) (dk D_X2_putBeneath 0 rfl) rfl (V_lg 0 rfl) rfl k) ?_
  refine K_p (pc2 := 2) (lv2 := [(0, vR 84), (1, vI _), (2, vI _)]) (st2 := [vI _, vR 84]) (fun ad S Q _ k => V_iload_n (pc2 := 2) (dk D_X2_putBeneath 1 rfl) rfl (V_lg 1 rfl) rfl k) ?_
  refine K_p (pc2 := 4) (lv2 := [(0, vR 84), (1, vI _), (2, vI _)]) (st2 := [vI _, vI _, vR 84]) (fun ad S Q _ k => V_bipush (x := 6) (pc2 := 4) (dk D_X2_putBeneath 2 rfl) (by decide) rfl k) ?_
  obtain ⟨e1, he2, hc3⟩ := h
  refine K_call (as := [vR 84, vI _, vI _]) (st := []) (pc2 := 7) (okL.all _ ⟨(Or.inr ⟨Or.inl ⟨by decide, by decide⟩, by decide⟩), trivial, trivial, trivial⟩) (okS.all _ trivial) (fun ad S Q Qc hC hc k => V_callV (as := [_, _]) (st := []) (M' := MX2_get) (ci := 2) (pc2 := 7) (dk D_X2_putBeneath 3 rfl) ml_2_45 mv_X2_get rfl rfl (by decide) rfl (Nat.le_of_ble_eq_true rfl) rfl he2 (hC.k' (fixH 84 2 (by decide) rfl)) hc k) hc3 (kRI.k fun y4 κ5 h mo6 => ?_)
  refine K_p (pc2 := 8) (lv2 := [(0, vR 84), (1, vI _), (2, vI _), (3, vI _)]) (st2 := []) (fun ad S Q _ k => V_istore_n (pc2 := 8) (lv2 := [(0, _), (1, _), (2, _), (3, _)]) (dk D_X2_putBeneath 4 rfl) rfl (by decide) rfl rfl k) ?_
  refine K_p (pc2 := 9) (lv2 := [(0, vR 84), (1, vI _), (2, vI _), (3, vI _)]) (st2 := [vI _]) (fun ad S Q _ k => V_iload_n (pc2 := 9) (dk D_X2_putBeneath 5 rfl) rfl (V_lg 3 rfl) rfl k) ?_
  refine K_if (pa := 12) (pb := 22) (lv2 := [(0, vR 84), (1, vI _), (2, vI _), (3, vI _)]) (st2 := []) (fun ad S Q _ k1 k2 => V_ifne (tgt := 22) (pc2 := 12) (dk D_X2_putBeneath 6 rfl) (by decide) rfl (fun q => k2 q) (fun q => k1 q)) (fun q7 => ?_) (fun q7 => ?_)
  · have h := h.1 q7
    refine K_p (pc2 := 13) (lv2 := [(0, vR 84), (1, vI _), (2, vI _), (3, vI _)]) (st2 := [vR 84]) (fun ad S Q _ k => V_aload_n (pc2 := 13) (dk D_X2_putBeneath 7 rfl) rfl (V_lg 0 rfl) rfl k) ?_
    refine K_p (pc2 := 14) (lv2 := [(0, vR 84), (1, vI _), (2, vI _), (3, vI _)]) (st2 := [vI _, vR 84]) (fun ad S Q _ k => V_iload_n (pc2 := 14) (dk D_X2_putBeneath 8 rfl) rfl (V_lg 1 rfl) rfl k) ?_
    refine K_p (pc2 := 15) (lv2 := [(0, vR 84), (1, vI _), (2, vI _), (3, vI _)]) (st2 := [vI _, vI _, vR 84]) (fun ad S Q _ k => V_iconst (x := 5) (pc2 := 15) (dk D_X2_putBeneath 9 rfl) (by decide) rfl k) ?_
    refine K_p (pc2 := 16) (lv2 := [(0, vR 84), (1, vI _), (2, vI _), (3, vI _)]) (st2 := [vI _, vI _, vI _, vR 84]) (fun ad S Q _ k => V_iload_n (pc2 := 16) (dk D_X2_putBeneath 10 rfl) rfl (V_lg 2 rfl) rfl k) ?_
    obtain ⟨e8, he9, hc10⟩ := h
    refine K_call (as := [vR 84, vI _, vI _, vI _]) (st := []) (pc2 := 19) (okL.all _ ⟨(Or.inr ⟨Or.inl ⟨by decide, by decide⟩, by decide⟩), trivial, trivial, trivial, trivial⟩) (okS.all _ trivial) (fun ad S Q Qc hC hc k => V_callV (as := [_, _, _]) (st := []) (M' := MX2_put) (ci := 2) (pc2 := 19) (dk D_X2_putBeneath 11 rfl) ml_2_49 mv_X2_put rfl rfl (by decide) rfl (Nat.le_of_ble_eq_true rfl) rfl he9 (hC.k' (fixH 84 2 (by decide) rfl)) hc k) hc10 (kRV.k fun  κ11 h mo12 => ?_)
    refine K_p (pc2 := 30) (lv2 := [(0, vR 84), (1, vI _), (2, vI _), (3, vI _)]) (st2 := []) (fun ad S Q _ k => V_goto (tgt := 30) (dk D_X2_putBeneath 12 rfl) (by decide) k) ?_
    exact h
  · have h := h.2 q7
    refine K_p (pc2 := 23) (lv2 := [(0, vR 84), (1, vI _), (2, vI _), (3, vI _)]) (st2 := [vR 84]) (fun ad S Q _ k => V_aload_n (pc2 := 23) (dk D_X2_putBeneath 13 rfl) rfl (V_lg 0 rfl) rfl k) ?_
    refine K_p (pc2 := 24) (lv2 := [(0, vR 84), (1, vI _), (2, vI _), (3, vI _)]) (st2 := [vI _, vR 84]) (fun ad S Q _ k => V_iload_n (pc2 := 24) (dk D_X2_putBeneath 14 rfl) rfl (V_lg 3 rfl) rfl k) ?_
    refine K_p (pc2 := 26) (lv2 := [(0, vR 84), (1, vI _), (2, vI _), (3, vI _)]) (st2 := [vI _, vI _, vR 84]) (fun ad S Q _ k => V_bipush (x := 7) (pc2 := 26) (dk D_X2_putBeneath 15 rfl) (by decide) rfl k) ?_
    refine K_p (pc2 := 27) (lv2 := [(0, vR 84), (1, vI _), (2, vI _), (3, vI _)]) (st2 := [vI _, vI _, vI _, vR 84]) (fun ad S Q _ k => V_iload_n (pc2 := 27) (dk D_X2_putBeneath 16 rfl) rfl (V_lg 2 rfl) rfl k) ?_
    obtain ⟨e13, he14, hc15⟩ := h
    refine K_call (as := [vR 84, vI _, vI _, vI _]) (st := []) (pc2 := 30) (okL.all _ ⟨(Or.inr ⟨Or.inl ⟨by decide, by decide⟩, by decide⟩), trivial, trivial, trivial, trivial⟩) (okS.all _ trivial) (fun ad S Q Qc hC hc k => V_callV (as := [_, _, _]) (st := []) (M' := MX2_put) (ci := 2) (pc2 := 30) (dk D_X2_putBeneath 17 rfl) ml_2_49 mv_X2_put rfl rfl (by decide) rfl (Nat.le_of_ble_eq_true rfl) rfl he14 (hC.k' (fixH 84 2 (by decide) rfl)) hc k) hc15 (kRV.k fun  κ16 h mo17 => ?_)
    exact h
theorem k_2_putBeneath_30 {X : Cx} {d : Nat} {κ : Km} {Q : Res → Km → Prop} (x1 : Int32) (x2 : Int32) (x3 : Int32) (h : ∃ e1 : Nat, e1 + 1 ≤ d ∧ KC' X e1 MX2_put [vR 84, vI x1, vI 6, vI x2] κ (kRV fun  κ4 => Q (.inl none) κ4)) : K X d MX2_putBeneath 30 [(0, vR 84), (1, vI x1), (2, vI x2), (3, vI x3)] [] κ Q := by
  refine K_p (pc2 := 31) (lv2 := [(0, vR 84), (1, vI _), (2, vI _), (3, vI _)]) (st2 := [vR 84]) (fun ad S Q _ k => V_aload_n (pc2 := 31) (dk D_X2_putBeneath 18 rfl) rfl (V_lg 0 rfl) rfl k) ?_
  refine K_p (pc2 := 32) (lv2 := [(0, vR 84), (1, vI _), (2, vI _), (3, vI _)]) (st2 := [vI _, vR 84]) (fun ad S Q _ k => V_iload_n (pc2 := 32) (dk D_X2_putBeneath 19 rfl) rfl (V_lg 1 rfl) rfl k) ?_
  refine K_p (pc2 := 34) (lv2 := [(0, vR 84), (1, vI _), (2, vI _), (3, vI _)]) (st2 := [vI _, vI _, vR 84]) (fun ad S Q _ k => V_bipush (x := 6) (pc2 := 34) (dk D_X2_putBeneath 20 rfl) (by decide) rfl k) ?_
  refine K_p (pc2 := 35) (lv2 := [(0, vR 84), (1, vI _), (2, vI _), (3, vI _)]) (st2 := [vI _, vI _, vI _, vR 84]) (fun ad S Q _ k => V_iload_n (pc2 := 35) (dk D_X2_putBeneath 21 rfl) rfl (V_lg 2 rfl) rfl k) ?_
  obtain ⟨e1, he2, hc3⟩ := h
  refine K_call (as := [vR 84, vI _, vI _, vI _]) (st := []) (pc2 := 38) (okL.all _ ⟨(Or.inr ⟨Or.inl ⟨by decide, by decide⟩, by decide⟩), trivial, trivial, trivial, trivial⟩) (okS.all _ trivial) (fun ad S Q Qc hC hc k => V_callV (as := [_, _, _]) (st := []) (M' := MX2_put) (ci := 2) (pc2 := 38) (dk D_X2_putBeneath 22 rfl) ml_2_49 mv_X2_put rfl rfl (by decide) rfl (Nat.le_of_ble_eq_true rfl) rfl he2 (hC.k' (fixH 84 2 (by decide) rfl)) hc k) hc3 (kRV.k fun  κ4 h mo5 => ?_)
  exact K_ret (r := .inl none) (fun ad S Q _ k => V_return (dk D_X2_putBeneath 23 rfl) rfl k) h
theorem k_2_number_0 {X : Cx} {d : Nat} {κ : Km} {Q : Res → Km → Prop} (x1 : Int32) (h : ∃ e1 : Nat, e1 + 1 ≤ d ∧ KC' X e1 MX2_get [vR 84, vI x1, vI 0] κ (kRI fun y4 κ5 => Q (.inl (some (vI y4))) κ5)) : K X d MX2_number 0 [(0, vR 84), (1, vI x1)] [] κ Q := by
  refine K_p (pc2 := 1) (lv2 := [(0, vR 84), (1, vI _)]) (st2 := [vR 84]) (fun ad S Q _ k => V_aload_n (pc2 := 1) (dk D_X2_number 0 rfl) rfl (V_lg 0 rfl) rfl k) ?_
  refine K_p (pc2 := 2) (lv2 := [(0, vR 84), (1, vI _)]) (st2 := [vI _, vR 84]) (fun ad S Q _ k => V_iload_n (pc2 := 2) (dk D_X2_number 1 rfl) rfl (V_lg 1 rfl) rfl k) ?_
  refine K_p (pc2 := 3) (lv2 := [(0, vR 84), (1, vI _)]) (st2 := [vI _, vI _, vR 84]) (fun ad S Q _ k => V_iconst (x := 0) (pc2 := 3) (dk D_X2_number 2 rfl) (by decide) rfl k) ?_
  obtain ⟨e1, he2, hc3⟩ := h
  refine K_call (as := [vR 84, vI _, vI _]) (st := []) (pc2 := 6) (okL.all _ ⟨(Or.inr ⟨Or.inl ⟨by decide, by decide⟩, by decide⟩), trivial, trivial⟩) (okS.all _ trivial) (fun ad S Q Qc hC hc k => V_callV (as := [_, _]) (st := []) (M' := MX2_get) (ci := 2) (pc2 := 6) (dk D_X2_number 3 rfl) ml_2_45 mv_X2_get rfl rfl (by decide) rfl (Nat.le_of_ble_eq_true rfl) rfl he2 (hC.k' (fixH 84 2 (by decide) rfl)) hc k) hc3 (kRI.k fun y4 κ5 h mo6 => ?_)
  exact K_ret (r := .inl (some (vI _))) (fun ad S Q _ k => V_ireturn (dk D_X2_number 4 rfl) rfl k) h
theorem k_2_value_0 {X : Cx} {d : Nat} {κ : Km} {Q : Res → Km → Prop} (x1 : Int32) (h : ∃ e1 : Nat, e1 + 1 ≤ d ∧ KC' X e1 MX2_get [vR 84, vI x1, vI 1] κ (kRI fun y4 κ5 => Q (.inl (some (vI y4))) κ5)) : K X d MX2_value 0 [(0, vR 84), (1, vI x1)] [] κ Q := by
  refine K_p (pc2 := 1) (lv2 := [(0, vR 84), (1, vI _)]) (st2 := [vR 84]) (fun ad S Q _ k => V_aload_n (pc2 := 1) (dk D_X2_value 0 rfl) rfl (V_lg 0 rfl) rfl k) ?_
  refine K_p (pc2 := 2) (lv2 := [(0, vR 84), (1, vI _)]) (st2 := [vI _, vR 84]) (fun ad S Q _ k => V_iload_n (pc2 := 2) (dk D_X2_value 1 rfl) rfl (V_lg 1 rfl) rfl k) ?_
  refine K_p (pc2 := 3) (lv2 := [(0, vR 84), (1, vI _)]) (st2 := [vI _, vI _, vR 84]) (fun ad S Q _ k => V_iconst (x := 1) (pc2 := 3) (dk D_X2_value 2 rfl) (by decide) rfl k) ?_
  obtain ⟨e1, he2, hc3⟩ := h
  refine K_call (as := [vR 84, vI _, vI _]) (st := []) (pc2 := 6) (okL.all _ ⟨(Or.inr ⟨Or.inl ⟨by decide, by decide⟩, by decide⟩), trivial, trivial⟩) (okS.all _ trivial) (fun ad S Q Qc hC hc k => V_callV (as := [_, _]) (st := []) (M' := MX2_get) (ci := 2) (pc2 := 6) (dk D_X2_value 3 rfl) ml_2_45 mv_X2_get rfl rfl (by decide) rfl (Nat.le_of_ble_eq_true rfl) rfl he2 (hC.k' (fixH 84 2 (by decide) rfl)) hc k) hc3 (kRI.k fun y4 κ5 h mo6 => ?_)
  exact K_ret (r := .inl (some (vI _))) (fun ad S Q _ k => V_ireturn (dk D_X2_value 4 rfl) rfl k) h
theorem k_2_listed_0 {X : Cx} {d : Nat} {κ : Km} {Q : Res → Km → Prop}  (h : (((kI κ 84 3) = 0 → ∀ κ2 : Km, κ2 = cI κ 84 3 1 → ∀ κ3 : Km, κ3 = cI κ2 84 4 0 → ∃ e4 : Nat, e4 + 1 ≤ d ∧ KC' X e4 MX2_visit [vR 84, vI (kI κ3 84 2), vI 0, vI 0] κ3 (kRV fun  κ7 => K X d MX2_listed 27 [(0, vR 84)] [] κ7 Q)) ∧ (¬ (kI κ 84 3) = 0 → K X d MX2_listed 27 [(0, vR 84)] [] κ Q))) : K X d MX2_listed 0 [(0, vR 84)] [] κ Q := by
  refine K_p (pc2 := 1) (lv2 := [(0, vR 84)]) (st2 := [vR 84]) (fun ad S Q _ k => V_aload_n (pc2 := 1) (dk D_X2_listed 0 rfl) rfl (V_lg 0 rfl) rfl k) ?_
  refine K_getI kc2 (pc2 := 4) 3 (dk D_X2_listed 1 rfl) fl_2_35 (by decide) (fun _ _ => rfl) rfl (fixH 84 2 (by decide) rfl) ?_
  refine K_if (pa := 7) (pb := 27) (lv2 := [(0, vR 84)]) (st2 := []) (fun ad S Q _ k1 k2 => V_ifne (tgt := 27) (pc2 := 7) (dk D_X2_listed 2 rfl) (by decide) rfl (fun q => k2 q) (fun q => k1 q)) (fun q1 => ?_) (fun q1 => ?_)
  · have h := h.1 q1
    refine K_p (pc2 := 8) (lv2 := [(0, vR 84)]) (st2 := [vR 84]) (fun ad S Q _ k => V_aload_n (pc2 := 8) (dk D_X2_listed 3 rfl) rfl (V_lg 0 rfl) rfl k) ?_
    refine K_p (pc2 := 9) (lv2 := [(0, vR 84)]) (st2 := [vI _, vR 84]) (fun ad S Q _ k => V_iconst (x := 1) (pc2 := 9) (dk D_X2_listed 4 rfl) (by decide) rfl k) ?_
    refine K_putZ kc2 (pc2 := 12) 3 (dk D_X2_listed 5 rfl) fl_2_35 (by decide) (Or.inl rfl) rfl rfl (fixH 84 2 (by decide) rfl) (by decide) (Or.inr rfl) ?_
    have h := h _ rfl
    refine K_p (pc2 := 13) (lv2 := [(0, vR 84)]) (st2 := [vR 84]) (fun ad S Q _ k => V_aload_n (pc2 := 13) (dk D_X2_listed 6 rfl) rfl (V_lg 0 rfl) rfl k) ?_
    refine K_p (pc2 := 14) (lv2 := [(0, vR 84)]) (st2 := [vI _, vR 84]) (fun ad S Q _ k => V_iconst (x := 0) (pc2 := 14) (dk D_X2_listed 7 rfl) (by decide) rfl k) ?_
    refine K_putI kc2 (pc2 := 17) 4 (dk D_X2_listed 8 rfl) fl_2_53 (by decide) (Or.inl rfl) rfl rfl (fixH 84 2 (by decide) rfl) (by decide) ?_
    have h := h _ rfl
    refine K_p (pc2 := 18) (lv2 := [(0, vR 84)]) (st2 := [vR 84]) (fun ad S Q _ k => V_aload_n (pc2 := 18) (dk D_X2_listed 9 rfl) rfl (V_lg 0 rfl) rfl k) ?_
    refine K_p (pc2 := 19) (lv2 := [(0, vR 84)]) (st2 := [vR 84, vR 84]) (fun ad S Q _ k => V_aload_n (pc2 := 19) (dk D_X2_listed 10 rfl) rfl (V_lg 0 rfl) rfl k) ?_
    refine K_getI kc2 (pc2 := 22) 2 (dk D_X2_listed 11 rfl) fl_2_32 (by decide) (fun _ _ => rfl) rfl (fixH 84 2 (by decide) rfl) ?_
    refine K_p (pc2 := 23) (lv2 := [(0, vR 84)]) (st2 := [vI _, vI _, vR 84]) (fun ad S Q _ k => V_iconst (x := 0) (pc2 := 23) (dk D_X2_listed 12 rfl) (by decide) rfl k) ?_
    refine K_p (pc2 := 24) (lv2 := [(0, vR 84)]) (st2 := [vI _, vI _, vI _, vR 84]) (fun ad S Q _ k => V_iconst (x := 0) (pc2 := 24) (dk D_X2_listed 13 rfl) (by decide) rfl k) ?_
    obtain ⟨e4, he5, hc6⟩ := h
    refine K_call (as := [vR 84, vI _, vI _, vI _]) (st := []) (pc2 := 27) (okL.all _ ⟨(Or.inr ⟨Or.inl ⟨by decide, by decide⟩, by decide⟩), trivial⟩) (okS.all _ trivial) (fun ad S Q Qc hC hc k => V_callV (as := [_, _, _]) (st := []) (M' := MX2_visit) (ci := 2) (pc2 := 27) (dk D_X2_listed 14 rfl) ml_2_56 mv_X2_visit rfl rfl (by decide) rfl (Nat.le_of_ble_eq_true rfl) rfl he5 (hC.k' (fixH 84 2 (by decide) rfl)) hc k) hc6 (kRV.k fun  κ7 h mo8 => ?_)
    exact h
  · have h := h.2 q1
    exact h
theorem k_2_listed_27 {X : Cx} {d : Nat} {κ : Km} {Q : Res → Km → Prop}  (h : Q (.inl (some (vI (kI κ 84 4)))) κ) : K X d MX2_listed 27 [(0, vR 84)] [] κ Q := by
  refine K_p (pc2 := 28) (lv2 := [(0, vR 84)]) (st2 := [vR 84]) (fun ad S Q _ k => V_aload_n (pc2 := 28) (dk D_X2_listed 15 rfl) rfl (V_lg 0 rfl) rfl k) ?_
  refine K_getI kc2 (pc2 := 31) 4 (dk D_X2_listed 16 rfl) fl_2_53 (by decide) (fun _ _ => rfl) rfl (fixH 84 2 (by decide) rfl) ?_
  exact K_ret (r := .inl (some (vI _))) (fun ad S Q _ k => V_ireturn (dk D_X2_listed 17 rfl) rfl k) h
theorem k_2_visit_0 {X : Cx} {d : Nat} {κ : Km} {Q : Res → Km → Prop} (x1 : Int32) (x2 : Int32) (x3 : Int32) (h : ((x1 = 0 → K X d MX2_visit 19 [(0, vR 84), (1, vI x1), (2, vI x2), (3, vI x3)] [] κ Q) ∧ (¬ x1 = 0 → ((40 ≤ (kI κ 84 4) → K X d MX2_visit 19 [(0, vR 84), (1, vI x1), (2, vI x2), (3, vI x3)] [] κ Q) ∧ (¬ 40 ≤ (kI κ 84 4) → ((x2 < 40 → (vp_in (kI κ 84 4) (kW κ 86)) ∧ ∀ κ5 : Km, κ5 = cI κ 86 (((kI κ 84 4) : Int32).toNatClampNeg) x1 → (vp_in (kI κ5 84 4) (kW κ5 87)) ∧ ∀ κ7 : Km, κ7 = cI κ5 87 (((kI κ5 84 4) : Int32).toNatClampNeg) x2 → (vp_in (kI κ7 84 4) (kW κ7 88)) ∧ ∀ κ9 : Km, κ9 = cI κ7 88 (((kI κ7 84 4) : Int32).toNatClampNeg) x3 → ∀ κ10 : Km, κ10 = cI κ9 84 4 ((kI κ9 84 4) + 1) → ∃ e11 : Nat, e11 + 1 ≤ d ∧ KC' X e11 MX2_get [vR 84, vI x1, vI 4] κ10 (kRI fun y14 κ15 => ∃ e17 : Nat, e17 + 1 ≤ d ∧ KC' X e17 MX2_visit [vR 84, vI y14, vI (x2 + 1), vI 1] κ15 (kRV fun  κ20 => ∃ e22 : Nat, e22 + 1 ≤ d ∧ KC' X e22 MX2_get [vR 84, vI x1, vI 5] κ20 (kRI fun y25 κ26 => K X d MX2_visit 85 [(0, vR 84), (1, vI x1), (2, vI x2), (3, vI x3), (4, vI y25), (5, vI 0)] [] κ26 Q)))) ∧ (¬ x2 < 40 → K X d MX2_visit 19 [(0, vR 84), (1, vI x1), (2, vI x2), (3, vI x3)] [] κ Q))))))) : K X d MX2_visit 0 [(0, vR 84), (1, vI x1), (2, vI x2), (3, vI x3)] [] κ Q := by
  refine K_p (pc2 := 1) (lv2 := [(0, vR 84), (1, vI _), (2, vI _), (3, vI _)]) (st2 := [vI _]) (fun ad S Q _ k => V_iload_n (pc2 := 1) (dk D_X2_visit 0 rfl) rfl (V_lg 1 rfl) rfl k) ?_
  refine K_if (pa := 19) (pb := 4) (lv2 := [(0, vR 84), (1, vI _), (2, vI _), (3, vI _)]) (st2 := []) (fun ad S Q _ k1 k2 => V_ifeq (tgt := 19) (pc2 := 4) (dk D_X2_visit 1 rfl) (by decide) rfl (fun q => k1 q) (fun q => k2 q)) (fun q1 => ?_) (fun q1 => ?_)
  · have h := h.1 q1
    exact h
  · have h := h.2 q1
    refine K_p (pc2 := 5) (lv2 := [(0, vR 84), (1, vI _), (2, vI _), (3, vI _)]) (st2 := [vR 84]) (fun ad S Q _ k => V_aload_n (pc2 := 5) (dk D_X2_visit 2 rfl) rfl (V_lg 0 rfl) rfl k) ?_
    refine K_getI kc2 (pc2 := 8) 4 (dk D_X2_visit 3 rfl) fl_2_53 (by decide) (fun _ _ => rfl) rfl (fixH 84 2 (by decide) rfl) ?_
    refine K_p (pc2 := 10) (lv2 := [(0, vR 84), (1, vI _), (2, vI _), (3, vI _)]) (st2 := [vI _, vI _]) (fun ad S Q _ k => V_bipush (x := 40) (pc2 := 10) (dk D_X2_visit 4 rfl) (by decide) rfl k) ?_
    refine K_if (pa := 19) (pb := 13) (lv2 := [(0, vR 84), (1, vI _), (2, vI _), (3, vI _)]) (st2 := []) (fun ad S Q _ k1 k2 => V_cmpge (tgt := 19) (pc2 := 13) (dk D_X2_visit 5 rfl) (by decide) rfl (fun q => k1 q) (fun q => k2 q)) (fun q2 => ?_) (fun q2 => ?_)
    · have h := h.1 q2
      exact h
    · have h := h.2 q2
      refine K_p (pc2 := 14) (lv2 := [(0, vR 84), (1, vI _), (2, vI _), (3, vI _)]) (st2 := [vI _]) (fun ad S Q _ k => V_iload_n (pc2 := 14) (dk D_X2_visit 6 rfl) rfl (V_lg 2 rfl) rfl k) ?_
      refine K_p (pc2 := 16) (lv2 := [(0, vR 84), (1, vI _), (2, vI _), (3, vI _)]) (st2 := [vI _, vI _]) (fun ad S Q _ k => V_bipush (x := 40) (pc2 := 16) (dk D_X2_visit 7 rfl) (by decide) rfl k) ?_
      refine K_if (pa := 20) (pb := 19) (lv2 := [(0, vR 84), (1, vI _), (2, vI _), (3, vI _)]) (st2 := []) (fun ad S Q _ k1 k2 => V_cmplt (tgt := 20) (pc2 := 19) (dk D_X2_visit 8 rfl) (by decide) rfl (fun q => k1 q) (fun q => k2 q)) (fun q3 => ?_) (fun q3 => ?_)
      · have h := h.1 q3
        refine K_p (pc2 := 21) (lv2 := [(0, vR 84), (1, vI _), (2, vI _), (3, vI _)]) (st2 := [vR 84]) (fun ad S Q _ k => V_aload_n (pc2 := 21) (dk D_X2_visit 10 rfl) rfl (V_lg 0 rfl) rfl k) ?_
        refine K_getF kc2 (h' := 86) (pc2 := 24) 5 (by decide) (dk D_X2_visit 11 rfl) fl_2_15 (by decide) (fun _ _ => rfl) rfl (fixH 84 2 (by decide) rfl) (by decide) ?_
        refine K_p (pc2 := 25) (lv2 := [(0, vR 84), (1, vI _), (2, vI _), (3, vI _)]) (st2 := [vR 84, vR 86]) (fun ad S Q _ k => V_aload_n (pc2 := 25) (dk D_X2_visit 12 rfl) rfl (V_lg 0 rfl) rfl k) ?_
        refine K_getI kc2 (pc2 := 28) 4 (dk D_X2_visit 13 rfl) fl_2_53 (by decide) (fun _ _ => rfl) rfl (fixH 84 2 (by decide) rfl) ?_
        refine K_p (pc2 := 29) (lv2 := [(0, vR 84), (1, vI _), (2, vI _), (3, vI _)]) (st2 := [vI _, vI _, vR 86]) (fun ad S Q _ k => V_iload_n (pc2 := 29) (dk D_X2_visit 14 rfl) rfl (V_lg 1 rfl) rfl k) ?_
        obtain ⟨h4, h⟩ := h
        refine K_iast (pc2 := 30) (dk D_X2_visit 15 rfl) rfl (fixH 86 21 (by decide) rfl) h4 ?_
        have h := h _ rfl
        refine K_p (pc2 := 31) (lv2 := [(0, vR 84), (1, vI _), (2, vI _), (3, vI _)]) (st2 := [vR 84]) (fun ad S Q _ k => V_aload_n (pc2 := 31) (dk D_X2_visit 16 rfl) rfl (V_lg 0 rfl) rfl k) ?_
        refine K_getF kc2 (h' := 87) (pc2 := 34) 6 (by decide) (dk D_X2_visit 17 rfl) fl_2_18 (by decide) (fun _ _ => rfl) rfl (fixH 84 2 (by decide) rfl) (by decide) ?_
        refine K_p (pc2 := 35) (lv2 := [(0, vR 84), (1, vI _), (2, vI _), (3, vI _)]) (st2 := [vR 84, vR 87]) (fun ad S Q _ k => V_aload_n (pc2 := 35) (dk D_X2_visit 18 rfl) rfl (V_lg 0 rfl) rfl k) ?_
        refine K_getI kc2 (pc2 := 38) 4 (dk D_X2_visit 19 rfl) fl_2_53 (by decide) (fun _ _ => rfl) rfl (fixH 84 2 (by decide) rfl) ?_
        refine K_p (pc2 := 39) (lv2 := [(0, vR 84), (1, vI _), (2, vI _), (3, vI _)]) (st2 := [vI _, vI _, vR 87]) (fun ad S Q _ k => V_iload_n (pc2 := 39) (dk D_X2_visit 20 rfl) rfl (V_lg 2 rfl) rfl k) ?_
        obtain ⟨h6, h⟩ := h
        refine K_iast (pc2 := 40) (dk D_X2_visit 21 rfl) rfl (fixH 87 21 (by decide) rfl) h6 ?_
        have h := h _ rfl
        refine K_p (pc2 := 41) (lv2 := [(0, vR 84), (1, vI _), (2, vI _), (3, vI _)]) (st2 := [vR 84]) (fun ad S Q _ k => V_aload_n (pc2 := 41) (dk D_X2_visit 22 rfl) rfl (V_lg 0 rfl) rfl k) ?_
        refine K_getF kc2 (h' := 88) (pc2 := 44) 7 (by decide) (dk D_X2_visit 23 rfl) fl_2_21 (by decide) (fun _ _ => rfl) rfl (fixH 84 2 (by decide) rfl) (by decide) ?_
        refine K_p (pc2 := 45) (lv2 := [(0, vR 84), (1, vI _), (2, vI _), (3, vI _)]) (st2 := [vR 84, vR 88]) (fun ad S Q _ k => V_aload_n (pc2 := 45) (dk D_X2_visit 24 rfl) rfl (V_lg 0 rfl) rfl k) ?_
        refine K_getI kc2 (pc2 := 48) 4 (dk D_X2_visit 25 rfl) fl_2_53 (by decide) (fun _ _ => rfl) rfl (fixH 84 2 (by decide) rfl) ?_
        refine K_p (pc2 := 49) (lv2 := [(0, vR 84), (1, vI _), (2, vI _), (3, vI _)]) (st2 := [vI _, vI _, vR 88]) (fun ad S Q _ k => V_iload_n (pc2 := 49) (dk D_X2_visit 26 rfl) rfl (V_lg 3 rfl) rfl k) ?_
        obtain ⟨h8, h⟩ := h
        refine K_iast (pc2 := 50) (dk D_X2_visit 27 rfl) rfl (fixH 88 21 (by decide) rfl) h8 ?_
        have h := h _ rfl
        refine K_p (pc2 := 51) (lv2 := [(0, vR 84), (1, vI _), (2, vI _), (3, vI _)]) (st2 := [vR 84]) (fun ad S Q _ k => V_aload_n (pc2 := 51) (dk D_X2_visit 28 rfl) rfl (V_lg 0 rfl) rfl k) ?_
        refine K_p (pc2 := 52) (lv2 := [(0, vR 84), (1, vI _), (2, vI _), (3, vI _)]) (st2 := [vR 84, vR 84]) (fun ad S Q _ k => V_dup (pc2 := 52) (dk D_X2_visit 29 rfl) rfl rfl k) ?_
        refine K_getI kc2 (pc2 := 55) 4 (dk D_X2_visit 30 rfl) fl_2_53 (by decide) (fun _ _ => rfl) rfl (fixH 84 2 (by decide) rfl) ?_
        refine K_p (pc2 := 56) (lv2 := [(0, vR 84), (1, vI _), (2, vI _), (3, vI _)]) (st2 := [vI _, vI _, vR 84]) (fun ad S Q _ k => V_iconst (x := 1) (pc2 := 56) (dk D_X2_visit 31 rfl) (by decide) rfl k) ?_
        refine K_p (pc2 := 57) (lv2 := [(0, vR 84), (1, vI _), (2, vI _), (3, vI _)]) (st2 := [vI _, vR 84]) (fun ad S Q _ k => V_iadd (pc2 := 57) (dk D_X2_visit 32 rfl) rfl k) ?_
        refine K_putI kc2 (pc2 := 60) 4 (dk D_X2_visit 33 rfl) fl_2_53 (by decide) (Or.inl rfl) rfl rfl (fixH 84 2 (by decide) rfl) (by decide) ?_
        have h := h _ rfl
        refine K_p (pc2 := 61) (lv2 := [(0, vR 84), (1, vI _), (2, vI _), (3, vI _)]) (st2 := [vR 84]) (fun ad S Q _ k => V_aload_n (pc2 := 61) (dk D_X2_visit 34 rfl) rfl (V_lg 0 rfl) rfl k) ?_
        refine K_p (pc2 := 62) (lv2 := [(0, vR 84), (1, vI _), (2, vI _), (3, vI _)]) (st2 := [vR 84, vR 84]) (fun ad S Q _ k => V_aload_n (pc2 := 62) (dk D_X2_visit 35 rfl) rfl (V_lg 0 rfl) rfl k) ?_
        refine K_p (pc2 := 63) (lv2 := [(0, vR 84), (1, vI _), (2, vI _), (3, vI _)]) (st2 := [vI _, vR 84, vR 84]) (fun ad S Q _ k => V_iload_n (pc2 := 63) (dk D_X2_visit 36 rfl) rfl (V_lg 1 rfl) rfl k) ?_
        refine K_p (pc2 := 64) (lv2 := [(0, vR 84), (1, vI _), (2, vI _), (3, vI _)]) (st2 := [vI _, vI _, vR 84, vR 84]) (fun ad S Q _ k => V_iconst (x := 4) (pc2 := 64) (dk D_X2_visit 37 rfl) (by decide) rfl k) ?_
        obtain ⟨e11, he12, hc13⟩ := h
        refine K_call (as := [vR 84, vI _, vI _]) (st := [vR 84]) (pc2 := 67) (okL.all _ ⟨(Or.inr ⟨Or.inl ⟨by decide, by decide⟩, by decide⟩), trivial, trivial, trivial, trivial⟩) (okS.all _ ⟨(Or.inr ⟨Or.inl ⟨by decide, by decide⟩, by decide⟩), trivial⟩) (fun ad S Q Qc hC hc k => V_callV (as := [_, _]) (st := [_]) (M' := MX2_get) (ci := 2) (pc2 := 67) (dk D_X2_visit 38 rfl) ml_2_45 mv_X2_get rfl rfl (by decide) rfl (Nat.le_of_ble_eq_true rfl) rfl he12 (hC.k' (fixH 84 2 (by decide) rfl)) hc k) hc13 (kRI.k fun y14 κ15 h mo16 => ?_)
        refine K_p (pc2 := 68) (lv2 := [(0, vR 84), (1, vI _), (2, vI _), (3, vI _)]) (st2 := [vI _, vI _, vR 84]) (fun ad S Q _ k => V_iload_n (pc2 := 68) (dk D_X2_visit 39 rfl) rfl (V_lg 2 rfl) rfl k) ?_
        refine K_p (pc2 := 69) (lv2 := [(0, vR 84), (1, vI _), (2, vI _), (3, vI _)]) (st2 := [vI _, vI _, vI _, vR 84]) (fun ad S Q _ k => V_iconst (x := 1) (pc2 := 69) (dk D_X2_visit 40 rfl) (by decide) rfl k) ?_
        refine K_p (pc2 := 70) (lv2 := [(0, vR 84), (1, vI _), (2, vI _), (3, vI _)]) (st2 := [vI _, vI _, vR 84]) (fun ad S Q _ k => V_iadd (pc2 := 70) (dk D_X2_visit 41 rfl) rfl k) ?_
        refine K_p (pc2 := 71) (lv2 := [(0, vR 84), (1, vI _), (2, vI _), (3, vI _)]) (st2 := [vI _, vI _, vI _, vR 84]) (fun ad S Q _ k => V_iconst (x := 1) (pc2 := 71) (dk D_X2_visit 42 rfl) (by decide) rfl k) ?_
        obtain ⟨e17, he18, hc19⟩ := h
        refine K_call (as := [vR 84, vI _, vI _, vI _]) (st := []) (pc2 := 74) (okL.all _ ⟨(Or.inr ⟨Or.inl ⟨by decide, by decide⟩, by decide⟩), trivial, trivial, trivial, trivial⟩) (okS.all _ trivial) (fun ad S Q Qc hC hc k => V_callV (as := [_, _, _]) (st := []) (M' := MX2_visit) (ci := 2) (pc2 := 74) (dk D_X2_visit 43 rfl) ml_2_56 mv_X2_visit rfl rfl (by decide) rfl (Nat.le_of_ble_eq_true rfl) rfl he18 (hC.k' (fixH 84 2 (by decide) rfl)) hc k) hc19 (kRV.k fun  κ20 h mo21 => ?_)
        refine K_p (pc2 := 75) (lv2 := [(0, vR 84), (1, vI _), (2, vI _), (3, vI _)]) (st2 := [vR 84]) (fun ad S Q _ k => V_aload_n (pc2 := 75) (dk D_X2_visit 44 rfl) rfl (V_lg 0 rfl) rfl k) ?_
        refine K_p (pc2 := 76) (lv2 := [(0, vR 84), (1, vI _), (2, vI _), (3, vI _)]) (st2 := [vI _, vR 84]) (fun ad S Q _ k => V_iload_n (pc2 := 76) (dk D_X2_visit 45 rfl) rfl (V_lg 1 rfl) rfl k) ?_
        refine K_p (pc2 := 77) (lv2 := [(0, vR 84), (1, vI _), (2, vI _), (3, vI _)]) (st2 := [vI _, vI _, vR 84]) (fun ad S Q _ k => V_iconst (x := 5) (pc2 := 77) (dk D_X2_visit 46 rfl) (by decide) rfl k) ?_
        obtain ⟨e22, he23, hc24⟩ := h
        refine K_call (as := [vR 84, vI _, vI _]) (st := []) (pc2 := 80) (okL.all _ ⟨(Or.inr ⟨Or.inl ⟨by decide, by decide⟩, by decide⟩), trivial, trivial, trivial, trivial⟩) (okS.all _ trivial) (fun ad S Q Qc hC hc k => V_callV (as := [_, _]) (st := []) (M' := MX2_get) (ci := 2) (pc2 := 80) (dk D_X2_visit 47 rfl) ml_2_45 mv_X2_get rfl rfl (by decide) rfl (Nat.le_of_ble_eq_true rfl) rfl he23 (hC.k' (fixH 84 2 (by decide) rfl)) hc k) hc24 (kRI.k fun y25 κ26 h mo27 => ?_)
        refine K_p (pc2 := 82) (lv2 := [(0, vR 84), (1, vI _), (2, vI _), (3, vI _), (4, vI _)]) (st2 := []) (fun ad S Q _ k => V_istore (pc2 := 82) (lv2 := [(0, _), (1, _), (2, _), (3, _), (4, _)]) (dk D_X2_visit 48 rfl) (by decide) rfl rfl k) ?_
        refine K_p (pc2 := 83) (lv2 := [(0, vR 84), (1, vI _), (2, vI _), (3, vI _), (4, vI _)]) (st2 := [vI _]) (fun ad S Q _ k => V_iconst (x := 0) (pc2 := 83) (dk D_X2_visit 49 rfl) (by decide) rfl k) ?_
        refine K_p (pc2 := 85) (lv2 := [(0, vR 84), (1, vI _), (2, vI _), (3, vI _), (4, vI _), (5, vI _)]) (st2 := []) (fun ad S Q _ k => V_istore (pc2 := 85) (lv2 := [(0, _), (1, _), (2, _), (3, _), (4, _), (5, _)]) (dk D_X2_visit 50 rfl) (by decide) rfl rfl k) ?_
        exact h
      · have h := h.2 q3
        exact h
theorem k_2_visit_19 {X : Cx} {d : Nat} {κ : Km} {Q : Res → Km → Prop} (x1 : Int32) (x2 : Int32) (x3 : Int32) (h : Q (.inl none) κ) : K X d MX2_visit 19 [(0, vR 84), (1, vI x1), (2, vI x2), (3, vI x3)] [] κ Q := by
  exact K_ret (r := .inl none) (fun ad S Q _ k => V_return (dk D_X2_visit 9 rfl) rfl k) h
theorem k_2_visit_85 {X : Cx} {d : Nat} {κ : Km} {Q : Res → Km → Prop} (x1 : Int32) (x2 : Int32) (x3 : Int32) (x4 : Int32) (x5 : Int32) (h : ((40 ≤ x5 → K X d MX2_visit 123 [(0, vR 84), (1, vI x1), (2, vI x2), (3, vI x3), (4, vI x4), (5, vI x5)] [] κ Q) ∧ (¬ 40 ≤ x5 → ((x4 = 0 → K X d MX2_visit 123 [(0, vR 84), (1, vI x1), (2, vI x2), (3, vI x3), (4, vI x4), (5, vI x5)] [] κ Q) ∧ (¬ x4 = 0 → ∃ e3 : Nat, e3 + 1 ≤ d ∧ KC' X e3 MX2_visit [vR 84, vI x4, vI (x2 + 1), vI 2] κ (kRV fun  κ6 => ∃ e8 : Nat, e8 + 1 ≤ d ∧ KC' X e8 MX2_get [vR 84, vI x4, vI 7] κ6 (kRI fun y11 κ12 => K X d MX2_visit 85 [(0, vR 84), (1, vI x1), (2, vI x2), (3, vI x3), (4, vI y11), (5, vI (x5 + 1))] [] κ12 Q))))))) : K X d MX2_visit 85 [(0, vR 84), (1, vI x1), (2, vI x2), (3, vI x3), (4, vI x4), (5, vI x5)] [] κ Q := by
  refine K_p (pc2 := 87) (lv2 := [(0, vR 84), (1, vI _), (2, vI _), (3, vI _), (4, vI _), (5, vI _)]) (st2 := [vI _]) (fun ad S Q _ k => V_iload (pc2 := 87) (dk D_X2_visit 51 rfl) (V_lg 5 rfl) rfl k) ?_
  refine K_p (pc2 := 89) (lv2 := [(0, vR 84), (1, vI _), (2, vI _), (3, vI _), (4, vI _), (5, vI _)]) (st2 := [vI _, vI _]) (fun ad S Q _ k => V_bipush (x := 40) (pc2 := 89) (dk D_X2_visit 52 rfl) (by decide) rfl k) ?_
  refine K_if (pa := 123) (pb := 92) (lv2 := [(0, vR 84), (1, vI _), (2, vI _), (3, vI _), (4, vI _), (5, vI _)]) (st2 := []) (fun ad S Q _ k1 k2 => V_cmpge (tgt := 123) (pc2 := 92) (dk D_X2_visit 53 rfl) (by decide) rfl (fun q => k1 q) (fun q => k2 q)) (fun q1 => ?_) (fun q1 => ?_)
  · have h := h.1 q1
    exact h
  · have h := h.2 q1
    refine K_p (pc2 := 94) (lv2 := [(0, vR 84), (1, vI _), (2, vI _), (3, vI _), (4, vI _), (5, vI _)]) (st2 := [vI _]) (fun ad S Q _ k => V_iload (pc2 := 94) (dk D_X2_visit 54 rfl) (V_lg 4 rfl) rfl k) ?_
    refine K_if (pa := 123) (pb := 97) (lv2 := [(0, vR 84), (1, vI _), (2, vI _), (3, vI _), (4, vI _), (5, vI _)]) (st2 := []) (fun ad S Q _ k1 k2 => V_ifeq (tgt := 123) (pc2 := 97) (dk D_X2_visit 55 rfl) (by decide) rfl (fun q => k1 q) (fun q => k2 q)) (fun q2 => ?_) (fun q2 => ?_)
    · have h := h.1 q2
      exact h
    · have h := h.2 q2
      refine K_p (pc2 := 98) (lv2 := [(0, vR 84), (1, vI _), (2, vI _), (3, vI _), (4, vI _), (5, vI _)]) (st2 := [vR 84]) (fun ad S Q _ k => V_aload_n (pc2 := 98) (dk D_X2_visit 56 rfl) rfl (V_lg 0 rfl) rfl k) ?_
      refine K_p (pc2 := 100) (lv2 := [(0, vR 84), (1, vI _), (2, vI _), (3, vI _), (4, vI _), (5, vI _)]) (st2 := [vI _, vR 84]) (fun ad S Q _ k => V_iload (pc2 := 100) (dk D_X2_visit 57 rfl) (V_lg 4 rfl) rfl k) ?_
      refine K_p (pc2 := 101) (lv2 := [(0, vR 84), (1, vI _), (2, vI _), (3, vI _), (4, vI _), (5, vI _)]) (st2 := [vI _, vI _, vR 84]) (fun ad S Q _ k => V_iload_n (pc2 := 101) (dk D_X2_visit 58 rfl) rfl (V_lg 2 rfl) rfl k) ?_
      refine K_p (pc2 := 102) (lv2 := [(0, vR 84), (1, vI _), (2, vI _), (3, vI _), (4, vI _), (5, vI _)]) (st2 := [vI _, vI _, vI _, vR 84]) (fun ad S Q _ k => V_iconst (x := 1) (pc2 := 102) (dk D_X2_visit 59 rfl) (by decide) rfl k) ?_
      refine K_p (pc2 := 103) (lv2 := [(0, vR 84), (1, vI _), (2, vI _), (3, vI _), (4, vI _), (5, vI _)]) (st2 := [vI _, vI _, vR 84]) (fun ad S Q _ k => V_iadd (pc2 := 103) (dk D_X2_visit 60 rfl) rfl k) ?_
      refine K_p (pc2 := 104) (lv2 := [(0, vR 84), (1, vI _), (2, vI _), (3, vI _), (4, vI _), (5, vI _)]) (st2 := [vI _, vI _, vI _, vR 84]) (fun ad S Q _ k => V_iconst (x := 2) (pc2 := 104) (dk D_X2_visit 61 rfl) (by decide) rfl k) ?_
      obtain ⟨e3, he4, hc5⟩ := h
      refine K_call (as := [vR 84, vI _, vI _, vI _]) (st := []) (pc2 := 107) (okL.all _ ⟨(Or.inr ⟨Or.inl ⟨by decide, by decide⟩, by decide⟩), trivial, trivial, trivial, trivial, trivial, trivial⟩) (okS.all _ trivial) (fun ad S Q Qc hC hc k => V_callV (as := [_, _, _]) (st := []) (M' := MX2_visit) (ci := 2) (pc2 := 107) (dk D_X2_visit 62 rfl) ml_2_56 mv_X2_visit rfl rfl (by decide) rfl (Nat.le_of_ble_eq_true rfl) rfl he4 (hC.k' (fixH 84 2 (by decide) rfl)) hc k) hc5 (kRV.k fun  κ6 h mo7 => ?_)
      refine K_p (pc2 := 108) (lv2 := [(0, vR 84), (1, vI _), (2, vI _), (3, vI _), (4, vI _), (5, vI _)]) (st2 := [vR 84]) (fun ad S Q _ k => V_aload_n (pc2 := 108) (dk D_X2_visit 63 rfl) rfl (V_lg 0 rfl) rfl k) ?_
      refine K_p (pc2 := 110) (lv2 := [(0, vR 84), (1, vI _), (2, vI _), (3, vI _), (4, vI _), (5, vI _)]) (st2 := [vI _, vR 84]) (fun ad S Q _ k => V_iload (pc2 := 110) (dk D_X2_visit 64 rfl) (V_lg 4 rfl) rfl k) ?_
      refine K_p (pc2 := 112) (lv2 := [(0, vR 84), (1, vI _), (2, vI _), (3, vI _), (4, vI _), (5, vI _)]) (st2 := [vI _, vI _, vR 84]) (fun ad S Q _ k => V_bipush (x := 7) (pc2 := 112) (dk D_X2_visit 65 rfl) (by decide) rfl k) ?_
      obtain ⟨e8, he9, hc10⟩ := h
      refine K_call (as := [vR 84, vI _, vI _]) (st := []) (pc2 := 115) (okL.all _ ⟨(Or.inr ⟨Or.inl ⟨by decide, by decide⟩, by decide⟩), trivial, trivial, trivial, trivial, trivial, trivial⟩) (okS.all _ trivial) (fun ad S Q Qc hC hc k => V_callV (as := [_, _]) (st := []) (M' := MX2_get) (ci := 2) (pc2 := 115) (dk D_X2_visit 66 rfl) ml_2_45 mv_X2_get rfl rfl (by decide) rfl (Nat.le_of_ble_eq_true rfl) rfl he9 (hC.k' (fixH 84 2 (by decide) rfl)) hc k) hc10 (kRI.k fun y11 κ12 h mo13 => ?_)
      refine K_p (pc2 := 117) (lv2 := [(0, vR 84), (1, vI _), (2, vI _), (3, vI _), (4, vI _), (5, vI _)]) (st2 := []) (fun ad S Q _ k => V_istore (pc2 := 117) (lv2 := [(0, _), (1, _), (2, _), (3, _), (4, _), (5, _)]) (dk D_X2_visit 67 rfl) (by decide) rfl rfl k) ?_
      refine K_p (pc2 := 120) (lv2 := [(0, vR 84), (1, vI _), (2, vI _), (3, vI _), (4, vI _), (5, vI _)]) (st2 := []) (fun ad S Q _ k => V_iinc (y := _ + 1) (pc2 := 120) (lv2 := [(0, _), (1, _), (2, _), (3, _), (4, _), (5, _)]) (dk D_X2_visit 68 rfl) (V_lg 5 rfl) rfl (by decide) rfl rfl k) ?_
      refine K_p (pc2 := 85) (lv2 := [(0, vR 84), (1, vI _), (2, vI _), (3, vI _), (4, vI _), (5, vI _)]) (st2 := []) (fun ad S Q _ k => V_goto (tgt := 85) (dk D_X2_visit 69 rfl) (by decide) k) ?_
      exact h
theorem k_2_visit_123 {X : Cx} {d : Nat} {κ : Km} {Q : Res → Km → Prop} (x1 : Int32) (x2 : Int32) (x3 : Int32) (x4 : Int32) (x5 : Int32) (h : Q (.inl none) κ) : K X d MX2_visit 123 [(0, vR 84), (1, vI x1), (2, vI x2), (3, vI x3), (4, vI x4), (5, vI x5)] [] κ Q := by
  exact K_ret (r := .inl none) (fun ad S Q _ k => V_return (dk D_X2_visit 70 rfl) rfl k) h
theorem k_2_fact_0 {X : Cx} {d : Nat} {κ : Km} {Q : Res → Km → Prop} (x1 : Int32) (x2 : Int32) (h : ((x1 < 0 → K X d MX2_fact 18 [(0, vR 84), (1, vI x1), (2, vI x2)] [] κ Q) ∧ (¬ x1 < 0 → (((kI κ 84 4) ≤ x1 → K X d MX2_fact 18 [(0, vR 84), (1, vI x1), (2, vI x2)] [] κ Q) ∧ (¬ (kI κ 84 4) ≤ x1 → ((x1 < 40 → ((x2 = 4 → (vp_in x1 (kW κ 87)) ∧ Q (.inl (some (vI (kI κ 87 (x1 : Int32).toNatClampNeg)))) κ) ∧ (x2 = 5 → (vp_in x1 (kW κ 88)) ∧ Q (.inl (some (vI (kI κ 88 (x1 : Int32).toNatClampNeg)))) κ) ∧ (¬ (x2 = 4 ∨ x2 = 5) → (vp_in x1 (kW κ 86)) ∧ ∃ e8 : Nat, e8 + 1 ≤ d ∧ KC' X e8 MX2_get [vR 84, vI (kI κ 86 (x1 : Int32).toNatClampNeg), vI x2] κ (kRI fun y11 κ12 => Q (.inl (some (vI y11))) κ12)))) ∧ (¬ x1 < 40 → K X d MX2_fact 18 [(0, vR 84), (1, vI x1), (2, vI x2)] [] κ Q))))))) : K X d MX2_fact 0 [(0, vR 84), (1, vI x1), (2, vI x2)] [] κ Q := by
  refine K_p (pc2 := 1) (lv2 := [(0, vR 84), (1, vI _), (2, vI _)]) (st2 := [vI _]) (fun ad S Q _ k => V_iload_n (pc2 := 1) (dk D_X2_fact 0 rfl) rfl (V_lg 1 rfl) rfl k) ?_
  refine K_if (pa := 18) (pb := 4) (lv2 := [(0, vR 84), (1, vI _), (2, vI _)]) (st2 := []) (fun ad S Q _ k1 k2 => V_iflt (tgt := 18) (pc2 := 4) (dk D_X2_fact 1 rfl) (by decide) rfl (fun q => k1 q) (fun q => k2 q)) (fun q1 => ?_) (fun q1 => ?_)
  · have h := h.1 q1
    exact h
  · have h := h.2 q1
    refine K_p (pc2 := 5) (lv2 := [(0, vR 84), (1, vI _), (2, vI _)]) (st2 := [vI _]) (fun ad S Q _ k => V_iload_n (pc2 := 5) (dk D_X2_fact 2 rfl) rfl (V_lg 1 rfl) rfl k) ?_
    refine K_p (pc2 := 6) (lv2 := [(0, vR 84), (1, vI _), (2, vI _)]) (st2 := [vR 84, vI _]) (fun ad S Q _ k => V_aload_n (pc2 := 6) (dk D_X2_fact 3 rfl) rfl (V_lg 0 rfl) rfl k) ?_
    refine K_getI kc2 (pc2 := 9) 4 (dk D_X2_fact 4 rfl) fl_2_53 (by decide) (fun _ _ => rfl) rfl (fixH 84 2 (by decide) rfl) ?_
    refine K_if (pa := 18) (pb := 12) (lv2 := [(0, vR 84), (1, vI _), (2, vI _)]) (st2 := []) (fun ad S Q _ k1 k2 => V_cmpge (tgt := 18) (pc2 := 12) (dk D_X2_fact 5 rfl) (by decide) rfl (fun q => k1 q) (fun q => k2 q)) (fun q2 => ?_) (fun q2 => ?_)
    · have h := h.1 q2
      exact h
    · have h := h.2 q2
      refine K_p (pc2 := 13) (lv2 := [(0, vR 84), (1, vI _), (2, vI _)]) (st2 := [vI _]) (fun ad S Q _ k => V_iload_n (pc2 := 13) (dk D_X2_fact 6 rfl) rfl (V_lg 1 rfl) rfl k) ?_
      refine K_p (pc2 := 15) (lv2 := [(0, vR 84), (1, vI _), (2, vI _)]) (st2 := [vI _, vI _]) (fun ad S Q _ k => V_bipush (x := 40) (pc2 := 15) (dk D_X2_fact 7 rfl) (by decide) rfl k) ?_
      refine K_if (pa := 20) (pb := 18) (lv2 := [(0, vR 84), (1, vI _), (2, vI _)]) (st2 := []) (fun ad S Q _ k1 k2 => V_cmplt (tgt := 20) (pc2 := 18) (dk D_X2_fact 8 rfl) (by decide) rfl (fun q => k1 q) (fun q => k2 q)) (fun q3 => ?_) (fun q3 => ?_)
      · have h := h.1 q3
        refine K_p (pc2 := 21) (lv2 := [(0, vR 84), (1, vI _), (2, vI _)]) (st2 := [vI _]) (fun ad S Q _ k => V_iload_n (pc2 := 21) (dk D_X2_fact 11 rfl) rfl (V_lg 2 rfl) rfl k) ?_
        refine K_look (dk D_X2_fact 12 rfl) (by decide) [(4, 27, 48), (5, 34, 55)] 62 (by decide) (by decide) (by decide) (by decide) ?_ ?_
        · simp only [List.forall_mem_cons]
          refine ⟨fun q4 => ?_, fun q4 => ?_, fun _ hq => absurd hq List.not_mem_nil⟩
          · have h := h.1 q4
            refine K_p (pc2 := 49) (lv2 := [(0, vR 84), (1, vI _), (2, vI _)]) (st2 := [vR 84]) (fun ad S Q _ k => V_aload_n (pc2 := 49) (dk D_X2_fact 13 rfl) rfl (V_lg 0 rfl) rfl k) ?_
            refine K_getF kc2 (h' := 87) (pc2 := 52) 6 (by decide) (dk D_X2_fact 14 rfl) fl_2_18 (by decide) (fun _ _ => rfl) rfl (fixH 84 2 (by decide) rfl) (by decide) ?_
            refine K_p (pc2 := 53) (lv2 := [(0, vR 84), (1, vI _), (2, vI _)]) (st2 := [vI _, vR 87]) (fun ad S Q _ k => V_iload_n (pc2 := 53) (dk D_X2_fact 15 rfl) rfl (V_lg 1 rfl) rfl k) ?_
            obtain ⟨h5, h⟩ := h
            refine K_iald (pc2 := 54) (dk D_X2_fact 16 rfl) rfl (fixH 87 21 (by decide) rfl) h5 ?_
            exact K_ret (r := .inl (some (vI _))) (fun ad S Q _ k => V_ireturn (dk D_X2_fact 17 rfl) rfl k) h
          · have h := h.2.1 q4
            refine K_p (pc2 := 56) (lv2 := [(0, vR 84), (1, vI _), (2, vI _)]) (st2 := [vR 84]) (fun ad S Q _ k => V_aload_n (pc2 := 56) (dk D_X2_fact 18 rfl) rfl (V_lg 0 rfl) rfl k) ?_
            refine K_getF kc2 (h' := 88) (pc2 := 59) 7 (by decide) (dk D_X2_fact 19 rfl) fl_2_21 (by decide) (fun _ _ => rfl) rfl (fixH 84 2 (by decide) rfl) (by decide) ?_
            refine K_p (pc2 := 60) (lv2 := [(0, vR 84), (1, vI _), (2, vI _)]) (st2 := [vI _, vR 88]) (fun ad S Q _ k => V_iload_n (pc2 := 60) (dk D_X2_fact 20 rfl) rfl (V_lg 1 rfl) rfl k) ?_
            obtain ⟨h6, h⟩ := h
            refine K_iald (pc2 := 61) (dk D_X2_fact 21 rfl) rfl (fixH 88 21 (by decide) rfl) h6 ?_
            exact K_ret (r := .inl (some (vI _))) (fun ad S Q _ k => V_ireturn (dk D_X2_fact 22 rfl) rfl k) h
        · intro q4
          simp only [List.forall_mem_cons] at q4
          have h := h.2.2 (by rintro (hk | hk) <;> simp_all)
          refine K_p (pc2 := 63) (lv2 := [(0, vR 84), (1, vI _), (2, vI _)]) (st2 := [vR 84]) (fun ad S Q _ k => V_aload_n (pc2 := 63) (dk D_X2_fact 23 rfl) rfl (V_lg 0 rfl) rfl k) ?_
          refine K_p (pc2 := 64) (lv2 := [(0, vR 84), (1, vI _), (2, vI _)]) (st2 := [vR 84, vR 84]) (fun ad S Q _ k => V_aload_n (pc2 := 64) (dk D_X2_fact 24 rfl) rfl (V_lg 0 rfl) rfl k) ?_
          refine K_getF kc2 (h' := 86) (pc2 := 67) 5 (by decide) (dk D_X2_fact 25 rfl) fl_2_15 (by decide) (fun _ _ => rfl) rfl (fixH 84 2 (by decide) rfl) (by decide) ?_
          refine K_p (pc2 := 68) (lv2 := [(0, vR 84), (1, vI _), (2, vI _)]) (st2 := [vI _, vR 86, vR 84]) (fun ad S Q _ k => V_iload_n (pc2 := 68) (dk D_X2_fact 26 rfl) rfl (V_lg 1 rfl) rfl k) ?_
          obtain ⟨h7, h⟩ := h
          refine K_iald (pc2 := 69) (dk D_X2_fact 27 rfl) rfl (fixH 86 21 (by decide) rfl) h7 ?_
          refine K_p (pc2 := 70) (lv2 := [(0, vR 84), (1, vI _), (2, vI _)]) (st2 := [vI _, vI _, vR 84]) (fun ad S Q _ k => V_iload_n (pc2 := 70) (dk D_X2_fact 28 rfl) rfl (V_lg 2 rfl) rfl k) ?_
          obtain ⟨e8, he9, hc10⟩ := h
          refine K_call (as := [vR 84, vI _, vI _]) (st := []) (pc2 := 73) (okL.all _ ⟨(Or.inr ⟨Or.inl ⟨by decide, by decide⟩, by decide⟩), trivial, trivial, trivial⟩) (okS.all _ trivial) (fun ad S Q Qc hC hc k => V_callV (as := [_, _]) (st := []) (M' := MX2_get) (ci := 2) (pc2 := 73) (dk D_X2_fact 29 rfl) ml_2_45 mv_X2_get rfl rfl (by decide) rfl (Nat.le_of_ble_eq_true rfl) rfl he9 (hC.k' (fixH 84 2 (by decide) rfl)) hc k) hc10 (kRI.k fun y11 κ12 h mo13 => ?_)
          exact K_ret (r := .inl (some (vI _))) (fun ad S Q _ k => V_ireturn (dk D_X2_fact 30 rfl) rfl k) h
      · have h := h.2 q3
        exact h
theorem k_2_fact_18 {X : Cx} {d : Nat} {κ : Km} {Q : Res → Km → Prop} (x1 : Int32) (x2 : Int32) (h : Q (.inl (some (vI (-1)))) κ) : K X d MX2_fact 18 [(0, vR 84), (1, vI x1), (2, vI x2)] [] κ Q := by
  refine K_p (pc2 := 19) (lv2 := [(0, vR 84), (1, vI _), (2, vI _)]) (st2 := [vI _]) (fun ad S Q _ k => V_iconst (x := (-1)) (pc2 := 19) (dk D_X2_fact 9 rfl) (by decide) rfl k) ?_
  exact K_ret (r := .inl (some (vI _))) (fun ad S Q _ k => V_ireturn (dk D_X2_fact 10 rfl) rfl k) h
theorem k_2_get_0 {X : Cx} {d : Nat} {κ : Km} {Q : Res → Km → Prop} (x1 : Int32) (x2 : Int32) (h : ((((x1 * 8) + x2) < 0 → K X d MX2_get 20 [(0, vR 84), (1, vI x1), (2, vI x2), (3, vI ((x1 * 8) + x2))] [] κ Q) ∧ (¬ ((x1 * 8) + x2) < 0 → ((((x1 * 8) + x2) < (nI (kW κ 85)) → (vp_in ((x1 * 8) + x2) (kW κ 85)) ∧ K X d MX2_get 30 [(0, vR 84), (1, vI x1), (2, vI x2), (3, vI ((x1 * 8) + x2))] [vI (kI κ 85 (((x1 * 8) + x2) : Int32).toNatClampNeg)] κ Q) ∧ (¬ ((x1 * 8) + x2) < (nI (kW κ 85)) → K X d MX2_get 20 [(0, vR 84), (1, vI x1), (2, vI x2), (3, vI ((x1 * 8) + x2))] [] κ Q))))) : K X d MX2_get 0 [(0, vR 84), (1, vI x1), (2, vI x2)] [] κ Q := by
  refine K_p (pc2 := 1) (lv2 := [(0, vR 84), (1, vI _), (2, vI _)]) (st2 := [vI _]) (fun ad S Q _ k => V_iload_n (pc2 := 1) (dk D_X2_get 0 rfl) rfl (V_lg 1 rfl) rfl k) ?_
  refine K_p (pc2 := 3) (lv2 := [(0, vR 84), (1, vI _), (2, vI _)]) (st2 := [vI _, vI _]) (fun ad S Q _ k => V_bipush (x := 8) (pc2 := 3) (dk D_X2_get 1 rfl) (by decide) rfl k) ?_
  refine K_p (pc2 := 4) (lv2 := [(0, vR 84), (1, vI _), (2, vI _)]) (st2 := [vI _]) (fun ad S Q _ k => V_imul (pc2 := 4) (dk D_X2_get 2 rfl) rfl k) ?_
  refine K_p (pc2 := 5) (lv2 := [(0, vR 84), (1, vI _), (2, vI _)]) (st2 := [vI _, vI _]) (fun ad S Q _ k => V_iload_n (pc2 := 5) (dk D_X2_get 3 rfl) rfl (V_lg 2 rfl) rfl k) ?_
  refine K_p (pc2 := 6) (lv2 := [(0, vR 84), (1, vI _), (2, vI _)]) (st2 := [vI _]) (fun ad S Q _ k => V_iadd (pc2 := 6) (dk D_X2_get 4 rfl) rfl k) ?_
  refine K_p (pc2 := 7) (lv2 := [(0, vR 84), (1, vI _), (2, vI _), (3, vI _)]) (st2 := []) (fun ad S Q _ k => V_istore_n (pc2 := 7) (lv2 := [(0, _), (1, _), (2, _), (3, _)]) (dk D_X2_get 5 rfl) rfl (by decide) rfl rfl k) ?_
  refine K_p (pc2 := 8) (lv2 := [(0, vR 84), (1, vI _), (2, vI _), (3, vI _)]) (st2 := [vI _]) (fun ad S Q _ k => V_iload_n (pc2 := 8) (dk D_X2_get 6 rfl) rfl (V_lg 3 rfl) rfl k) ?_
  refine K_if (pa := 20) (pb := 11) (lv2 := [(0, vR 84), (1, vI _), (2, vI _), (3, vI _)]) (st2 := []) (fun ad S Q _ k1 k2 => V_iflt (tgt := 20) (pc2 := 11) (dk D_X2_get 7 rfl) (by decide) rfl (fun q => k1 q) (fun q => k2 q)) (fun q1 => ?_) (fun q1 => ?_)
  · have h := h.1 q1
    exact h
  · have h := h.2 q1
    refine K_p (pc2 := 12) (lv2 := [(0, vR 84), (1, vI _), (2, vI _), (3, vI _)]) (st2 := [vI _]) (fun ad S Q _ k => V_iload_n (pc2 := 12) (dk D_X2_get 8 rfl) rfl (V_lg 3 rfl) rfl k) ?_
    refine K_p (pc2 := 13) (lv2 := [(0, vR 84), (1, vI _), (2, vI _), (3, vI _)]) (st2 := [vR 84, vI _]) (fun ad S Q _ k => V_aload_n (pc2 := 13) (dk D_X2_get 9 rfl) rfl (V_lg 0 rfl) rfl k) ?_
    refine K_getF kc2 (h' := 85) (pc2 := 16) 0 (by decide) (dk D_X2_get 10 rfl) fl_2_11 (by decide) (fun _ _ => rfl) rfl (fixH 84 2 (by decide) rfl) (by decide) ?_
    refine K_alen (c := 21) (pc2 := 17) (dk D_X2_get 11 rfl) rfl (fixH 85 21 (by decide) rfl) (by decide) (by decide) ?_
    refine K_if (pa := 24) (pb := 20) (lv2 := [(0, vR 84), (1, vI _), (2, vI _), (3, vI _)]) (st2 := []) (fun ad S Q _ k1 k2 => V_cmplt (tgt := 24) (pc2 := 20) (dk D_X2_get 12 rfl) (by decide) rfl (fun q => k1 q) (fun q => k2 q)) (fun q2 => ?_) (fun q2 => ?_)
    · have h := h.1 q2
      refine K_p (pc2 := 25) (lv2 := [(0, vR 84), (1, vI _), (2, vI _), (3, vI _)]) (st2 := [vR 84]) (fun ad S Q _ k => V_aload_n (pc2 := 25) (dk D_X2_get 15 rfl) rfl (V_lg 0 rfl) rfl k) ?_
      refine K_getF kc2 (h' := 85) (pc2 := 28) 0 (by decide) (dk D_X2_get 16 rfl) fl_2_11 (by decide) (fun _ _ => rfl) rfl (fixH 84 2 (by decide) rfl) (by decide) ?_
      refine K_p (pc2 := 29) (lv2 := [(0, vR 84), (1, vI _), (2, vI _), (3, vI _)]) (st2 := [vI _, vR 85]) (fun ad S Q _ k => V_iload_n (pc2 := 29) (dk D_X2_get 17 rfl) rfl (V_lg 3 rfl) rfl k) ?_
      obtain ⟨h3, h⟩ := h
      refine K_iald (pc2 := 30) (dk D_X2_get 18 rfl) rfl (fixH 85 21 (by decide) rfl) h3 ?_
      exact h
    · have h := h.2 q2
      exact h
theorem k_2_get_20 {X : Cx} {d : Nat} {κ : Km} {Q : Res → Km → Prop} (x1 : Int32) (x2 : Int32) (x3 : Int32) (h : K X d MX2_get 30 [(0, vR 84), (1, vI x1), (2, vI x2), (3, vI x3)] [vI 0] κ Q) : K X d MX2_get 20 [(0, vR 84), (1, vI x1), (2, vI x2), (3, vI x3)] [] κ Q := by
  refine K_p (pc2 := 21) (lv2 := [(0, vR 84), (1, vI _), (2, vI _), (3, vI _)]) (st2 := [vI _]) (fun ad S Q _ k => V_iconst (x := 0) (pc2 := 21) (dk D_X2_get 13 rfl) (by decide) rfl k) ?_
  refine K_p (pc2 := 30) (lv2 := [(0, vR 84), (1, vI _), (2, vI _), (3, vI _)]) (st2 := [vI _]) (fun ad S Q _ k => V_goto (tgt := 30) (dk D_X2_get 14 rfl) (by decide) k) ?_
  exact h
theorem k_2_get_30 {X : Cx} {d : Nat} {κ : Km} {Q : Res → Km → Prop} (x1 : Int32) (x2 : Int32) (x3 : Int32) (t0 : Int32) (h : Q (.inl (some (vI t0))) κ) : K X d MX2_get 30 [(0, vR 84), (1, vI x1), (2, vI x2), (3, vI x3)] [vI t0] κ Q := by
  exact K_ret (r := .inl (some (vI _))) (fun ad S Q _ k => V_ireturn (dk D_X2_get 19 rfl) rfl k) h
theorem k_2_put_0 {X : Cx} {d : Nat} {κ : Km} {Q : Res → Km → Prop} (x1 : Int32) (x2 : Int32) (x3 : Int32) (h : ((((x1 * 8) + x2) < 0 → K X d MX2_put 31 [(0, vR 84), (1, vI x1), (2, vI x2), (3, vI x3), (4, vI ((x1 * 8) + x2))] [] κ Q) ∧ (¬ ((x1 * 8) + x2) < 0 → (((nI (kW κ 85)) ≤ ((x1 * 8) + x2) → K X d MX2_put 31 [(0, vR 84), (1, vI x1), (2, vI x2), (3, vI x3), (4, vI ((x1 * 8) + x2))] [] κ Q) ∧ (¬ (nI (kW κ 85)) ≤ ((x1 * 8) + x2) → (vp_in ((x1 * 8) + x2) (kW κ 85)) ∧ ∀ κ4 : Km, κ4 = cI κ 85 ((((x1 * 8) + x2) : Int32).toNatClampNeg) x3 → K X d MX2_put 31 [(0, vR 84), (1, vI x1), (2, vI x2), (3, vI x3), (4, vI ((x1 * 8) + x2))] [] κ4 Q))))) : K X d MX2_put 0 [(0, vR 84), (1, vI x1), (2, vI x2), (3, vI x3)] [] κ Q := by
  refine K_p (pc2 := 1) (lv2 := [(0, vR 84), (1, vI _), (2, vI _), (3, vI _)]) (st2 := [vI _]) (fun ad S Q _ k => V_iload_n (pc2 := 1) (dk D_X2_put 0 rfl) rfl (V_lg 1 rfl) rfl k) ?_
  refine K_p (pc2 := 3) (lv2 := [(0, vR 84), (1, vI _), (2, vI _), (3, vI _)]) (st2 := [vI _, vI _]) (fun ad S Q _ k => V_bipush (x := 8) (pc2 := 3) (dk D_X2_put 1 rfl) (by decide) rfl k) ?_
  refine K_p (pc2 := 4) (lv2 := [(0, vR 84), (1, vI _), (2, vI _), (3, vI _)]) (st2 := [vI _]) (fun ad S Q _ k => V_imul (pc2 := 4) (dk D_X2_put 2 rfl) rfl k) ?_
  refine K_p (pc2 := 5) (lv2 := [(0, vR 84), (1, vI _), (2, vI _), (3, vI _)]) (st2 := [vI _, vI _]) (fun ad S Q _ k => V_iload_n (pc2 := 5) (dk D_X2_put 3 rfl) rfl (V_lg 2 rfl) rfl k) ?_
  refine K_p (pc2 := 6) (lv2 := [(0, vR 84), (1, vI _), (2, vI _), (3, vI _)]) (st2 := [vI _]) (fun ad S Q _ k => V_iadd (pc2 := 6) (dk D_X2_put 4 rfl) rfl k) ?_
  refine K_p (pc2 := 8) (lv2 := [(0, vR 84), (1, vI _), (2, vI _), (3, vI _), (4, vI _)]) (st2 := []) (fun ad S Q _ k => V_istore (pc2 := 8) (lv2 := [(0, _), (1, _), (2, _), (3, _), (4, _)]) (dk D_X2_put 5 rfl) (by decide) rfl rfl k) ?_
  refine K_p (pc2 := 10) (lv2 := [(0, vR 84), (1, vI _), (2, vI _), (3, vI _), (4, vI _)]) (st2 := [vI _]) (fun ad S Q _ k => V_iload (pc2 := 10) (dk D_X2_put 6 rfl) (V_lg 4 rfl) rfl k) ?_
  refine K_if (pa := 31) (pb := 13) (lv2 := [(0, vR 84), (1, vI _), (2, vI _), (3, vI _), (4, vI _)]) (st2 := []) (fun ad S Q _ k1 k2 => V_iflt (tgt := 31) (pc2 := 13) (dk D_X2_put 7 rfl) (by decide) rfl (fun q => k1 q) (fun q => k2 q)) (fun q1 => ?_) (fun q1 => ?_)
  · have h := h.1 q1
    exact h
  · have h := h.2 q1
    refine K_p (pc2 := 15) (lv2 := [(0, vR 84), (1, vI _), (2, vI _), (3, vI _), (4, vI _)]) (st2 := [vI _]) (fun ad S Q _ k => V_iload (pc2 := 15) (dk D_X2_put 8 rfl) (V_lg 4 rfl) rfl k) ?_
    refine K_p (pc2 := 16) (lv2 := [(0, vR 84), (1, vI _), (2, vI _), (3, vI _), (4, vI _)]) (st2 := [vR 84, vI _]) (fun ad S Q _ k => V_aload_n (pc2 := 16) (dk D_X2_put 9 rfl) rfl (V_lg 0 rfl) rfl k) ?_
    refine K_getF kc2 (h' := 85) (pc2 := 19) 0 (by decide) (dk D_X2_put 10 rfl) fl_2_11 (by decide) (fun _ _ => rfl) rfl (fixH 84 2 (by decide) rfl) (by decide) ?_
    refine K_alen (c := 21) (pc2 := 20) (dk D_X2_put 11 rfl) rfl (fixH 85 21 (by decide) rfl) (by decide) (by decide) ?_
    refine K_if (pa := 31) (pb := 23) (lv2 := [(0, vR 84), (1, vI _), (2, vI _), (3, vI _), (4, vI _)]) (st2 := []) (fun ad S Q _ k1 k2 => V_cmpge (tgt := 31) (pc2 := 23) (dk D_X2_put 12 rfl) (by decide) rfl (fun q => k1 q) (fun q => k2 q)) (fun q2 => ?_) (fun q2 => ?_)
    · have h := h.1 q2
      exact h
    · have h := h.2 q2
      refine K_p (pc2 := 24) (lv2 := [(0, vR 84), (1, vI _), (2, vI _), (3, vI _), (4, vI _)]) (st2 := [vR 84]) (fun ad S Q _ k => V_aload_n (pc2 := 24) (dk D_X2_put 13 rfl) rfl (V_lg 0 rfl) rfl k) ?_
      refine K_getF kc2 (h' := 85) (pc2 := 27) 0 (by decide) (dk D_X2_put 14 rfl) fl_2_11 (by decide) (fun _ _ => rfl) rfl (fixH 84 2 (by decide) rfl) (by decide) ?_
      refine K_p (pc2 := 29) (lv2 := [(0, vR 84), (1, vI _), (2, vI _), (3, vI _), (4, vI _)]) (st2 := [vI _, vR 85]) (fun ad S Q _ k => V_iload (pc2 := 29) (dk D_X2_put 15 rfl) (V_lg 4 rfl) rfl k) ?_
      refine K_p (pc2 := 30) (lv2 := [(0, vR 84), (1, vI _), (2, vI _), (3, vI _), (4, vI _)]) (st2 := [vI _, vI _, vR 85]) (fun ad S Q _ k => V_iload_n (pc2 := 30) (dk D_X2_put 16 rfl) rfl (V_lg 3 rfl) rfl k) ?_
      obtain ⟨h3, h⟩ := h
      refine K_iast (pc2 := 31) (dk D_X2_put 17 rfl) rfl (fixH 85 21 (by decide) rfl) h3 ?_
      have h := h _ rfl
      exact h
theorem k_2_put_31 {X : Cx} {d : Nat} {κ : Km} {Q : Res → Km → Prop} (x1 : Int32) (x2 : Int32) (x3 : Int32) (x4 : Int32) (h : Q (.inl none) κ) : K X d MX2_put 31 [(0, vR 84), (1, vI x1), (2, vI x2), (3, vI x3), (4, vI x4)] [] κ Q := by
  exact K_ret (r := .inl none) (fun ad S Q _ k => V_return (dk D_X2_put 18 rfl) rfl k) h
theorem k_4_clear_0 {X : Cx} {d : Nat} {κ : Km} {Q : Res → Km → Prop} (r0 : Nat) (h : (isH κ r0 4) ∧ ∀ κ2 : Km, κ2 = cI κ r0 1 0 → ∀ κ3 : Km, κ3 = cI κ2 r0 2 0 → Q (.inl none) κ3) : K X d MX4_clear 0 [(0, vR r0)] [] κ Q := by
  refine K_p (pc2 := 1) (lv2 := [(0, vR _)]) (st2 := [vR _]) (fun ad S Q _ k => V_aload_n (pc2 := 1) (dk D_X4_clear 0 rfl) rfl (V_lg 0 rfl) rfl k) ?_
  refine K_p (pc2 := 2) (lv2 := [(0, vR _)]) (st2 := [vI _, vR _]) (fun ad S Q _ k => V_iconst (x := 0) (pc2 := 2) (dk D_X4_clear 1 rfl) (by decide) rfl k) ?_
  obtain ⟨h1, h⟩ := h
  refine K_putI kc4 (pc2 := 5) 1 (dk D_X4_clear 2 rfl) fl_4_15 (by decide) (Or.inl rfl) rfl rfl h1 (isH.n69 h1 (by decide)) ?_
  have h := h _ rfl
  refine K_p (pc2 := 6) (lv2 := [(0, vR _)]) (st2 := [vR _]) (fun ad S Q _ k => V_aload_n (pc2 := 6) (dk D_X4_clear 3 rfl) rfl (V_lg 0 rfl) rfl k) ?_
  refine K_p (pc2 := 7) (lv2 := [(0, vR _)]) (st2 := [vI _, vR _]) (fun ad S Q _ k => V_iconst (x := 0) (pc2 := 7) (dk D_X4_clear 4 rfl) (by decide) rfl k) ?_
  refine K_putI kc4 (pc2 := 10) 2 (dk D_X4_clear 5 rfl) fl_4_19 (by decide) (Or.inl rfl) rfl rfl h1 (isH.n69 h1 (by decide)) ?_
  have h := h _ rfl
  exact K_ret (r := .inl none) (fun ad S Q _ k => V_return (dk D_X4_clear 6 rfl) rfl k) h
theorem k_4_total_0 {X : Cx} {d : Nat} {κ : Km} {Q : Res → Km → Prop} (r0 : Nat) (h : (isH κ r0 4) ∧ Q (.inl (some (vI (kI κ r0 2)))) κ) : K X d MX4_total 0 [(0, vR r0)] [] κ Q := by
  refine K_p (pc2 := 1) (lv2 := [(0, vR _)]) (st2 := [vR _]) (fun ad S Q _ k => V_aload_n (pc2 := 1) (dk D_X4_total 0 rfl) rfl (V_lg 0 rfl) rfl k) ?_
  obtain ⟨h1, h⟩ := h
  refine K_getI kc4 (pc2 := 4) 2 (dk D_X4_total 1 rfl) fl_4_19 (by decide) (fun _ _ => rfl) rfl h1 ?_
  exact K_ret (r := .inl (some (vI _))) (fun ad S Q _ k => V_ireturn (dk D_X4_total 2 rfl) rfl k) h
theorem k_4_kept_0 {X : Cx} {d : Nat} {κ : Km} {Q : Res → Km → Prop} (r0 : Nat) (h : (isH κ r0 4) ∧ Q (.inl (some (vI (kI κ r0 1)))) κ) : K X d MX4_kept 0 [(0, vR r0)] [] κ Q := by
  refine K_p (pc2 := 1) (lv2 := [(0, vR _)]) (st2 := [vR _]) (fun ad S Q _ k => V_aload_n (pc2 := 1) (dk D_X4_kept 0 rfl) rfl (V_lg 0 rfl) rfl k) ?_
  obtain ⟨h1, h⟩ := h
  refine K_getI kc4 (pc2 := 4) 1 (dk D_X4_kept 1 rfl) fl_4_15 (by decide) (fun _ _ => rfl) rfl h1 ?_
  exact K_ret (r := .inl (some (vI _))) (fun ad S Q _ k => V_ireturn (dk D_X4_kept 2 rfl) rfl k) h
theorem k_4_get_0 {X : Cx} {d : Nat} {κ : Km} {Q : Res → Km → Prop} (r0 : Nat) (x1 : Int32) (x2 : Int32) (h : ((((2 * x1) + x2) < 0 → K X d MX4_get 19 [(0, vR r0), (1, vI x1), (2, vI x2), (3, vI ((2 * x1) + x2))] [] κ Q) ∧ (¬ ((2 * x1) + x2) < 0 → (r0 = 80 ∨ r0 = 82) ∧ (isH κ (r0 + 1) 21) ∧ ((((2 * x1) + x2) < (nI (kW κ (r0 + 1))) → (vp_in ((2 * x1) + x2) (kW κ (r0 + 1))) ∧ K X d MX4_get 30 [(0, vR r0), (1, vI x1), (2, vI x2), (3, vI ((2 * x1) + x2))] [vI (kI κ (r0 + 1) (((2 * x1) + x2) : Int32).toNatClampNeg)] κ Q) ∧ (¬ ((2 * x1) + x2) < (nI (kW κ (r0 + 1))) → K X d MX4_get 19 [(0, vR r0), (1, vI x1), (2, vI x2), (3, vI ((2 * x1) + x2))] [] κ Q))))) : K X d MX4_get 0 [(0, vR r0), (1, vI x1), (2, vI x2)] [] κ Q := by
  refine K_p (pc2 := 1) (lv2 := [(0, vR _), (1, vI _), (2, vI _)]) (st2 := [vI _]) (fun ad S Q _ k => V_iconst (x := 2) (pc2 := 1) (dk D_X4_get 0 rfl) (by decide) rfl k) ?_
  refine K_p (pc2 := 2) (lv2 := [(0, vR _), (1, vI _), (2, vI _)]) (st2 := [vI _, vI _]) (fun ad S Q _ k => V_iload_n (pc2 := 2) (dk D_X4_get 1 rfl) rfl (V_lg 1 rfl) rfl k) ?_
  refine K_p (pc2 := 3) (lv2 := [(0, vR _), (1, vI _), (2, vI _)]) (st2 := [vI _]) (fun ad S Q _ k => V_imul (pc2 := 3) (dk D_X4_get 2 rfl) rfl k) ?_
  refine K_p (pc2 := 4) (lv2 := [(0, vR _), (1, vI _), (2, vI _)]) (st2 := [vI _, vI _]) (fun ad S Q _ k => V_iload_n (pc2 := 4) (dk D_X4_get 3 rfl) rfl (V_lg 2 rfl) rfl k) ?_
  refine K_p (pc2 := 5) (lv2 := [(0, vR _), (1, vI _), (2, vI _)]) (st2 := [vI _]) (fun ad S Q _ k => V_iadd (pc2 := 5) (dk D_X4_get 4 rfl) rfl k) ?_
  refine K_p (pc2 := 6) (lv2 := [(0, vR _), (1, vI _), (2, vI _), (3, vI _)]) (st2 := []) (fun ad S Q _ k => V_istore_n (pc2 := 6) (lv2 := [(0, _), (1, _), (2, _), (3, _)]) (dk D_X4_get 5 rfl) rfl (by decide) rfl rfl k) ?_
  refine K_p (pc2 := 7) (lv2 := [(0, vR _), (1, vI _), (2, vI _), (3, vI _)]) (st2 := [vI _]) (fun ad S Q _ k => V_iload_n (pc2 := 7) (dk D_X4_get 6 rfl) rfl (V_lg 3 rfl) rfl k) ?_
  refine K_if (pa := 19) (pb := 10) (lv2 := [(0, vR _), (1, vI _), (2, vI _), (3, vI _)]) (st2 := []) (fun ad S Q _ k1 k2 => V_iflt (tgt := 19) (pc2 := 10) (dk D_X4_get 7 rfl) (by decide) rfl (fun q => k1 q) (fun q => k2 q)) (fun q1 => ?_) (fun q1 => ?_)
  · have h := h.1 q1
    exact h
  · have h := h.2 q1
    refine K_p (pc2 := 11) (lv2 := [(0, vR _), (1, vI _), (2, vI _), (3, vI _)]) (st2 := [vI _]) (fun ad S Q _ k => V_iload_n (pc2 := 11) (dk D_X4_get 8 rfl) rfl (V_lg 3 rfl) rfl k) ?_
    refine K_p (pc2 := 12) (lv2 := [(0, vR _), (1, vI _), (2, vI _), (3, vI _)]) (st2 := [vR _, vI _]) (fun ad S Q _ k => V_aload_n (pc2 := 12) (dk D_X4_get 9 rfl) rfl (V_lg 0 rfl) rfl k) ?_
    obtain ⟨h2, h⟩ := h
    refine K_getP (pc2 := 15) (dk D_X4_get 10 rfl) fl_4_9 rfl h2 ?_
    obtain ⟨h3, h⟩ := h
    refine K_alen (c := 21) (pc2 := 16) (dk D_X4_get 11 rfl) rfl h3 (by decide) (by decide) ?_
    refine K_if (pa := 24) (pb := 19) (lv2 := [(0, vR _), (1, vI _), (2, vI _), (3, vI _)]) (st2 := []) (fun ad S Q _ k1 k2 => V_cmplt (tgt := 24) (pc2 := 19) (dk D_X4_get 12 rfl) (by decide) rfl (fun q => k1 q) (fun q => k2 q)) (fun q4 => ?_) (fun q4 => ?_)
    · have h := h.1 q4
      refine K_p (pc2 := 25) (lv2 := [(0, vR _), (1, vI _), (2, vI _), (3, vI _)]) (st2 := [vR _]) (fun ad S Q _ k => V_aload_n (pc2 := 25) (dk D_X4_get 15 rfl) rfl (V_lg 0 rfl) rfl k) ?_
      refine K_getP (pc2 := 28) (dk D_X4_get 16 rfl) fl_4_9 rfl h2 ?_
      refine K_p (pc2 := 29) (lv2 := [(0, vR _), (1, vI _), (2, vI _), (3, vI _)]) (st2 := [vI _, vR _]) (fun ad S Q _ k => V_iload_n (pc2 := 29) (dk D_X4_get 17 rfl) rfl (V_lg 3 rfl) rfl k) ?_
      obtain ⟨h5, h⟩ := h
      refine K_iald (pc2 := 30) (dk D_X4_get 18 rfl) rfl h3 h5 ?_
      exact h
    · have h := h.2 q4
      exact h
theorem k_4_get_19 {X : Cx} {d : Nat} {κ : Km} {Q : Res → Km → Prop} (r0 : Nat) (x1 : Int32) (x2 : Int32) (x3 : Int32) (h : K X d MX4_get 30 [(0, vR r0), (1, vI x1), (2, vI x2), (3, vI x3)] [vI (-9)] κ Q) : K X d MX4_get 19 [(0, vR r0), (1, vI x1), (2, vI x2), (3, vI x3)] [] κ Q := by
  refine K_p (pc2 := 21) (lv2 := [(0, vR _), (1, vI _), (2, vI _), (3, vI _)]) (st2 := [vI _]) (fun ad S Q _ k => V_bipush (x := (-9)) (pc2 := 21) (dk D_X4_get 13 rfl) (by decide) rfl k) ?_
  refine K_p (pc2 := 30) (lv2 := [(0, vR _), (1, vI _), (2, vI _), (3, vI _)]) (st2 := [vI _]) (fun ad S Q _ k => V_goto (tgt := 30) (dk D_X4_get 14 rfl) (by decide) k) ?_
  exact h
theorem k_4_get_30 {X : Cx} {d : Nat} {κ : Km} {Q : Res → Km → Prop} (r0 : Nat) (x1 : Int32) (x2 : Int32) (x3 : Int32) (t0 : Int32) (h : Q (.inl (some (vI t0))) κ) : K X d MX4_get 30 [(0, vR r0), (1, vI x1), (2, vI x2), (3, vI x3)] [vI t0] κ Q := by
  exact K_ret (r := .inl (some (vI _))) (fun ad S Q _ k => V_ireturn (dk D_X4_get 19 rfl) rfl k) h
theorem k_4_mixInto_0 {X : Cx} {d : Nat} {κ : Km} {Q : Res → Km → Prop} (r0 : Nat) (l1 : Int64) (h : K X d MX4_mixInto 5 [(0, vR r0), (1, vL l1), (3, vL l1), (5, vI 0)] [] κ Q) : K X d MX4_mixInto 0 [(0, vR r0), (1, vL l1)] [] κ Q := by
  refine K_p (pc2 := 1) (lv2 := [(0, vR _), (1, vL _)]) (st2 := [vL _]) (fun ad S Q _ k => V_lload_n (pc2 := 1) (dk D_X4_mixInto 0 rfl) rfl (V_lg 1 rfl) rfl k) ?_
  refine K_p (pc2 := 2) (lv2 := [(0, vR _), (1, vL _), (3, vL _)]) (st2 := []) (fun ad S Q _ k => V_lstore_n (pc2 := 2) (lv2 := [(0, _), (1, _), (3, _)]) (dk D_X4_mixInto 1 rfl) rfl (by decide) rfl rfl k) ?_
  refine K_p (pc2 := 3) (lv2 := [(0, vR _), (1, vL _), (3, vL _)]) (st2 := [vI _]) (fun ad S Q _ k => V_iconst (x := 0) (pc2 := 3) (dk D_X4_mixInto 2 rfl) (by decide) rfl k) ?_
  refine K_p (pc2 := 5) (lv2 := [(0, vR _), (1, vL _), (3, vL _), (5, vI _)]) (st2 := []) (fun ad S Q _ k => V_istore (pc2 := 5) (lv2 := [(0, _), (1, _), (3, _), (5, _)]) (dk D_X4_mixInto 3 rfl) (by decide) rfl rfl k) ?_
  exact h
theorem k_4_mixInto_5 {X : Cx} {d : Nat} {κ : Km} {Q : Res → Km → Prop} (r0 : Nat) (l1 : Int64) (l3 : Int64) (x5 : Int32) (h : (isH κ r0 4) ∧ (((2 * (kI κ r0 1)) ≤ x5 → K X d MX4_mixInto 47 [(0, vR r0), (1, vL l1), (3, vL l3), (5, vI x5)] [] κ Q) ∧ (¬ (2 * (kI κ r0 1)) ≤ x5 → (r0 = 80 ∨ r0 = 82) ∧ (isH κ (r0 + 1) 21) ∧ (((nI (kW κ (r0 + 1))) ≤ x5 → K X d MX4_mixInto 47 [(0, vR r0), (1, vL l1), (3, vL l3), (5, vI x5)] [] κ Q) ∧ (¬ (nI (kW κ (r0 + 1))) ≤ x5 → (vp_in x5 (kW κ (r0 + 1))) ∧ K X d MX4_mixInto 5 [(0, vR r0), (1, vL l1), (3, vL ((31 * l3) + (((kI κ (r0 + 1) (x5 : Int32).toNatClampNeg) : Int32).toInt64))), (5, vI (x5 + 1))] [] κ Q))))) : K X d MX4_mixInto 5 [(0, vR r0), (1, vL l1), (3, vL l3), (5, vI x5)] [] κ Q := by
  refine K_p (pc2 := 7) (lv2 := [(0, vR _), (1, vL _), (3, vL _), (5, vI _)]) (st2 := [vI _]) (fun ad S Q _ k => V_iload (pc2 := 7) (dk D_X4_mixInto 4 rfl) (V_lg 3 rfl) rfl k) ?_
  refine K_p (pc2 := 8) (lv2 := [(0, vR _), (1, vL _), (3, vL _), (5, vI _)]) (st2 := [vI _, vI _]) (fun ad S Q _ k => V_iconst (x := 2) (pc2 := 8) (dk D_X4_mixInto 5 rfl) (by decide) rfl k) ?_
  refine K_p (pc2 := 9) (lv2 := [(0, vR _), (1, vL _), (3, vL _), (5, vI _)]) (st2 := [vR _, vI _, vI _]) (fun ad S Q _ k => V_aload_n (pc2 := 9) (dk D_X4_mixInto 6 rfl) rfl (V_lg 0 rfl) rfl k) ?_
  obtain ⟨h1, h⟩ := h
  refine K_getI kc4 (pc2 := 12) 1 (dk D_X4_mixInto 7 rfl) fl_4_15 (by decide) (fun _ _ => rfl) rfl h1 ?_
  refine K_p (pc2 := 13) (lv2 := [(0, vR _), (1, vL _), (3, vL _), (5, vI _)]) (st2 := [vI _, vI _]) (fun ad S Q _ k => V_imul (pc2 := 13) (dk D_X4_mixInto 8 rfl) rfl k) ?_
  refine K_if (pa := 47) (pb := 16) (lv2 := [(0, vR _), (1, vL _), (3, vL _), (5, vI _)]) (st2 := []) (fun ad S Q _ k1 k2 => V_cmpge (tgt := 47) (pc2 := 16) (dk D_X4_mixInto 9 rfl) (by decide) rfl (fun q => k1 q) (fun q => k2 q)) (fun q2 => ?_) (fun q2 => ?_)
  · have h := h.1 q2
    exact h
  · have h := h.2 q2
    refine K_p (pc2 := 18) (lv2 := [(0, vR _), (1, vL _), (3, vL _), (5, vI _)]) (st2 := [vI _]) (fun ad S Q _ k => V_iload (pc2 := 18) (dk D_X4_mixInto 10 rfl) (V_lg 3 rfl) rfl k) ?_
    refine K_p (pc2 := 19) (lv2 := [(0, vR _), (1, vL _), (3, vL _), (5, vI _)]) (st2 := [vR _, vI _]) (fun ad S Q _ k => V_aload_n (pc2 := 19) (dk D_X4_mixInto 11 rfl) rfl (V_lg 0 rfl) rfl k) ?_
    obtain ⟨h3, h⟩ := h
    refine K_getP (pc2 := 22) (dk D_X4_mixInto 12 rfl) fl_4_9 rfl h3 ?_
    obtain ⟨h4, h⟩ := h
    refine K_alen (c := 21) (pc2 := 23) (dk D_X4_mixInto 13 rfl) rfl h4 (by decide) (by decide) ?_
    refine K_if (pa := 47) (pb := 26) (lv2 := [(0, vR _), (1, vL _), (3, vL _), (5, vI _)]) (st2 := []) (fun ad S Q _ k1 k2 => V_cmpge (tgt := 47) (pc2 := 26) (dk D_X4_mixInto 14 rfl) (by decide) rfl (fun q => k1 q) (fun q => k2 q)) (fun q5 => ?_) (fun q5 => ?_)
    · have h := h.1 q5
      exact h
    · have h := h.2 q5
      refine K_p (pc2 := 29) (lv2 := [(0, vR _), (1, vL _), (3, vL _), (5, vI _)]) (st2 := [vL _]) (fun ad S Q _ k => V_ldc2 (x := 31) (pc2 := 29) (dk D_X4_mixInto 15 rfl) kl_4_28 rfl k) ?_
      refine K_p (pc2 := 30) (lv2 := [(0, vR _), (1, vL _), (3, vL _), (5, vI _)]) (st2 := [vL _, vL _]) (fun ad S Q _ k => V_lload_n (pc2 := 30) (dk D_X4_mixInto 16 rfl) rfl (V_lg 2 rfl) rfl k) ?_
      refine K_p (pc2 := 31) (lv2 := [(0, vR _), (1, vL _), (3, vL _), (5, vI _)]) (st2 := [vL _]) (fun ad S Q _ k => V_lmul (pc2 := 31) (dk D_X4_mixInto 17 rfl) rfl k) ?_
      refine K_p (pc2 := 32) (lv2 := [(0, vR _), (1, vL _), (3, vL _), (5, vI _)]) (st2 := [vR _, vL _]) (fun ad S Q _ k => V_aload_n (pc2 := 32) (dk D_X4_mixInto 18 rfl) rfl (V_lg 0 rfl) rfl k) ?_
      refine K_getP (pc2 := 35) (dk D_X4_mixInto 19 rfl) fl_4_9 rfl h3 ?_
      refine K_p (pc2 := 37) (lv2 := [(0, vR _), (1, vL _), (3, vL _), (5, vI _)]) (st2 := [vI _, vR _, vL _]) (fun ad S Q _ k => V_iload (pc2 := 37) (dk D_X4_mixInto 20 rfl) (V_lg 3 rfl) rfl k) ?_
      obtain ⟨h6, h⟩ := h
      refine K_iald (pc2 := 38) (dk D_X4_mixInto 21 rfl) rfl h4 h6 ?_
      refine K_p (pc2 := 39) (lv2 := [(0, vR _), (1, vL _), (3, vL _), (5, vI _)]) (st2 := [vL _, vL _]) (fun ad S Q _ k => V_i2l (pc2 := 39) (dk D_X4_mixInto 22 rfl) rfl k) ?_
      refine K_p (pc2 := 40) (lv2 := [(0, vR _), (1, vL _), (3, vL _), (5, vI _)]) (st2 := [vL _]) (fun ad S Q _ k => V_ladd (pc2 := 40) (dk D_X4_mixInto 23 rfl) rfl k) ?_
      refine K_p (pc2 := 41) (lv2 := [(0, vR _), (1, vL _), (3, vL _), (5, vI _)]) (st2 := []) (fun ad S Q _ k => V_lstore_n (pc2 := 41) (lv2 := [(0, _), (1, _), (3, _), (5, _)]) (dk D_X4_mixInto 24 rfl) rfl (by decide) rfl rfl k) ?_
      refine K_p (pc2 := 44) (lv2 := [(0, vR _), (1, vL _), (3, vL _), (5, vI _)]) (st2 := []) (fun ad S Q _ k => V_iinc (y := _ + 1) (pc2 := 44) (lv2 := [(0, _), (1, _), (3, _), (5, _)]) (dk D_X4_mixInto 25 rfl) (V_lg 3 rfl) rfl (by decide) rfl rfl k) ?_
      refine K_p (pc2 := 5) (lv2 := [(0, vR _), (1, vL _), (3, vL _), (5, vI _)]) (st2 := []) (fun ad S Q _ k => V_goto (tgt := 5) (dk D_X4_mixInto 26 rfl) (by decide) k) ?_
      exact h
theorem k_4_mixInto_47 {X : Cx} {d : Nat} {κ : Km} {Q : Res → Km → Prop} (r0 : Nat) (l1 : Int64) (l3 : Int64) (x5 : Int32) (h : Q (.inl (some (vL l3))) κ) : K X d MX4_mixInto 47 [(0, vR r0), (1, vL l1), (3, vL l3), (5, vI x5)] [] κ Q := by
  refine K_p (pc2 := 48) (lv2 := [(0, vR _), (1, vL _), (3, vL _), (5, vI _)]) (st2 := [vL _]) (fun ad S Q _ k => V_lload_n (pc2 := 48) (dk D_X4_mixInto 27 rfl) rfl (V_lg 2 rfl) rfl k) ?_
  exact K_ret (r := .inl (some (vL _))) (fun ad S Q _ k => V_lreturn (dk D_X4_mixInto 28 rfl) rfl k) h
