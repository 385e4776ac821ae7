theorem k_3_link_0 {X : Cx} {d : Nat} {κ : Km} {Q : Res → Km → Prop}  (h : K X d MX3_link 2 [(0, vR 78), (1, vI 0)] [] κ Q) : K X d MX3_link 0 [(0, vR 78)] [] κ Q := by
  refine K_p (pc2 := 1) (lv2 := [(0, vR 78)]) (st2 := [vI _]) (fun ad S Q _ k => V_iconst (x := 0) (pc2 := 1) (dk D_X3_link 0 rfl) (by decide) rfl k) ?_
  refine K_p (pc2 := 2) (lv2 := [(0, vR 78), (1, vI _)]) (st2 := []) (fun ad S Q _ k => V_istore_n (pc2 := 2) (lv2 := [(0, _), (1, _)]) (dk D_X3_link 1 rfl) rfl (by decide) rfl rfl k) ?_
  exact h
theorem k_3_link_2 {X : Cx} {d : Nat} {κ : Km} {Q : Res → Km → Prop} (x1 : Int32) (h : ∃ e1 : Nat, e1 + 1 ≤ d ∧ KC' X e1 MX7_size [vR 67] κ (kRI fun y4 κ5 => ((y4 ≤ x1 → ∃ e8 : Nat, e8 + 1 ≤ d ∧ KC' X e8 MX7_wrongName [vR 67] κ5 (kRI fun y11 κ12 => Q (.inl (some (vI y11))) κ12)) ∧ (¬ y4 ≤ x1 → ∃ e14 : Nat, e14 + 1 ≤ d ∧ KC' X e14 MX7_at [vR 67, vI x1] κ5 (kRR fun p17 κ18 => (p17 = 0 ∨ live κ18 p17) ∧ ((p17 = 0 → K X d MX3_link 31 [(0, vR 78), (1, vI x1), (2, vR p17)] [] κ18 Q) ∧ (¬ p17 = 0 → (isH κ18 p17 0) ∧ ∃ e22 : Nat, e22 + 1 ≤ d ∧ KC' X e22 MX3_linkActs [vR 78, vR p17] κ18 (kRV fun  κ26 => K X d MX3_link 31 [(0, vR 78), (1, vI x1), (2, vR p17)] [] κ26 Q)))))))) : K X d MX3_link 2 [(0, vR 78), (1, vI x1)] [] κ Q := by
  refine K_p (pc2 := 3) (lv2 := [(0, vR 78), (1, vI _)]) (st2 := [vI _]) (fun ad S Q _ k => V_iload_n (pc2 := 3) (dk D_X3_link 2 rfl) rfl (V_lg 1 rfl) rfl k) ?_
  refine K_p (pc2 := 4) (lv2 := [(0, vR 78), (1, vI _)]) (st2 := [vR 78, vI _]) (fun ad S Q _ k => V_aload_n (pc2 := 4) (dk D_X3_link 3 rfl) rfl (V_lg 0 rfl) rfl k) ?_
  refine K_getF kc3 (h' := 67) (pc2 := 7) 1 (by decide) (dk D_X3_link 4 rfl) fl_3_15 (by decide) (fun _ _ => rfl) rfl (fixH 78 3 (by decide) rfl) (by decide) ?_
  obtain ⟨e1, he2, hc3⟩ := h
  refine K_call (as := [vR 67]) (st := [vI _]) (pc2 := 10) (okL.all _ ⟨(Or.inr ⟨Or.inl ⟨by decide, by decide⟩, by decide⟩), trivial, trivial⟩) (okS.all _ ⟨trivial, trivial⟩) (fun ad S Q Qc hC hc k => V_callV (as := []) (st := [_]) (M' := MX7_size) (ci := 7) (pc2 := 10) (dk D_X3_link 5 rfl) ml_3_26 mv_X7_size rfl rfl (by decide) rfl (Nat.le_of_ble_eq_true rfl) rfl he2 (hC.k' (fixH 67 7 (by decide) rfl)) hc k) hc3 (kRI.k fun y4 κ5 h mo6 => ?_)
  refine K_if (pa := 37) (pb := 13) (lv2 := [(0, vR 78), (1, vI _)]) (st2 := []) (fun ad S Q _ k1 k2 => V_cmpge (tgt := 37) (pc2 := 13) (dk D_X3_link 6 rfl) (by decide) rfl (fun q => k1 q) (fun q => k2 q)) (fun q7 => ?_) (fun q7 => ?_)
  · have h := h.1 q7
    refine K_p (pc2 := 38) (lv2 := [(0, vR 78), (1, vI _)]) (st2 := [vR 78]) (fun ad S Q _ k => V_aload_n (pc2 := 38) (dk D_X3_link 19 rfl) rfl (V_lg 0 rfl) rfl k) ?_
    refine K_getF kc3 (h' := 67) (pc2 := 41) 1 (by decide) (dk D_X3_link 20 rfl) fl_3_15 (by decide) (fun _ _ => rfl) rfl (fixH 78 3 (by decide) rfl) (by decide) ?_
    obtain ⟨e8, he9, hc10⟩ := h
    refine K_call (as := [vR 67]) (st := []) (pc2 := 44) (okL.all _ ⟨(Or.inr ⟨Or.inl ⟨by decide, by decide⟩, by decide⟩), trivial, trivial⟩) (okS.all _ trivial) (fun ad S Q Qc hC hc k => V_callV (as := []) (st := []) (M' := MX7_wrongName) (ci := 7) (pc2 := 44) (dk D_X3_link 21 rfl) ml_3_38 mv_X7_wrongName rfl rfl (by decide) rfl (Nat.le_of_ble_eq_true rfl) rfl he9 (hC.k' (fixH 67 7 (by decide) rfl)) hc k) hc10 (kRI.k fun y11 κ12 h mo13 => ?_)
    exact K_ret (r := .inl (some (vI _))) (fun ad S Q _ k => V_ireturn (dk D_X3_link 22 rfl) rfl k) h
  · have h := h.2 q7
    refine K_p (pc2 := 14) (lv2 := [(0, vR 78), (1, vI _)]) (st2 := [vR 78]) (fun ad S Q _ k => V_aload_n (pc2 := 14) (dk D_X3_link 7 rfl) rfl (V_lg 0 rfl) rfl k) ?_
    refine K_getF kc3 (h' := 67) (pc2 := 17) 1 (by decide) (dk D_X3_link 8 rfl) fl_3_15 (by decide) (fun _ _ => rfl) rfl (fixH 78 3 (by decide) rfl) (by decide) ?_
    refine K_p (pc2 := 18) (lv2 := [(0, vR 78), (1, vI _)]) (st2 := [vI _, vR 67]) (fun ad S Q _ k => V_iload_n (pc2 := 18) (dk D_X3_link 9 rfl) rfl (V_lg 1 rfl) rfl k) ?_
    obtain ⟨e14, he15, hc16⟩ := h
    refine K_call (as := [vR 67, vI _]) (st := []) (pc2 := 21) (okL.all _ ⟨(Or.inr ⟨Or.inl ⟨by decide, by decide⟩, by decide⟩), trivial, trivial⟩) (okS.all _ trivial) (fun ad S Q Qc hC hc k => V_callV (as := [_]) (st := []) (M' := MX7_at) (ci := 7) (pc2 := 21) (dk D_X3_link 10 rfl) ml_3_30 mv_X7_at rfl rfl (by decide) rfl (Nat.le_of_ble_eq_true rfl) rfl he15 (hC.k' (fixH 67 7 (by decide) rfl)) hc k) hc16 (kRR.k fun p17 κ18 h mo19 => ?_)
    refine K_p (pc2 := 22) (lv2 := [(0, vR 78), (1, vI _), (2, vR _)]) (st2 := []) (fun ad S Q _ k => V_astore_n (pc2 := 22) (lv2 := [(0, _), (1, _), (2, _)]) (dk D_X3_link 11 rfl) rfl (by decide) rfl rfl k) ?_
    refine K_p (pc2 := 23) (lv2 := [(0, vR 78), (1, vI _), (2, vR _)]) (st2 := [vR _]) (fun ad S Q _ k => V_aload_n (pc2 := 23) (dk D_X3_link 12 rfl) rfl (V_lg 2 rfl) rfl k) ?_
    obtain ⟨h21, h⟩ := h
    refine K_ifnull (tgt := 31) (pc2 := 26) (dk D_X3_link 13 rfl) (by decide) rfl h21 (fun q20 => ?_) (fun q20 => ?_)
    · have h := h.1 q20
      exact h
    · have h := h.2 q20
      refine K_p (pc2 := 27) (lv2 := [(0, vR 78), (1, vI _), (2, vR _)]) (st2 := [vR 78]) (fun ad S Q _ k => V_aload_n (pc2 := 27) (dk D_X3_link 14 rfl) rfl (V_lg 0 rfl) rfl k) ?_
      refine K_p (pc2 := 28) (lv2 := [(0, vR 78), (1, vI _), (2, vR _)]) (st2 := [vR _, vR 78]) (fun ad S Q _ k => V_aload_n (pc2 := 28) (dk D_X3_link 15 rfl) rfl (V_lg 2 rfl) rfl k) ?_
      obtain ⟨h25, h⟩ := h
      obtain ⟨e22, he23, hc24⟩ := h
      refine K_call (as := [vR 78, vR _]) (st := []) (pc2 := 31) (okL.all _ ⟨(Or.inr ⟨Or.inl ⟨by decide, by decide⟩, by decide⟩), trivial, (isH.ok h25 (by decide)), trivial⟩) (okS.all _ trivial) (fun ad S Q Qc hC hc k => V_callV (as := [_]) (st := []) (M' := MX3_linkActs) (ci := 3) (pc2 := 31) (dk D_X3_link 16 rfl) ml_3_34 mv_X3_linkActs rfl rfl (by decide) rfl (Nat.le_of_ble_eq_true rfl) rfl he23 (hC.k' (fixH 78 3 (by decide) rfl)) hc k) hc24 (kRV.k fun  κ26 h mo27 => ?_)
      exact h
theorem k_3_link_31 {X : Cx} {d : Nat} {κ : Km} {Q : Res → Km → Prop} (x1 : Int32) (r2 : Nat) (h : K X d MX3_link 2 [(0, vR 78), (1, vI (x1 + 1))] [] κ Q) : K X d MX3_link 31 [(0, vR 78), (1, vI x1), (2, vR r2)] [] κ Q := by
  refine K_p (pc2 := 34) (lv2 := [(0, vR 78), (1, vI _), (2, vR _)]) (st2 := []) (fun ad S Q _ k => V_iinc (y := _ + 1) (pc2 := 34) (lv2 := [(0, _), (1, _), (2, _)]) (dk D_X3_link 17 rfl) (V_lg 1 rfl) rfl (by decide) rfl rfl k) ?_
  refine K_p (pc2 := 2) (lv2 := [(0, vR 78), (1, vI _), (2, vR _)]) (st2 := []) (fun ad S Q _ k => V_goto (tgt := 2) (dk D_X3_link 18 rfl) (by decide) k) ?_
  refine K_p (pc2 := 2) (lv2 := [(0, vR 78), (1, vI _)]) (st2 := []) (fun ad S Q _ k => V_pick [0, 1] (lv2 := [(0, _), (1, _)]) rfl k) ?_
  exact h
theorem k_3_linkActs_0 {X : Cx} {d : Nat} {κ : Km} {Q : Res → Km → Prop} (r1 : Nat) (h : (isH κ r1 0) ∧ (((kI κ r1 8) = (-9) → K X d MX3_linkActs 20 [(0, vR 78), (1, vR r1)] [] κ Q) ∧ (¬ (kI κ r1 8) = (-9) → ∃ e3 : Nat, e3 + 1 ≤ d ∧ KC' X e3 MX7_noteWrongName [vR 67, vI (kI κ r1 8)] κ (kRV fun  κ6 => K X d MX3_linkActs 20 [(0, vR 78), (1, vR r1)] [] κ6 Q)))) : K X d MX3_linkActs 0 [(0, vR 78), (1, vR r1)] [] κ Q := by
  refine K_p (pc2 := 1) (lv2 := [(0, vR 78), (1, vR _)]) (st2 := [vR _]) (fun ad S Q _ k => V_aload_n (pc2 := 1) (dk D_X3_linkActs 0 rfl) rfl (V_lg 1 rfl) rfl k) ?_
  obtain ⟨h1, h⟩ := h
  refine K_getI kc0 (pc2 := 4) 8 (dk D_X3_linkActs 1 rfl) fl_3_41 (by decide) (fun _ _ => rfl) rfl h1 ?_
  refine K_p (pc2 := 6) (lv2 := [(0, vR 78), (1, vR _)]) (st2 := [vI _, vI _]) (fun ad S Q _ k => V_bipush (x := (-9)) (pc2 := 6) (dk D_X3_linkActs 2 rfl) (by decide) rfl k) ?_
  refine K_if (pa := 20) (pb := 9) (lv2 := [(0, vR 78), (1, vR _)]) (st2 := []) (fun ad S Q _ k1 k2 => V_cmpeq (tgt := 20) (pc2 := 9) (dk D_X3_linkActs 3 rfl) (by decide) rfl (fun q => k1 q) (fun q => k2 q)) (fun q2 => ?_) (fun q2 => ?_)
  · have h := h.1 q2
    exact h
  · have h := h.2 q2
    refine K_p (pc2 := 10) (lv2 := [(0, vR 78), (1, vR _)]) (st2 := [vR 78]) (fun ad S Q _ k => V_aload_n (pc2 := 10) (dk D_X3_linkActs 4 rfl) rfl (V_lg 0 rfl) rfl k) ?_
    refine K_getF kc3 (h' := 67) (pc2 := 13) 1 (by decide) (dk D_X3_linkActs 5 rfl) fl_3_15 (by decide) (fun _ _ => rfl) rfl (fixH 78 3 (by decide) rfl) (by decide) ?_
    refine K_p (pc2 := 14) (lv2 := [(0, vR 78), (1, vR _)]) (st2 := [vR _, vR 67]) (fun ad S Q _ k => V_aload_n (pc2 := 14) (dk D_X3_linkActs 6 rfl) rfl (V_lg 1 rfl) rfl k) ?_
    refine K_getI kc0 (pc2 := 17) 8 (dk D_X3_linkActs 7 rfl) fl_3_41 (by decide) (fun _ _ => rfl) rfl h1 ?_
    obtain ⟨e3, he4, hc5⟩ := h
    refine K_call (as := [vR 67, vI _]) (st := []) (pc2 := 20) (okL.all _ ⟨(Or.inr ⟨Or.inl ⟨by decide, by decide⟩, by decide⟩), (isH.ok h1 (by decide)), trivial⟩) (okS.all _ trivial) (fun ad S Q Qc hC hc k => V_callV (as := [_]) (st := []) (M' := MX7_noteWrongName) (ci := 7) (pc2 := 20) (dk D_X3_linkActs 8 rfl) ml_3_47 mv_X7_noteWrongName rfl rfl (by decide) rfl (Nat.le_of_ble_eq_true rfl) rfl he4 (hC.k' (fixH 67 7 (by decide) rfl)) hc k) hc5 (kRV.k fun  κ6 h mo7 => ?_)
    exact h
theorem k_3_linkActs_20 {X : Cx} {d : Nat} {κ : Km} {Q : Res → Km → Prop} (r1 : Nat) (h : (isH κ r1 0) ∧ K X d MX3_linkActs 25 [(0, vR 78), (1, vR r1), (2, vI (kI κ r1 6))] [] κ Q) : K X d MX3_linkActs 20 [(0, vR 78), (1, vR r1)] [] κ Q := by
  refine K_p (pc2 := 21) (lv2 := [(0, vR 78), (1, vR _)]) (st2 := [vR _]) (fun ad S Q _ k => V_aload_n (pc2 := 21) (dk D_X3_linkActs 9 rfl) rfl (V_lg 1 rfl) rfl k) ?_
  obtain ⟨h1, h⟩ := h
  refine K_getI kc0 (pc2 := 24) 6 (dk D_X3_linkActs 10 rfl) fl_3_51 (by decide) (fun _ _ => rfl) rfl h1 ?_
  refine K_p (pc2 := 25) (lv2 := [(0, vR 78), (1, vR _), (2, vI _)]) (st2 := []) (fun ad S Q _ k => V_istore_n (pc2 := 25) (lv2 := [(0, _), (1, _), (2, _)]) (dk D_X3_linkActs 11 rfl) rfl (by decide) rfl rfl k) ?_
  exact h
theorem k_3_linkActs_25 {X : Cx} {d : Nat} {κ : Km} {Q : Res → Km → Prop} (r1 : Nat) (x2 : Int32) (h : (isH κ r1 0) ∧ (((kI κ r1 7) ≤ x2 → Q (.inl none) κ) ∧ (¬ (kI κ r1 7) ≤ x2 → ∃ e3 : Nat, e3 + 1 ≤ d ∧ KC' X e3 MX1_act [vR 68, vI x2] κ (kRI fun y6 κ7 => ((y6 = 2 → K X d MX3_linkActs 52 [(0, vR 78), (1, vR r1), (2, vI x2), (3, vI y6)] [] κ7 Q) ∧ (¬ y6 = 2 → ((y6 = 3 → K X d MX3_linkActs 52 [(0, vR 78), (1, vR r1), (2, vI x2), (3, vI y6)] [] κ7 Q) ∧ (¬ y6 = 3 → ((y6 = 24 → K X d MX3_linkActs 73 [(0, vR 78), (1, vR r1), (2, vI x2), (3, vI y6)] [] κ7 Q) ∧ (¬ y6 = 24 → ((y6 = 23 → K X d MX3_linkActs 73 [(0, vR 78), (1, vR r1), (2, vI x2), (3, vI y6)] [] κ7 Q) ∧ (¬ y6 = 23 → K X d MX3_linkActs 89 [(0, vR 78), (1, vR r1), (2, vI x2), (3, vI y6)] [] κ7 Q)))))))))))) : K X d MX3_linkActs 25 [(0, vR 78), (1, vR r1), (2, vI x2)] [] κ Q := by
  refine K_p (pc2 := 26) (lv2 := [(0, vR 78), (1, vR _), (2, vI _)]) (st2 := [vI _]) (fun ad S Q _ k => V_iload_n (pc2 := 26) (dk D_X3_linkActs 12 rfl) rfl (V_lg 2 rfl) rfl k) ?_
  refine K_p (pc2 := 27) (lv2 := [(0, vR 78), (1, vR _), (2, vI _)]) (st2 := [vR _, vI _]) (fun ad S Q _ k => V_aload_n (pc2 := 27) (dk D_X3_linkActs 13 rfl) rfl (V_lg 1 rfl) rfl k) ?_
  obtain ⟨h1, h⟩ := h
  refine K_getI kc0 (pc2 := 30) 7 (dk D_X3_linkActs 14 rfl) fl_3_54 (by decide) (fun _ _ => rfl) rfl h1 ?_
  refine K_if (pa := 95) (pb := 33) (lv2 := [(0, vR 78), (1, vR _), (2, vI _)]) (st2 := []) (fun ad S Q _ k1 k2 => V_cmpge (tgt := 95) (pc2 := 33) (dk D_X3_linkActs 15 rfl) (by decide) rfl (fun q => k1 q) (fun q => k2 q)) (fun q2 => ?_) (fun q2 => ?_)
  · have h := h.1 q2
    exact K_ret (r := .inl none) (fun ad S Q _ k => V_return (dk D_X3_linkActs 49 rfl) rfl k) h
  · have h := h.2 q2
    refine K_p (pc2 := 34) (lv2 := [(0, vR 78), (1, vR _), (2, vI _)]) (st2 := [vR 78]) (fun ad S Q _ k => V_aload_n (pc2 := 34) (dk D_X3_linkActs 16 rfl) rfl (V_lg 0 rfl) rfl k) ?_
    refine K_getF kc3 (h' := 68) (pc2 := 37) 2 (by decide) (dk D_X3_linkActs 17 rfl) fl_3_25 (by decide) (fun _ _ => rfl) rfl (fixH 78 3 (by decide) rfl) (by decide) ?_
    refine K_p (pc2 := 38) (lv2 := [(0, vR 78), (1, vR _), (2, vI _)]) (st2 := [vI _, vR 68]) (fun ad S Q _ k => V_iload_n (pc2 := 38) (dk D_X3_linkActs 18 rfl) rfl (V_lg 2 rfl) rfl k) ?_
    obtain ⟨e3, he4, hc5⟩ := h
    refine K_call (as := [vR 68, vI _]) (st := []) (pc2 := 41) (okL.all _ ⟨(Or.inr ⟨Or.inl ⟨by decide, by decide⟩, by decide⟩), (isH.ok h1 (by decide)), trivial, trivial⟩) (okS.all _ trivial) (fun ad S Q Qc hC hc k => V_callV (as := [_]) (st := []) (M' := MX1_act) (ci := 1) (pc2 := 41) (dk D_X3_linkActs 19 rfl) ml_3_57 mv_X1_act rfl rfl (by decide) rfl (Nat.le_of_ble_eq_true rfl) rfl he4 (hC.k' (fixH 68 1 (by decide) rfl)) hc k) hc5 (kRI.k fun y6 κ7 h mo8 => ?_)
    refine K_p (pc2 := 42) (lv2 := [(0, vR 78), (1, vR _), (2, vI _), (3, vI _)]) (st2 := []) (fun ad S Q _ k => V_istore_n (pc2 := 42) (lv2 := [(0, _), (1, _), (2, _), (3, _)]) (dk D_X3_linkActs 20 rfl) rfl (by decide) rfl rfl k) ?_
    refine K_p (pc2 := 43) (lv2 := [(0, vR 78), (1, vR _), (2, vI _), (3, vI _)]) (st2 := [vI _]) (fun ad S Q _ k => V_iload_n (pc2 := 43) (dk D_X3_linkActs 21 rfl) rfl (V_lg 3 rfl) rfl k) ?_
    refine K_p (pc2 := 44) (lv2 := [(0, vR 78), (1, vR _), (2, vI _), (3, vI _)]) (st2 := [vI _, vI _]) (fun ad S Q _ k => V_iconst (x := 2) (pc2 := 44) (dk D_X3_linkActs 22 rfl) (by decide) rfl k) ?_
    refine K_if (pa := 52) (pb := 47) (lv2 := [(0, vR 78), (1, vR _), (2, vI _), (3, vI _)]) (st2 := []) (fun ad S Q _ k1 k2 => V_cmpeq (tgt := 52) (pc2 := 47) (dk D_X3_linkActs 23 rfl) (by decide) rfl (fun q => k1 q) (fun q => k2 q)) (fun q9 => ?_) (fun q9 => ?_)
    · have h := h.1 q9
      exact h
    · have h := h.2 q9
      refine K_p (pc2 := 48) (lv2 := [(0, vR 78), (1, vR _), (2, vI _), (3, vI _)]) (st2 := [vI _]) (fun ad S Q _ k => V_iload_n (pc2 := 48) (dk D_X3_linkActs 24 rfl) rfl (V_lg 3 rfl) rfl k) ?_
      refine K_p (pc2 := 49) (lv2 := [(0, vR 78), (1, vR _), (2, vI _), (3, vI _)]) (st2 := [vI _, vI _]) (fun ad S Q _ k => V_iconst (x := 3) (pc2 := 49) (dk D_X3_linkActs 25 rfl) (by decide) rfl k) ?_
      refine K_if (pa := 52) (pb := 61) (lv2 := [(0, vR 78), (1, vR _), (2, vI _), (3, vI _)]) (st2 := []) (fun ad S Q _ k1 k2 => V_cmpne (tgt := 61) (pc2 := 52) (dk D_X3_linkActs 26 rfl) (by decide) rfl (fun q => k2 q) (fun q => k1 q)) (fun q10 => ?_) (fun q10 => ?_)
      · have h := h.1 q10
        exact h
      · have h := h.2 q10
        refine K_p (pc2 := 62) (lv2 := [(0, vR 78), (1, vR _), (2, vI _), (3, vI _)]) (st2 := [vI _]) (fun ad S Q _ k => V_iload_n (pc2 := 62) (dk D_X3_linkActs 32 rfl) rfl (V_lg 3 rfl) rfl k) ?_
        refine K_p (pc2 := 64) (lv2 := [(0, vR 78), (1, vR _), (2, vI _), (3, vI _)]) (st2 := [vI _, vI _]) (fun ad S Q _ k => V_bipush (x := 24) (pc2 := 64) (dk D_X3_linkActs 33 rfl) (by decide) rfl k) ?_
        refine K_if (pa := 73) (pb := 67) (lv2 := [(0, vR 78), (1, vR _), (2, vI _), (3, vI _)]) (st2 := []) (fun ad S Q _ k1 k2 => V_cmpeq (tgt := 73) (pc2 := 67) (dk D_X3_linkActs 34 rfl) (by decide) rfl (fun q => k1 q) (fun q => k2 q)) (fun q11 => ?_) (fun q11 => ?_)
        · have h := h.1 q11
          exact h
        · have h := h.2 q11
          refine K_p (pc2 := 68) (lv2 := [(0, vR 78), (1, vR _), (2, vI _), (3, vI _)]) (st2 := [vI _]) (fun ad S Q _ k => V_iload_n (pc2 := 68) (dk D_X3_linkActs 35 rfl) rfl (V_lg 3 rfl) rfl k) ?_
          refine K_p (pc2 := 70) (lv2 := [(0, vR 78), (1, vR _), (2, vI _), (3, vI _)]) (st2 := [vI _, vI _]) (fun ad S Q _ k => V_bipush (x := 23) (pc2 := 70) (dk D_X3_linkActs 36 rfl) (by decide) rfl k) ?_
          refine K_if (pa := 73) (pb := 89) (lv2 := [(0, vR 78), (1, vR _), (2, vI _), (3, vI _)]) (st2 := []) (fun ad S Q _ k1 k2 => V_cmpne (tgt := 89) (pc2 := 73) (dk D_X3_linkActs 37 rfl) (by decide) rfl (fun q => k2 q) (fun q => k1 q)) (fun q12 => ?_) (fun q12 => ?_)
          · have h := h.1 q12
            exact h
          · have h := h.2 q12
            exact h
theorem k_3_linkActs_52 {X : Cx} {d : Nat} {κ : Km} {Q : Res → Km → Prop} (r1 : Nat) (x2 : Int32) (x3 : Int32) (h : (isH κ r1 0) ∧ ∃ e1 : Nat, e1 + 1 ≤ d ∧ KC' X e1 MX3_linkVariable [vR 78, vR r1, vI x2] κ (kRV fun  κ5 => K X d MX3_linkActs 89 [(0, vR 78), (1, vR r1), (2, vI x2), (3, vI x3)] [] κ5 Q)) : K X d MX3_linkActs 52 [(0, vR 78), (1, vR r1), (2, vI x2), (3, vI x3)] [] κ Q := by
  refine K_p (pc2 := 53) (lv2 := [(0, vR 78), (1, vR _), (2, vI _), (3, vI _)]) (st2 := [vR 78]) (fun ad S Q _ k => V_aload_n (pc2 := 53) (dk D_X3_linkActs 27 rfl) rfl (V_lg 0 rfl) rfl k) ?_
  refine K_p (pc2 := 54) (lv2 := [(0, vR 78), (1, vR _), (2, vI _), (3, vI _)]) (st2 := [vR _, vR 78]) (fun ad S Q _ k => V_aload_n (pc2 := 54) (dk D_X3_linkActs 28 rfl) rfl (V_lg 1 rfl) rfl k) ?_
  refine K_p (pc2 := 55) (lv2 := [(0, vR 78), (1, vR _), (2, vI _), (3, vI _)]) (st2 := [vI _, vR _, vR 78]) (fun ad S Q _ k => V_iload_n (pc2 := 55) (dk D_X3_linkActs 29 rfl) rfl (V_lg 2 rfl) rfl k) ?_
  obtain ⟨h4, h⟩ := h
  obtain ⟨e1, he2, hc3⟩ := h
  refine K_call (as := [vR 78, vR _, vI _]) (st := []) (pc2 := 58) (okL.all _ ⟨(Or.inr ⟨Or.inl ⟨by decide, by decide⟩, by decide⟩), (isH.ok h4 (by decide)), trivial, trivial, trivial⟩) (okS.all _ trivial) (fun ad S Q Qc hC hc k => V_callV (as := [_, _]) (st := []) (M' := MX3_linkVariable) (ci := 3) (pc2 := 58) (dk D_X3_linkActs 30 rfl) ml_3_63 mv_X3_linkVariable rfl rfl (by decide) rfl (Nat.le_of_ble_eq_true rfl) rfl he2 (hC.k' (fixH 78 3 (by decide) rfl)) hc k) hc3 (kRV.k fun  κ5 h mo6 => ?_)
  refine K_p (pc2 := 89) (lv2 := [(0, vR 78), (1, vR _), (2, vI _), (3, vI _)]) (st2 := []) (fun ad S Q _ k => V_goto (tgt := 89) (dk D_X3_linkActs 31 rfl) (by decide) k) ?_
  exact h
theorem k_3_linkActs_73 {X : Cx} {d : Nat} {κ : Km} {Q : Res → Km → Prop} (r1 : Nat) (x2 : Int32) (x3 : Int32) (h : ((x3 = 23 → K X d MX3_linkActs 86 [(0, vR 78), (1, vR r1), (2, vI x2), (3, vI x3)] [vI 1, vI x2, vR 78] κ Q) ∧ (¬ x3 = 23 → K X d MX3_linkActs 86 [(0, vR 78), (1, vR r1), (2, vI x2), (3, vI x3)] [vI 0, vI x2, vR 78] κ Q))) : K X d MX3_linkActs 73 [(0, vR 78), (1, vR r1), (2, vI x2), (3, vI x3)] [] κ Q := by
  refine K_p (pc2 := 74) (lv2 := [(0, vR 78), (1, vR _), (2, vI _), (3, vI _)]) (st2 := [vR 78]) (fun ad S Q _ k => V_aload_n (pc2 := 74) (dk D_X3_linkActs 38 rfl) rfl (V_lg 0 rfl) rfl k) ?_
  refine K_p (pc2 := 75) (lv2 := [(0, vR 78), (1, vR _), (2, vI _), (3, vI _)]) (st2 := [vI _, vR 78]) (fun ad S Q _ k => V_iload_n (pc2 := 75) (dk D_X3_linkActs 39 rfl) rfl (V_lg 2 rfl) rfl k) ?_
  refine K_p (pc2 := 76) (lv2 := [(0, vR 78), (1, vR _), (2, vI _), (3, vI _)]) (st2 := [vI _, vI _, vR 78]) (fun ad S Q _ k => V_iload_n (pc2 := 76) (dk D_X3_linkActs 40 rfl) rfl (V_lg 3 rfl) rfl k) ?_
  refine K_p (pc2 := 78) (lv2 := [(0, vR 78), (1, vR _), (2, vI _), (3, vI _)]) (st2 := [vI _, vI _, vI _, vR 78]) (fun ad S Q _ k => V_bipush (x := 23) (pc2 := 78) (dk D_X3_linkActs 41 rfl) (by decide) rfl k) ?_
  refine K_if (pa := 81) (pb := 85) (lv2 := [(0, vR 78), (1, vR _), (2, vI _), (3, vI _)]) (st2 := [vI _, vR 78]) (fun ad S Q _ k1 k2 => V_cmpne (tgt := 85) (pc2 := 81) (dk D_X3_linkActs 42 rfl) (by decide) rfl (fun q => k2 q) (fun q => k1 q)) (fun q1 => ?_) (fun q1 => ?_)
  · have h := h.1 q1
    refine K_p (pc2 := 82) (lv2 := [(0, vR 78), (1, vR _), (2, vI _), (3, vI _)]) (st2 := [vI _, vI _, vR 78]) (fun ad S Q _ k => V_iconst (x := 1) (pc2 := 82) (dk D_X3_linkActs 43 rfl) (by decide) rfl k) ?_
    refine K_p (pc2 := 86) (lv2 := [(0, vR 78), (1, vR _), (2, vI _), (3, vI _)]) (st2 := [vI _, vI _, vR 78]) (fun ad S Q _ k => V_goto (tgt := 86) (dk D_X3_linkActs 44 rfl) (by decide) k) ?_
    exact h
  · have h := h.2 q1
    refine K_p (pc2 := 86) (lv2 := [(0, vR 78), (1, vR _), (2, vI _), (3, vI _)]) (st2 := [vI _, vI _, vR 78]) (fun ad S Q _ k => V_iconst (x := 0) (pc2 := 86) (dk D_X3_linkActs 45 rfl) (by decide) rfl k) ?_
    exact h
theorem k_3_linkActs_86 {X : Cx} {d : Nat} {κ : Km} {Q : Res → Km → Prop} (r1 : Nat) (x2 : Int32) (x3 : Int32) (t1 : Int32) (t2 : Int32) (h : (isH κ r1 0) ∧ ∃ e1 : Nat, e1 + 1 ≤ d ∧ KC' X e1 MX3_linkBody [vR 78, vI t1, vI t2] κ (kRV fun  κ5 => K X d MX3_linkActs 89 [(0, vR 78), (1, vR r1), (2, vI x2), (3, vI x3)] [] κ5 Q)) : K X d MX3_linkActs 86 [(0, vR 78), (1, vR r1), (2, vI x2), (3, vI x3)] [vI t2, vI t1, vR 78] κ Q := by
  obtain ⟨h4, h⟩ := h
  obtain ⟨e1, he2, hc3⟩ := h
  refine K_call (as := [vR 78, vI _, vI _]) (st := []) (pc2 := 89) (okL.all _ ⟨(Or.inr ⟨Or.inl ⟨by decide, by decide⟩, by decide⟩), (isH.ok h4 (by decide)), trivial, trivial, trivial⟩) (okS.all _ trivial) (fun ad S Q Qc hC hc k => V_callV (as := [_, _]) (st := []) (M' := MX3_linkBody) (ci := 3) (pc2 := 89) (dk D_X3_linkActs 46 rfl) ml_3_67 mv_X3_linkBody rfl rfl (by decide) rfl (Nat.le_of_ble_eq_true rfl) rfl he2 (hC.k' (fixH 78 3 (by decide) rfl)) hc k) hc3 (kRV.k fun  κ5 h mo6 => ?_)
  exact h
theorem k_3_linkActs_89 {X : Cx} {d : Nat} {κ : Km} {Q : Res → Km → Prop} (r1 : Nat) (x2 : Int32) (x3 : Int32) (h : K X d MX3_linkActs 25 [(0, vR 78), (1, vR r1), (2, vI (x2 + 1))] [] κ Q) : K X d MX3_linkActs 89 [(0, vR 78), (1, vR r1), (2, vI x2), (3, vI x3)] [] κ Q := by
  refine K_p (pc2 := 92) (lv2 := [(0, vR 78), (1, vR _), (2, vI _), (3, vI _)]) (st2 := []) (fun ad S Q _ k => V_iinc (y := _ + 1) (pc2 := 92) (lv2 := [(0, _), (1, _), (2, _), (3, _)]) (dk D_X3_linkActs 47 rfl) (V_lg 2 rfl) rfl (by decide) rfl rfl k) ?_
  refine K_p (pc2 := 25) (lv2 := [(0, vR 78), (1, vR _), (2, vI _), (3, vI _)]) (st2 := []) (fun ad S Q _ k => V_goto (tgt := 25) (dk D_X3_linkActs 48 rfl) (by decide) k) ?_
  refine K_p (pc2 := 25) (lv2 := [(0, vR 78), (1, vR _), (2, vI _)]) (st2 := []) (fun ad S Q _ k => V_pick [0, 1, 2] (lv2 := [(0, _), (1, _), (2, _)]) rfl k) ?_
  exact h
theorem k_3_linkVariable_0 {X : Cx} {d : Nat} {κ : Km} {Q : Res → Km → Prop} (r1 : Nat) (x2 : Int32) (h : (isH κ r1 0) ∧ ∃ e1 : Nat, e1 + 1 ≤ d ∧ KC' X e1 MX1_argument [vR 68, vI x2] κ (kRI fun y4 κ6 => ∃ e8 : Nat, e8 + 1 ≤ d ∧ KC' X e8 MX9_valueOf [vR 72, vI ((-1) - y4)] κ6 (kRJ fun w11 κ12 => ∃ e14 : Nat, e14 + 1 ≤ d ∧ KC' X e14 MX0_find [vR r1, vL w11] κ12 (kRI fun y17 κ18 => ((y17 = (-9) → ∃ e21 : Nat, e21 + 1 ≤ d ∧ KC' X e21 MX1_act [vR 68, vI x2] κ18 (kRI fun y24 κ25 => ((y24 = 2 → ∃ e28 : Nat, e28 + 1 ≤ d ∧ KC' X e28 MX3_isStored [vR 78, vR r1, vL w11] κ25 (kRI fun y31 κ32 => ((y31 = 0 → ∃ e35 : Nat, e35 + 1 ≤ d ∧ KC' X e35 MX9_placeOf [vR 72, vI ((-1) - y4)] κ32 (kRI fun y38 κ39 => ∃ e41 : Nat, e41 + 1 ≤ d ∧ KC' X e41 MX7_noteWrongName [vR 67, vI y38] κ39 (kRV fun  κ44 => K X d MX3_linkVariable 86 [(0, vR 78), (1, vR r1), (2, vI x2), (3, vI ((-1) - y4)), (4, vL w11), (6, vI y17)] [] κ44 Q))) ∧ (¬ y31 = 0 → K X d MX3_linkVariable 86 [(0, vR 78), (1, vR r1), (2, vI x2), (3, vI ((-1) - y4)), (4, vL w11), (6, vI y17)] [] κ32 Q)))) ∧ (¬ y24 = 2 → K X d MX3_linkVariable 86 [(0, vR 78), (1, vR r1), (2, vI x2), (3, vI ((-1) - y4)), (4, vL w11), (6, vI y17)] [] κ25 Q)))) ∧ (¬ y17 = (-9) → ∃ e46 : Nat, e46 + 1 ≤ d ∧ KC' X e46 MX1_patch [vR 68, vI x2, vI y17] κ18 (kRV fun  κ49 => K X d MX3_linkVariable 86 [(0, vR 78), (1, vR r1), (2, vI x2), (3, vI ((-1) - y4)), (4, vL w11), (6, vI y17)] [] κ49 Q))))))) : K X d MX3_linkVariable 0 [(0, vR 78), (1, vR r1), (2, vI x2)] [] κ Q := by
  refine K_p (pc2 := 1) (lv2 := [(0, vR 78), (1, vR _), (2, vI _)]) (st2 := [vI _]) (fun ad S Q _ k => V_iconst (x := (-1)) (pc2 := 1) (dk D_X3_linkVariable 0 rfl) (by decide) rfl k) ?_
  refine K_p (pc2 := 2) (lv2 := [(0, vR 78), (1, vR _), (2, vI _)]) (st2 := [vR 78, vI _]) (fun ad S Q _ k => V_aload_n (pc2 := 2) (dk D_X3_linkVariable 1 rfl) rfl (V_lg 0 rfl) rfl k) ?_
  refine K_getF kc3 (h' := 68) (pc2 := 5) 2 (by decide) (dk D_X3_linkVariable 2 rfl) fl_3_25 (by decide) (fun _ _ => rfl) rfl (fixH 78 3 (by decide) rfl) (by decide) ?_
  refine K_p (pc2 := 6) (lv2 := [(0, vR 78), (1, vR _), (2, vI _)]) (st2 := [vI _, vR 68, vI _]) (fun ad S Q _ k => V_iload_n (pc2 := 6) (dk D_X3_linkVariable 3 rfl) rfl (V_lg 2 rfl) rfl k) ?_
  obtain ⟨h5, h⟩ := h
  obtain ⟨e1, he2, hc3⟩ := h
  refine K_call (as := [vR 68, vI _]) (st := [vI _]) (pc2 := 9) (okL.all _ ⟨(Or.inr ⟨Or.inl ⟨by decide, by decide⟩, by decide⟩), (isH.ok h5 (by decide)), trivial, trivial⟩) (okS.all _ ⟨trivial, trivial⟩) (fun ad S Q Qc hC hc k => V_callV (as := [_]) (st := [_]) (M' := MX1_argument) (ci := 1) (pc2 := 9) (dk D_X3_linkVariable 4 rfl) ml_3_71 mv_X1_argument rfl rfl (by decide) rfl (Nat.le_of_ble_eq_true rfl) rfl he2 (hC.k' (fixH 68 1 (by decide) rfl)) hc k) hc3 (kRI.k fun y4 κ6 h mo7 => ?_)
  refine K_p (pc2 := 10) (lv2 := [(0, vR 78), (1, vR _), (2, vI _)]) (st2 := [vI _]) (fun ad S Q _ k => V_isub (pc2 := 10) (dk D_X3_linkVariable 5 rfl) rfl k) ?_
  refine K_p (pc2 := 11) (lv2 := [(0, vR 78), (1, vR _), (2, vI _), (3, vI _)]) (st2 := []) (fun ad S Q _ k => V_istore_n (pc2 := 11) (lv2 := [(0, _), (1, _), (2, _), (3, _)]) (dk D_X3_linkVariable 6 rfl) rfl (by decide) rfl rfl k) ?_
  refine K_p (pc2 := 12) (lv2 := [(0, vR 78), (1, vR _), (2, vI _), (3, vI _)]) (st2 := [vR 78]) (fun ad S Q _ k => V_aload_n (pc2 := 12) (dk D_X3_linkVariable 7 rfl) rfl (V_lg 0 rfl) rfl k) ?_
  refine K_getF kc3 (h' := 72) (pc2 := 15) 0 (by decide) (dk D_X3_linkVariable 8 rfl) fl_3_9 (by decide) (fun _ _ => rfl) rfl (fixH 78 3 (by decide) rfl) (by decide) ?_
  refine K_p (pc2 := 16) (lv2 := [(0, vR 78), (1, vR _), (2, vI _), (3, vI _)]) (st2 := [vI _, vR 72]) (fun ad S Q _ k => V_iload_n (pc2 := 16) (dk D_X3_linkVariable 9 rfl) rfl (V_lg 3 rfl) rfl k) ?_
  obtain ⟨e8, he9, hc10⟩ := h
  refine K_call (as := [vR 72, vI _]) (st := []) (pc2 := 19) (okL.all _ ⟨(Or.inr ⟨Or.inl ⟨by decide, by decide⟩, by decide⟩), (isH.ok (isH.mo h5 (by decide) mo7) (by decide)), trivial, trivial, trivial⟩) (okS.all _ trivial) (fun ad S Q Qc hC hc k => V_callV (as := [_]) (st := []) (M' := MX9_valueOf) (ci := 9) (pc2 := 19) (dk D_X3_linkVariable 10 rfl) ml_3_74 mv_X9_valueOf rfl rfl (by decide) rfl (Nat.le_of_ble_eq_true rfl) rfl he9 (hC.k' (fixH 72 9 (by decide) rfl)) hc k) hc10 (kRJ.k fun w11 κ12 h mo13 => ?_)
  refine K_p (pc2 := 21) (lv2 := [(0, vR 78), (1, vR _), (2, vI _), (3, vI _), (4, vL _)]) (st2 := []) (fun ad S Q _ k => V_lstore (pc2 := 21) (lv2 := [(0, _), (1, _), (2, _), (3, _), (4, _)]) (dk D_X3_linkVariable 11 rfl) (by decide) rfl rfl k) ?_
  refine K_p (pc2 := 22) (lv2 := [(0, vR 78), (1, vR _), (2, vI _), (3, vI _), (4, vL _)]) (st2 := [vR _]) (fun ad S Q _ k => V_aload_n (pc2 := 22) (dk D_X3_linkVariable 12 rfl) rfl (V_lg 1 rfl) rfl k) ?_
  refine K_p (pc2 := 24) (lv2 := [(0, vR 78), (1, vR _), (2, vI _), (3, vI _), (4, vL _)]) (st2 := [vL _, vR _]) (fun ad S Q _ k => V_lload (pc2 := 24) (dk D_X3_linkVariable 13 rfl) (V_lg 4 rfl) rfl k) ?_
  obtain ⟨e14, he15, hc16⟩ := h
  refine K_call (as := [vR _, vL _]) (st := []) (pc2 := 27) (okL.all _ ⟨(Or.inr ⟨Or.inl ⟨by decide, by decide⟩, by decide⟩), (isH.ok (isH.mo (isH.mo h5 (by decide) mo7) (by decide) mo13) (by decide)), trivial, trivial, trivial, trivial⟩) (okS.all _ trivial) (fun ad S Q Qc hC hc k => V_callV (as := [_]) (st := []) (M' := MX0_find) (ci := 0) (pc2 := 27) (dk D_X3_linkVariable 14 rfl) ml_3_80 mv_X0_find rfl rfl (by decide) rfl (Nat.le_of_ble_eq_true rfl) rfl he15 (hC.k' (isH.mo (isH.mo h5 (by decide) mo7) (by decide) mo13)) hc k) hc16 (kRI.k fun y17 κ18 h mo19 => ?_)
  refine K_p (pc2 := 29) (lv2 := [(0, vR 78), (1, vR _), (2, vI _), (3, vI _), (4, vL _), (6, vI _)]) (st2 := []) (fun ad S Q _ k => V_istore (pc2 := 29) (lv2 := [(0, _), (1, _), (2, _), (3, _), (4, _), (6, _)]) (dk D_X3_linkVariable 15 rfl) (by decide) rfl rfl k) ?_
  refine K_p (pc2 := 31) (lv2 := [(0, vR 78), (1, vR _), (2, vI _), (3, vI _), (4, vL _), (6, vI _)]) (st2 := [vI _]) (fun ad S Q _ k => V_iload (pc2 := 31) (dk D_X3_linkVariable 16 rfl) (V_lg 5 rfl) rfl k) ?_
  refine K_p (pc2 := 33) (lv2 := [(0, vR 78), (1, vR _), (2, vI _), (3, vI _), (4, vL _), (6, vI _)]) (st2 := [vI _, vI _]) (fun ad S Q _ k => V_bipush (x := (-9)) (pc2 := 33) (dk D_X3_linkVariable 17 rfl) (by decide) rfl k) ?_
  refine K_if (pa := 49) (pb := 36) (lv2 := [(0, vR 78), (1, vR _), (2, vI _), (3, vI _), (4, vL _), (6, vI _)]) (st2 := []) (fun ad S Q _ k1 k2 => V_cmpeq (tgt := 49) (pc2 := 36) (dk D_X3_linkVariable 18 rfl) (by decide) rfl (fun q => k1 q) (fun q => k2 q)) (fun q20 => ?_) (fun q20 => ?_)
  · have h := h.1 q20
    refine K_p (pc2 := 50) (lv2 := [(0, vR 78), (1, vR _), (2, vI _), (3, vI _), (4, vL _), (6, vI _)]) (st2 := [vR 78]) (fun ad S Q _ k => V_aload_n (pc2 := 50) (dk D_X3_linkVariable 25 rfl) rfl (V_lg 0 rfl) rfl k) ?_
    refine K_getF kc3 (h' := 68) (pc2 := 53) 2 (by decide) (dk D_X3_linkVariable 26 rfl) fl_3_25 (by decide) (fun _ _ => rfl) rfl (fixH 78 3 (by decide) rfl) (by decide) ?_
    refine K_p (pc2 := 54) (lv2 := [(0, vR 78), (1, vR _), (2, vI _), (3, vI _), (4, vL _), (6, vI _)]) (st2 := [vI _, vR 68]) (fun ad S Q _ k => V_iload_n (pc2 := 54) (dk D_X3_linkVariable 27 rfl) rfl (V_lg 2 rfl) rfl k) ?_
    obtain ⟨e21, he22, hc23⟩ := h
    refine K_call (as := [vR 68, vI _]) (st := []) (pc2 := 57) (okL.all _ ⟨(Or.inr ⟨Or.inl ⟨by decide, by decide⟩, by decide⟩), (isH.ok (isH.mo (isH.mo (isH.mo h5 (by decide) mo7) (by decide) mo13) (by decide) mo19) (by decide)), trivial, trivial, trivial, trivial, trivial⟩) (okS.all _ trivial) (fun ad S Q Qc hC hc k => V_callV (as := [_]) (st := []) (M' := MX1_act) (ci := 1) (pc2 := 57) (dk D_X3_linkVariable 28 rfl) ml_3_57 mv_X1_act rfl rfl (by decide) rfl (Nat.le_of_ble_eq_true rfl) rfl he22 (hC.k' (fixH 68 1 (by decide) rfl)) hc k) hc23 (kRI.k fun y24 κ25 h mo26 => ?_)
    refine K_p (pc2 := 58) (lv2 := [(0, vR 78), (1, vR _), (2, vI _), (3, vI _), (4, vL _), (6, vI _)]) (st2 := [vI _, vI _]) (fun ad S Q _ k => V_iconst (x := 2) (pc2 := 58) (dk D_X3_linkVariable 29 rfl) (by decide) rfl k) ?_
    refine K_if (pa := 61) (pb := 86) (lv2 := [(0, vR 78), (1, vR _), (2, vI _), (3, vI _), (4, vL _), (6, vI _)]) (st2 := []) (fun ad S Q _ k1 k2 => V_cmpne (tgt := 86) (pc2 := 61) (dk D_X3_linkVariable 30 rfl) (by decide) rfl (fun q => k2 q) (fun q => k1 q)) (fun q27 => ?_) (fun q27 => ?_)
    · have h := h.1 q27
      refine K_p (pc2 := 62) (lv2 := [(0, vR 78), (1, vR _), (2, vI _), (3, vI _), (4, vL _), (6, vI _)]) (st2 := [vR 78]) (fun ad S Q _ k => V_aload_n (pc2 := 62) (dk D_X3_linkVariable 31 rfl) rfl (V_lg 0 rfl) rfl k) ?_
      refine K_p (pc2 := 63) (lv2 := [(0, vR 78), (1, vR _), (2, vI _), (3, vI _), (4, vL _), (6, vI _)]) (st2 := [vR _, vR 78]) (fun ad S Q _ k => V_aload_n (pc2 := 63) (dk D_X3_linkVariable 32 rfl) rfl (V_lg 1 rfl) rfl k) ?_
      refine K_p (pc2 := 65) (lv2 := [(0, vR 78), (1, vR _), (2, vI _), (3, vI _), (4, vL _), (6, vI _)]) (st2 := [vL _, vR _, vR 78]) (fun ad S Q _ k => V_lload (pc2 := 65) (dk D_X3_linkVariable 33 rfl) (V_lg 4 rfl) rfl k) ?_
      obtain ⟨e28, he29, hc30⟩ := h
      refine K_call (as := [vR 78, vR _, vL _]) (st := []) (pc2 := 68) (okL.all _ ⟨(Or.inr ⟨Or.inl ⟨by decide, by decide⟩, by decide⟩), (isH.ok (isH.mo (isH.mo (isH.mo (isH.mo h5 (by decide) mo7) (by decide) mo13) (by decide) mo19) (by decide) mo26) (by decide)), trivial, trivial, trivial, trivial, trivial⟩) (okS.all _ trivial) (fun ad S Q Qc hC hc k => V_callV (as := [_, _]) (st := []) (M' := MX3_isStored) (ci := 3) (pc2 := 68) (dk D_X3_linkVariable 34 rfl) ml_3_88 mv_X3_isStored rfl rfl (by decide) rfl (Nat.le_of_ble_eq_true rfl) rfl he29 (hC.k' (fixH 78 3 (by decide) rfl)) hc k) hc30 (kRI.k fun y31 κ32 h mo33 => ?_)
      refine K_if (pa := 71) (pb := 86) (lv2 := [(0, vR 78), (1, vR _), (2, vI _), (3, vI _), (4, vL _), (6, vI _)]) (st2 := []) (fun ad S Q _ k1 k2 => V_ifne (tgt := 86) (pc2 := 71) (dk D_X3_linkVariable 35 rfl) (by decide) rfl (fun q => k2 q) (fun q => k1 q)) (fun q34 => ?_) (fun q34 => ?_)
      · have h := h.1 q34
        refine K_p (pc2 := 72) (lv2 := [(0, vR 78), (1, vR _), (2, vI _), (3, vI _), (4, vL _), (6, vI _)]) (st2 := [vR 78]) (fun ad S Q _ k => V_aload_n (pc2 := 72) (dk D_X3_linkVariable 36 rfl) rfl (V_lg 0 rfl) rfl k) ?_
        refine K_getF kc3 (h' := 67) (pc2 := 75) 1 (by decide) (dk D_X3_linkVariable 37 rfl) fl_3_15 (by decide) (fun _ _ => rfl) rfl (fixH 78 3 (by decide) rfl) (by decide) ?_
        refine K_p (pc2 := 76) (lv2 := [(0, vR 78), (1, vR _), (2, vI _), (3, vI _), (4, vL _), (6, vI _)]) (st2 := [vR 78, vR 67]) (fun ad S Q _ k => V_aload_n (pc2 := 76) (dk D_X3_linkVariable 38 rfl) rfl (V_lg 0 rfl) rfl k) ?_
        refine K_getF kc3 (h' := 72) (pc2 := 79) 0 (by decide) (dk D_X3_linkVariable 39 rfl) fl_3_9 (by decide) (fun _ _ => rfl) rfl (fixH 78 3 (by decide) rfl) (by decide) ?_
        refine K_p (pc2 := 80) (lv2 := [(0, vR 78), (1, vR _), (2, vI _), (3, vI _), (4, vL _), (6, vI _)]) (st2 := [vI _, vR 72, vR 67]) (fun ad S Q _ k => V_iload_n (pc2 := 80) (dk D_X3_linkVariable 40 rfl) rfl (V_lg 3 rfl) rfl k) ?_
        obtain ⟨e35, he36, hc37⟩ := h
        refine K_call (as := [vR 72, vI _]) (st := [vR 67]) (pc2 := 83) (okL.all _ ⟨(Or.inr ⟨Or.inl ⟨by decide, by decide⟩, by decide⟩), (isH.ok (isH.mo (isH.mo (isH.mo (isH.mo (isH.mo h5 (by decide) mo7) (by decide) mo13) (by decide) mo19) (by decide) mo26) (by decide) mo33) (by decide)), trivial, trivial, trivial, trivial, trivial⟩) (okS.all _ ⟨(Or.inr ⟨Or.inl ⟨by decide, by decide⟩, by decide⟩), trivial⟩) (fun ad S Q Qc hC hc k => V_callV (as := [_]) (st := [_]) (M' := MX9_placeOf) (ci := 9) (pc2 := 83) (dk D_X3_linkVariable 41 rfl) ml_3_92 mv_X9_placeOf rfl rfl (by decide) rfl (Nat.le_of_ble_eq_true rfl) rfl he36 (hC.k' (fixH 72 9 (by decide) rfl)) hc k) hc37 (kRI.k fun y38 κ39 h mo40 => ?_)
        obtain ⟨e41, he42, hc43⟩ := h
        refine K_call (as := [vR 67, vI _]) (st := []) (pc2 := 86) (okL.all _ ⟨(Or.inr ⟨Or.inl ⟨by decide, by decide⟩, by decide⟩), (isH.ok (isH.mo (isH.mo (isH.mo (isH.mo (isH.mo (isH.mo h5 (by decide) mo7) (by decide) mo13) (by decide) mo19) (by decide) mo26) (by decide) mo33) (by decide) mo40) (by decide)), trivial, trivial, trivial, trivial, trivial⟩) (okS.all _ trivial) (fun ad S Q Qc hC hc k => V_callV (as := [_]) (st := []) (M' := MX7_noteWrongName) (ci := 7) (pc2 := 86) (dk D_X3_linkVariable 42 rfl) ml_3_47 mv_X7_noteWrongName rfl rfl (by decide) rfl (Nat.le_of_ble_eq_true rfl) rfl he42 (hC.k' (fixH 67 7 (by decide) rfl)) hc k) hc43 (kRV.k fun  κ44 h mo45 => ?_)
        exact h
      · have h := h.2 q34
        exact h
    · have h := h.2 q27
      exact h
  · have h := h.2 q20
    refine K_p (pc2 := 37) (lv2 := [(0, vR 78), (1, vR _), (2, vI _), (3, vI _), (4, vL _), (6, vI _)]) (st2 := [vR 78]) (fun ad S Q _ k => V_aload_n (pc2 := 37) (dk D_X3_linkVariable 19 rfl) rfl (V_lg 0 rfl) rfl k) ?_
    refine K_getF kc3 (h' := 68) (pc2 := 40) 2 (by decide) (dk D_X3_linkVariable 20 rfl) fl_3_25 (by decide) (fun _ _ => rfl) rfl (fixH 78 3 (by decide) rfl) (by decide) ?_
    refine K_p (pc2 := 41) (lv2 := [(0, vR 78), (1, vR _), (2, vI _), (3, vI _), (4, vL _), (6, vI _)]) (st2 := [vI _, vR 68]) (fun ad S Q _ k => V_iload_n (pc2 := 41) (dk D_X3_linkVariable 21 rfl) rfl (V_lg 2 rfl) rfl k) ?_
    refine K_p (pc2 := 43) (lv2 := [(0, vR 78), (1, vR _), (2, vI _), (3, vI _), (4, vL _), (6, vI _)]) (st2 := [vI _, vI _, vR 68]) (fun ad S Q _ k => V_iload (pc2 := 43) (dk D_X3_linkVariable 22 rfl) (V_lg 5 rfl) rfl k) ?_
    obtain ⟨e46, he47, hc48⟩ := h
    refine K_call (as := [vR 68, vI _, vI _]) (st := []) (pc2 := 46) (okL.all _ ⟨(Or.inr ⟨Or.inl ⟨by decide, by decide⟩, by decide⟩), (isH.ok (isH.mo (isH.mo (isH.mo h5 (by decide) mo7) (by decide) mo13) (by decide) mo19) (by decide)), trivial, trivial, trivial, trivial, trivial⟩) (okS.all _ trivial) (fun ad S Q Qc hC hc k => V_callV (as := [_, _]) (st := []) (M' := MX1_patch) (ci := 1) (pc2 := 46) (dk D_X3_linkVariable 23 rfl) ml_3_84 mv_X1_patch rfl rfl (by decide) rfl (Nat.le_of_ble_eq_true rfl) rfl he47 (hC.k' (fixH 68 1 (by decide) rfl)) hc k) hc48 (kRV.k fun  κ49 h mo50 => ?_)
    refine K_p (pc2 := 86) (lv2 := [(0, vR 78), (1, vR _), (2, vI _), (3, vI _), (4, vL _), (6, vI _)]) (st2 := []) (fun ad S Q _ k => V_goto (tgt := 86) (dk D_X3_linkVariable 24 rfl) (by decide) k) ?_
    exact h
theorem k_3_linkVariable_86 {X : Cx} {d : Nat} {κ : Km} {Q : Res → Km → Prop} (r1 : Nat) (x2 : Int32) (x3 : Int32) (l4 : Int64) (x6 : Int32) (h : Q (.inl none) κ) : K X d MX3_linkVariable 86 [(0, vR 78), (1, vR r1), (2, vI x2), (3, vI x3), (4, vL l4), (6, vI x6)] [] κ Q := by
  exact K_ret (r := .inl none) (fun ad S Q _ k => V_return (dk D_X3_linkVariable 43 rfl) rfl k) h
theorem k_3_isStored_0 {X : Cx} {d : Nat} {κ : Km} {Q : Res → Km → Prop} (r1 : Nat) (l2 : Int64) (h : (isH κ r1 0) ∧ K X d MX3_isStored 6 [(0, vR 78), (1, vR r1), (2, vL l2), (4, vI (kI κ r1 6))] [] κ Q) : K X d MX3_isStored 0 [(0, vR 78), (1, vR r1), (2, vL l2)] [] κ Q := by
  refine K_p (pc2 := 1) (lv2 := [(0, vR 78), (1, vR _), (2, vL _)]) (st2 := [vR _]) (fun ad S Q _ k => V_aload_n (pc2 := 1) (dk D_X3_isStored 0 rfl) rfl (V_lg 1 rfl) rfl k) ?_
  obtain ⟨h1, h⟩ := h
  refine K_getI kc0 (pc2 := 4) 6 (dk D_X3_isStored 1 rfl) fl_3_51 (by decide) (fun _ _ => rfl) rfl h1 ?_
  refine K_p (pc2 := 6) (lv2 := [(0, vR 78), (1, vR _), (2, vL _), (4, vI _)]) (st2 := []) (fun ad S Q _ k => V_istore (pc2 := 6) (lv2 := [(0, _), (1, _), (2, _), (4, _)]) (dk D_X3_isStored 2 rfl) (by decide) rfl rfl k) ?_
  exact h
theorem k_3_isStored_6 {X : Cx} {d : Nat} {κ : Km} {Q : Res → Km → Prop} (r1 : Nat) (l2 : Int64) (x4 : Int32) (h : (isH κ r1 0) ∧ (((kI κ r1 7) ≤ x4 → K X d MX3_isStored 80 [(0, vR 78), (1, vR r1), (2, vL l2), (4, vI x4)] [] κ Q) ∧ (¬ (kI κ r1 7) ≤ x4 → (((kI κ r1 8) = (-9) → K X d MX3_isStored 80 [(0, vR 78), (1, vR r1), (2, vL l2), (4, vI x4)] [] κ Q) ∧ (¬ (kI κ r1 8) = (-9) → ∃ e4 : Nat, e4 + 1 ≤ d ∧ KC' X e4 MX1_act [vR 68, vI x4] κ (kRI fun y7 κ8 => ((y7 = 3 → ∃ e11 : Nat, e11 + 1 ≤ d ∧ KC' X e11 MX1_argument [vR 68, vI x4] κ8 (kRI fun y14 κ15 => ((0 ≤ y14 → K X d MX3_isStored 74 [(0, vR 78), (1, vR r1), (2, vL l2), (4, vI x4)] [] κ15 Q) ∧ (¬ 0 ≤ y14 → ∃ e18 : Nat, e18 + 1 ≤ d ∧ KC' X e18 MX1_argument [vR 68, vI x4] κ15 (kRI fun y21 κ22 => ∃ e24 : Nat, e24 + 1 ≤ d ∧ KC' X e24 MX9_valueOf [vR 72, vI ((-1) - y21)] κ22 (kRJ fun w27 κ28 => (((lg_cmp w27 l2) = 0 → Q (.inl (some (vI 1))) κ28) ∧ (¬ (lg_cmp w27 l2) = 0 → K X d MX3_isStored 74 [(0, vR 78), (1, vR r1), (2, vL l2), (4, vI x4)] [] κ28 Q)))))))) ∧ (¬ y7 = 3 → K X d MX3_isStored 74 [(0, vR 78), (1, vR r1), (2, vL l2), (4, vI x4)] [] κ8 Q)))))))) : K X d MX3_isStored 6 [(0, vR 78), (1, vR r1), (2, vL l2), (4, vI x4)] [] κ Q := by
  refine K_p (pc2 := 8) (lv2 := [(0, vR 78), (1, vR _), (2, vL _), (4, vI _)]) (st2 := [vI _]) (fun ad S Q _ k => V_iload (pc2 := 8) (dk D_X3_isStored 3 rfl) (V_lg 3 rfl) rfl k) ?_
  refine K_p (pc2 := 9) (lv2 := [(0, vR 78), (1, vR _), (2, vL _), (4, vI _)]) (st2 := [vR _, vI _]) (fun ad S Q _ k => V_aload_n (pc2 := 9) (dk D_X3_isStored 4 rfl) rfl (V_lg 1 rfl) rfl k) ?_
  obtain ⟨h1, h⟩ := h
  refine K_getI kc0 (pc2 := 12) 7 (dk D_X3_isStored 5 rfl) fl_3_54 (by decide) (fun _ _ => rfl) rfl h1 ?_
  refine K_if (pa := 80) (pb := 15) (lv2 := [(0, vR 78), (1, vR _), (2, vL _), (4, vI _)]) (st2 := []) (fun ad S Q _ k1 k2 => V_cmpge (tgt := 80) (pc2 := 15) (dk D_X3_isStored 6 rfl) (by decide) rfl (fun q => k1 q) (fun q => k2 q)) (fun q2 => ?_) (fun q2 => ?_)
  · have h := h.1 q2
    exact h
  · have h := h.2 q2
    refine K_p (pc2 := 16) (lv2 := [(0, vR 78), (1, vR _), (2, vL _), (4, vI _)]) (st2 := [vR _]) (fun ad S Q _ k => V_aload_n (pc2 := 16) (dk D_X3_isStored 7 rfl) rfl (V_lg 1 rfl) rfl k) ?_
    refine K_getI kc0 (pc2 := 19) 8 (dk D_X3_isStored 8 rfl) fl_3_41 (by decide) (fun _ _ => rfl) rfl h1 ?_
    refine K_p (pc2 := 21) (lv2 := [(0, vR 78), (1, vR _), (2, vL _), (4, vI _)]) (st2 := [vI _, vI _]) (fun ad S Q _ k => V_bipush (x := (-9)) (pc2 := 21) (dk D_X3_isStored 9 rfl) (by decide) rfl k) ?_
    refine K_if (pa := 80) (pb := 24) (lv2 := [(0, vR 78), (1, vR _), (2, vL _), (4, vI _)]) (st2 := []) (fun ad S Q _ k1 k2 => V_cmpeq (tgt := 80) (pc2 := 24) (dk D_X3_isStored 10 rfl) (by decide) rfl (fun q => k1 q) (fun q => k2 q)) (fun q3 => ?_) (fun q3 => ?_)
    · have h := h.1 q3
      exact h
    · have h := h.2 q3
      refine K_p (pc2 := 25) (lv2 := [(0, vR 78), (1, vR _), (2, vL _), (4, vI _)]) (st2 := [vR 78]) (fun ad S Q _ k => V_aload_n (pc2 := 25) (dk D_X3_isStored 11 rfl) rfl (V_lg 0 rfl) rfl k) ?_
      refine K_getF kc3 (h' := 68) (pc2 := 28) 2 (by decide) (dk D_X3_isStored 12 rfl) fl_3_25 (by decide) (fun _ _ => rfl) rfl (fixH 78 3 (by decide) rfl) (by decide) ?_
      refine K_p (pc2 := 30) (lv2 := [(0, vR 78), (1, vR _), (2, vL _), (4, vI _)]) (st2 := [vI _, vR 68]) (fun ad S Q _ k => V_iload (pc2 := 30) (dk D_X3_isStored 13 rfl) (V_lg 3 rfl) rfl k) ?_
      obtain ⟨e4, he5, hc6⟩ := h
      refine K_call (as := [vR 68, vI _]) (st := []) (pc2 := 33) (okL.all _ ⟨(Or.inr ⟨Or.inl ⟨by decide, by decide⟩, by decide⟩), (isH.ok h1 (by decide)), trivial, trivial, trivial⟩) (okS.all _ trivial) (fun ad S Q Qc hC hc k => V_callV (as := [_]) (st := []) (M' := MX1_act) (ci := 1) (pc2 := 33) (dk D_X3_isStored 14 rfl) ml_3_57 mv_X1_act rfl rfl (by decide) rfl (Nat.le_of_ble_eq_true rfl) rfl he5 (hC.k' (fixH 68 1 (by decide) rfl)) hc k) hc6 (kRI.k fun y7 κ8 h mo9 => ?_)
      refine K_p (pc2 := 34) (lv2 := [(0, vR 78), (1, vR _), (2, vL _), (4, vI _)]) (st2 := [vI _, vI _]) (fun ad S Q _ k => V_iconst (x := 3) (pc2 := 34) (dk D_X3_isStored 15 rfl) (by decide) rfl k) ?_
      refine K_if (pa := 37) (pb := 74) (lv2 := [(0, vR 78), (1, vR _), (2, vL _), (4, vI _)]) (st2 := []) (fun ad S Q _ k1 k2 => V_cmpne (tgt := 74) (pc2 := 37) (dk D_X3_isStored 16 rfl) (by decide) rfl (fun q => k2 q) (fun q => k1 q)) (fun q10 => ?_) (fun q10 => ?_)
      · have h := h.1 q10
        refine K_p (pc2 := 38) (lv2 := [(0, vR 78), (1, vR _), (2, vL _), (4, vI _)]) (st2 := [vR 78]) (fun ad S Q _ k => V_aload_n (pc2 := 38) (dk D_X3_isStored 17 rfl) rfl (V_lg 0 rfl) rfl k) ?_
        refine K_getF kc3 (h' := 68) (pc2 := 41) 2 (by decide) (dk D_X3_isStored 18 rfl) fl_3_25 (by decide) (fun _ _ => rfl) rfl (fixH 78 3 (by decide) rfl) (by decide) ?_
        refine K_p (pc2 := 43) (lv2 := [(0, vR 78), (1, vR _), (2, vL _), (4, vI _)]) (st2 := [vI _, vR 68]) (fun ad S Q _ k => V_iload (pc2 := 43) (dk D_X3_isStored 19 rfl) (V_lg 3 rfl) rfl k) ?_
        obtain ⟨e11, he12, hc13⟩ := h
        refine K_call (as := [vR 68, vI _]) (st := []) (pc2 := 46) (okL.all _ ⟨(Or.inr ⟨Or.inl ⟨by decide, by decide⟩, by decide⟩), (isH.ok (isH.mo h1 (by decide) mo9) (by decide)), trivial, trivial, trivial⟩) (okS.all _ trivial) (fun ad S Q Qc hC hc k => V_callV (as := [_]) (st := []) (M' := MX1_argument) (ci := 1) (pc2 := 46) (dk D_X3_isStored 20 rfl) ml_3_71 mv_X1_argument rfl rfl (by decide) rfl (Nat.le_of_ble_eq_true rfl) rfl he12 (hC.k' (fixH 68 1 (by decide) rfl)) hc k) hc13 (kRI.k fun y14 κ15 h mo16 => ?_)
        refine K_if (pa := 74) (pb := 49) (lv2 := [(0, vR 78), (1, vR _), (2, vL _), (4, vI _)]) (st2 := []) (fun ad S Q _ k1 k2 => V_ifge (tgt := 74) (pc2 := 49) (dk D_X3_isStored 21 rfl) (by decide) rfl (fun q => k1 q) (fun q => k2 q)) (fun q17 => ?_) (fun q17 => ?_)
        · have h := h.1 q17
          exact h
        · have h := h.2 q17
          refine K_p (pc2 := 50) (lv2 := [(0, vR 78), (1, vR _), (2, vL _), (4, vI _)]) (st2 := [vR 78]) (fun ad S Q _ k => V_aload_n (pc2 := 50) (dk D_X3_isStored 22 rfl) rfl (V_lg 0 rfl) rfl k) ?_
          refine K_getF kc3 (h' := 72) (pc2 := 53) 0 (by decide) (dk D_X3_isStored 23 rfl) fl_3_9 (by decide) (fun _ _ => rfl) rfl (fixH 78 3 (by decide) rfl) (by decide) ?_
          refine K_p (pc2 := 54) (lv2 := [(0, vR 78), (1, vR _), (2, vL _), (4, vI _)]) (st2 := [vI _, vR 72]) (fun ad S Q _ k => V_iconst (x := (-1)) (pc2 := 54) (dk D_X3_isStored 24 rfl) (by decide) rfl k) ?_
          refine K_p (pc2 := 55) (lv2 := [(0, vR 78), (1, vR _), (2, vL _), (4, vI _)]) (st2 := [vR 78, vI _, vR 72]) (fun ad S Q _ k => V_aload_n (pc2 := 55) (dk D_X3_isStored 25 rfl) rfl (V_lg 0 rfl) rfl k) ?_
          refine K_getF kc3 (h' := 68) (pc2 := 58) 2 (by decide) (dk D_X3_isStored 26 rfl) fl_3_25 (by decide) (fun _ _ => rfl) rfl (fixH 78 3 (by decide) rfl) (by decide) ?_
          refine K_p (pc2 := 60) (lv2 := [(0, vR 78), (1, vR _), (2, vL _), (4, vI _)]) (st2 := [vI _, vR 68, vI _, vR 72]) (fun ad S Q _ k => V_iload (pc2 := 60) (dk D_X3_isStored 27 rfl) (V_lg 3 rfl) rfl k) ?_
          obtain ⟨e18, he19, hc20⟩ := h
          refine K_call (as := [vR 68, vI _]) (st := [vI _, vR 72]) (pc2 := 63) (okL.all _ ⟨(Or.inr ⟨Or.inl ⟨by decide, by decide⟩, by decide⟩), (isH.ok (isH.mo (isH.mo h1 (by decide) mo9) (by decide) mo16) (by decide)), trivial, trivial, trivial⟩) (okS.all _ ⟨trivial, (Or.inr ⟨Or.inl ⟨by decide, by decide⟩, by decide⟩), trivial⟩) (fun ad S Q Qc hC hc k => V_callV (as := [_]) (st := [_, _]) (M' := MX1_argument) (ci := 1) (pc2 := 63) (dk D_X3_isStored 28 rfl) ml_3_71 mv_X1_argument rfl rfl (by decide) rfl (Nat.le_of_ble_eq_true rfl) rfl he19 (hC.k' (fixH 68 1 (by decide) rfl)) hc k) hc20 (kRI.k fun y21 κ22 h mo23 => ?_)
          refine K_p (pc2 := 64) (lv2 := [(0, vR 78), (1, vR _), (2, vL _), (4, vI _)]) (st2 := [vI _, vR 72]) (fun ad S Q _ k => V_isub (pc2 := 64) (dk D_X3_isStored 29 rfl) rfl k) ?_
          obtain ⟨e24, he25, hc26⟩ := h
          refine K_call (as := [vR 72, vI _]) (st := []) (pc2 := 67) (okL.all _ ⟨(Or.inr ⟨Or.inl ⟨by decide, by decide⟩, by decide⟩), (isH.ok (isH.mo (isH.mo (isH.mo h1 (by decide) mo9) (by decide) mo16) (by decide) mo23) (by decide)), trivial, trivial, trivial⟩) (okS.all _ trivial) (fun ad S Q Qc hC hc k => V_callV (as := [_]) (st := []) (M' := MX9_valueOf) (ci := 9) (pc2 := 67) (dk D_X3_isStored 30 rfl) ml_3_74 mv_X9_valueOf rfl rfl (by decide) rfl (Nat.le_of_ble_eq_true rfl) rfl he25 (hC.k' (fixH 72 9 (by decide) rfl)) hc k) hc26 (kRJ.k fun w27 κ28 h mo29 => ?_)
          refine K_p (pc2 := 68) (lv2 := [(0, vR 78), (1, vR _), (2, vL _), (4, vI _)]) (st2 := [vL _, vL _]) (fun ad S Q _ k => V_lload_n (pc2 := 68) (dk D_X3_isStored 31 rfl) rfl (V_lg 2 rfl) rfl k) ?_
          refine K_p (pc2 := 69) (lv2 := [(0, vR 78), (1, vR _), (2, vL _), (4, vI _)]) (st2 := [vI _]) (fun ad S Q _ k => V_lcmp (pc2 := 69) (dk D_X3_isStored 32 rfl) rfl k) ?_
          refine K_if (pa := 72) (pb := 74) (lv2 := [(0, vR 78), (1, vR _), (2, vL _), (4, vI _)]) (st2 := []) (fun ad S Q _ k1 k2 => V_ifne (tgt := 74) (pc2 := 72) (dk D_X3_isStored 33 rfl) (by decide) rfl (fun q => k2 q) (fun q => k1 q)) (fun q30 => ?_) (fun q30 => ?_)
          · have h := h.1 q30
            refine K_p (pc2 := 73) (lv2 := [(0, vR 78), (1, vR _), (2, vL _), (4, vI _)]) (st2 := [vI _]) (fun ad S Q _ k => V_iconst (x := 1) (pc2 := 73) (dk D_X3_isStored 34 rfl) (by decide) rfl k) ?_
            exact K_ret (r := .inl (some (vI _))) (fun ad S Q _ k => V_zreturn (dk D_X3_isStored 35 rfl) rfl (Or.inr rfl) k) h
          · have h := h.2 q30
            exact h
      · have h := h.2 q10
        exact h
theorem k_3_isStored_74 {X : Cx} {d : Nat} {κ : Km} {Q : Res → Km → Prop} (r1 : Nat) (l2 : Int64) (x4 : Int32) (h : K X d MX3_isStored 6 [(0, vR 78), (1, vR r1), (2, vL l2), (4, vI (x4 + 1))] [] κ Q) : K X d MX3_isStored 74 [(0, vR 78), (1, vR r1), (2, vL l2), (4, vI x4)] [] κ Q := by
  refine K_p (pc2 := 77) (lv2 := [(0, vR 78), (1, vR _), (2, vL _), (4, vI _)]) (st2 := []) (fun ad S Q _ k => V_iinc (y := _ + 1) (pc2 := 77) (lv2 := [(0, _), (1, _), (2, _), (4, _)]) (dk D_X3_isStored 36 rfl) (V_lg 3 rfl) rfl (by decide) rfl rfl k) ?_
  refine K_p (pc2 := 6) (lv2 := [(0, vR 78), (1, vR _), (2, vL _), (4, vI _)]) (st2 := []) (fun ad S Q _ k => V_goto (tgt := 6) (dk D_X3_isStored 37 rfl) (by decide) k) ?_
  exact h
theorem k_3_isStored_80 {X : Cx} {d : Nat} {κ : Km} {Q : Res → Km → Prop} (r1 : Nat) (l2 : Int64) (x4 : Int32) (h : Q (.inl (some (vI 0))) κ) : K X d MX3_isStored 80 [(0, vR 78), (1, vR r1), (2, vL l2), (4, vI x4)] [] κ Q := by
  refine K_p (pc2 := 81) (lv2 := [(0, vR 78), (1, vR _), (2, vL _), (4, vI _)]) (st2 := [vI _]) (fun ad S Q _ k => V_iconst (x := 0) (pc2 := 81) (dk D_X3_isStored 38 rfl) (by decide) rfl k) ?_
  exact K_ret (r := .inl (some (vI _))) (fun ad S Q _ k => V_zreturn (dk D_X3_isStored 39 rfl) rfl (Or.inl rfl) k) h
theorem k_3_linkBody_0 {X : Cx} {d : Nat} {κ : Km} {Q : Res → Km → Prop} (x1 : Int32) (x2 : Int32) (h : ∃ e1 : Nat, e1 + 1 ≤ d ∧ KC' X e1 MX1_argument [vR 68, vI x1] κ (kRI fun y4 κ5 => ∃ e7 : Nat, e7 + 1 ≤ d ∧ KC' X e7 MX9_valueOf [vR 72, vI (y4 / 8)] κ5 (kRJ fun w10 κ11 => ∃ e13 : Nat, e13 + 1 ≤ d ∧ KC' X e13 MX7_find [vR 67, vL w10] κ11 (kRI fun y16 κ17 => ∃ e19 : Nat, e19 + 1 ≤ d ∧ KC' X e19 MX7_at [vR 67, vI y16] κ17 (kRR fun p22 κ23 => (p22 = 0 ∨ live κ23 p22) ∧ ((p22 = 0 → K X d MX3_linkBody 73 [(0, vR 78), (1, vI x1), (2, vI x2), (3, vI (y4 / 8)), (4, vI y16), (5, vR p22)] [] κ23 Q) ∧ (¬ p22 = 0 → (isH κ23 p22 0) ∧ (((kI κ23 p22 2) = x2 → ∃ e29 : Nat, e29 + 1 ≤ d ∧ KC' X e29 MX1_argument [vR 68, vI x1] κ23 (kRI fun y32 κ33 => (((kI κ23 p22 4) = (y32 - y32 / 8 * 8) → ∃ e36 : Nat, e36 + 1 ≤ d ∧ KC' X e36 MX1_patch [vR 68, vI x1, vI y16] κ33 (kRV fun  κ39 => K X d MX3_linkBody 101 [(0, vR 78), (1, vI x1), (2, vI x2), (3, vI (y4 / 8)), (4, vI y16), (5, vR p22)] [] κ39 Q)) ∧ (¬ (kI κ23 p22 4) = (y32 - y32 / 8 * 8) → K X d MX3_linkBody 73 [(0, vR 78), (1, vI x1), (2, vI x2), (3, vI (y4 / 8)), (4, vI y16), (5, vR p22)] [] κ33 Q)))) ∧ (¬ (kI κ23 p22 2) = x2 → K X d MX3_linkBody 73 [(0, vR 78), (1, vI x1), (2, vI x2), (3, vI (y4 / 8)), (4, vI y16), (5, vR p22)] [] κ23 Q))))))))) : K X d MX3_linkBody 0 [(0, vR 78), (1, vI x1), (2, vI x2)] [] κ Q := by
  refine K_p (pc2 := 1) (lv2 := [(0, vR 78), (1, vI _), (2, vI _)]) (st2 := [vR 78]) (fun ad S Q _ k => V_aload_n (pc2 := 1) (dk D_X3_linkBody 0 rfl) rfl (V_lg 0 rfl) rfl k) ?_
  refine K_getF kc3 (h' := 68) (pc2 := 4) 2 (by decide) (dk D_X3_linkBody 1 rfl) fl_3_25 (by decide) (fun _ _ => rfl) rfl (fixH 78 3 (by decide) rfl) (by decide) ?_
  refine K_p (pc2 := 5) (lv2 := [(0, vR 78), (1, vI _), (2, vI _)]) (st2 := [vI _, vR 68]) (fun ad S Q _ k => V_iload_n (pc2 := 5) (dk D_X3_linkBody 2 rfl) rfl (V_lg 1 rfl) rfl k) ?_
  obtain ⟨e1, he2, hc3⟩ := h
  refine K_call (as := [vR 68, vI _]) (st := []) (pc2 := 8) (okL.all _ ⟨(Or.inr ⟨Or.inl ⟨by decide, by decide⟩, by decide⟩), trivial, trivial, trivial⟩) (okS.all _ trivial) (fun ad S Q Qc hC hc k => V_callV (as := [_]) (st := []) (M' := MX1_argument) (ci := 1) (pc2 := 8) (dk D_X3_linkBody 3 rfl) ml_3_71 mv_X1_argument rfl rfl (by decide) rfl (Nat.le_of_ble_eq_true rfl) rfl he2 (hC.k' (fixH 68 1 (by decide) rfl)) hc k) hc3 (kRI.k fun y4 κ5 h mo6 => ?_)
  refine K_p (pc2 := 10) (lv2 := [(0, vR 78), (1, vI _), (2, vI _)]) (st2 := [vI _, vI _]) (fun ad S Q _ k => V_bipush (x := 8) (pc2 := 10) (dk D_X3_linkBody 4 rfl) (by decide) rfl k) ?_
  refine K_p (pc2 := 11) (lv2 := [(0, vR 78), (1, vI _), (2, vI _)]) (st2 := [vI _]) (fun ad S Q _ k => V_idiv (pc2 := 11) (dk D_X3_linkBody 5 rfl) rfl (by decide) k) ?_
  refine K_p (pc2 := 12) (lv2 := [(0, vR 78), (1, vI _), (2, vI _), (3, vI _)]) (st2 := []) (fun ad S Q _ k => V_istore_n (pc2 := 12) (lv2 := [(0, _), (1, _), (2, _), (3, _)]) (dk D_X3_linkBody 6 rfl) rfl (by decide) rfl rfl k) ?_
  refine K_p (pc2 := 13) (lv2 := [(0, vR 78), (1, vI _), (2, vI _), (3, vI _)]) (st2 := [vR 78]) (fun ad S Q _ k => V_aload_n (pc2 := 13) (dk D_X3_linkBody 7 rfl) rfl (V_lg 0 rfl) rfl k) ?_
  refine K_getF kc3 (h' := 67) (pc2 := 16) 1 (by decide) (dk D_X3_linkBody 8 rfl) fl_3_15 (by decide) (fun _ _ => rfl) rfl (fixH 78 3 (by decide) rfl) (by decide) ?_
  refine K_p (pc2 := 17) (lv2 := [(0, vR 78), (1, vI _), (2, vI _), (3, vI _)]) (st2 := [vR 78, vR 67]) (fun ad S Q _ k => V_aload_n (pc2 := 17) (dk D_X3_linkBody 9 rfl) rfl (V_lg 0 rfl) rfl k) ?_
  refine K_getF kc3 (h' := 72) (pc2 := 20) 0 (by decide) (dk D_X3_linkBody 10 rfl) fl_3_9 (by decide) (fun _ _ => rfl) rfl (fixH 78 3 (by decide) rfl) (by decide) ?_
  refine K_p (pc2 := 21) (lv2 := [(0, vR 78), (1, vI _), (2, vI _), (3, vI _)]) (st2 := [vI _, vR 72, vR 67]) (fun ad S Q _ k => V_iload_n (pc2 := 21) (dk D_X3_linkBody 11 rfl) rfl (V_lg 3 rfl) rfl k) ?_
  obtain ⟨e7, he8, hc9⟩ := h
  refine K_call (as := [vR 72, vI _]) (st := [vR 67]) (pc2 := 24) (okL.all _ ⟨(Or.inr ⟨Or.inl ⟨by decide, by decide⟩, by decide⟩), trivial, trivial, trivial, trivial⟩) (okS.all _ ⟨(Or.inr ⟨Or.inl ⟨by decide, by decide⟩, by decide⟩), trivial⟩) (fun ad S Q Qc hC hc k => V_callV (as := [_]) (st := [_]) (M' := MX9_valueOf) (ci := 9) (pc2 := 24) (dk D_X3_linkBody 12 rfl) ml_3_74 mv_X9_valueOf rfl rfl (by decide) rfl (Nat.le_of_ble_eq_true rfl) rfl he8 (hC.k' (fixH 72 9 (by decide) rfl)) hc k) hc9 (kRJ.k fun w10 κ11 h mo12 => ?_)
  obtain ⟨e13, he14, hc15⟩ := h
  refine K_call (as := [vR 67, vL _]) (st := []) (pc2 := 27) (okL.all _ ⟨(Or.inr ⟨Or.inl ⟨by decide, by decide⟩, by decide⟩), trivial, trivial, trivial, trivial⟩) (okS.all _ trivial) (fun ad S Q Qc hC hc k => V_callV (as := [_]) (st := []) (M' := MX7_find) (ci := 7) (pc2 := 27) (dk D_X3_linkBody 13 rfl) ml_3_95 mv_X7_find rfl rfl (by decide) rfl (Nat.le_of_ble_eq_true rfl) rfl he14 (hC.k' (fixH 67 7 (by decide) rfl)) hc k) hc15 (kRI.k fun y16 κ17 h mo18 => ?_)
  refine K_p (pc2 := 29) (lv2 := [(0, vR 78), (1, vI _), (2, vI _), (3, vI _), (4, vI _)]) (st2 := []) (fun ad S Q _ k => V_istore (pc2 := 29) (lv2 := [(0, _), (1, _), (2, _), (3, _), (4, _)]) (dk D_X3_linkBody 14 rfl) (by decide) rfl rfl k) ?_
  refine K_p (pc2 := 30) (lv2 := [(0, vR 78), (1, vI _), (2, vI _), (3, vI _), (4, vI _)]) (st2 := [vR 78]) (fun ad S Q _ k => V_aload_n (pc2 := 30) (dk D_X3_linkBody 15 rfl) rfl (V_lg 0 rfl) rfl k) ?_
  refine K_getF kc3 (h' := 67) (pc2 := 33) 1 (by decide) (dk D_X3_linkBody 16 rfl) fl_3_15 (by decide) (fun _ _ => rfl) rfl (fixH 78 3 (by decide) rfl) (by decide) ?_
  refine K_p (pc2 := 35) (lv2 := [(0, vR 78), (1, vI _), (2, vI _), (3, vI _), (4, vI _)]) (st2 := [vI _, vR 67]) (fun ad S Q _ k => V_iload (pc2 := 35) (dk D_X3_linkBody 17 rfl) (V_lg 4 rfl) rfl k) ?_
  obtain ⟨e19, he20, hc21⟩ := h
  refine K_call (as := [vR 67, vI _]) (st := []) (pc2 := 38) (okL.all _ ⟨(Or.inr ⟨Or.inl ⟨by decide, by decide⟩, by decide⟩), trivial, trivial, trivial, trivial, trivial⟩) (okS.all _ trivial) (fun ad S Q Qc hC hc k => V_callV (as := [_]) (st := []) (M' := MX7_at) (ci := 7) (pc2 := 38) (dk D_X3_linkBody 18 rfl) ml_3_30 mv_X7_at rfl rfl (by decide) rfl (Nat.le_of_ble_eq_true rfl) rfl he20 (hC.k' (fixH 67 7 (by decide) rfl)) hc k) hc21 (kRR.k fun p22 κ23 h mo24 => ?_)
  refine K_p (pc2 := 40) (lv2 := [(0, vR 78), (1, vI _), (2, vI _), (3, vI _), (4, vI _), (5, vR _)]) (st2 := []) (fun ad S Q _ k => V_astore (pc2 := 40) (lv2 := [(0, _), (1, _), (2, _), (3, _), (4, _), (5, _)]) (dk D_X3_linkBody 19 rfl) (by decide) rfl rfl k) ?_
  refine K_p (pc2 := 42) (lv2 := [(0, vR 78), (1, vI _), (2, vI _), (3, vI _), (4, vI _), (5, vR _)]) (st2 := [vR _]) (fun ad S Q _ k => V_aload (pc2 := 42) (dk D_X3_linkBody 20 rfl) (V_lg 5 rfl) rfl k) ?_
  obtain ⟨h26, h⟩ := h
  refine K_ifnull (tgt := 73) (pc2 := 45) (dk D_X3_linkBody 21 rfl) (by decide) rfl h26 (fun q25 => ?_) (fun q25 => ?_)
  · have h := h.1 q25
    exact h
  · have h := h.2 q25
    refine K_p (pc2 := 47) (lv2 := [(0, vR 78), (1, vI _), (2, vI _), (3, vI _), (4, vI _), (5, vR _)]) (st2 := [vR _]) (fun ad S Q _ k => V_aload (pc2 := 47) (dk D_X3_linkBody 22 rfl) (V_lg 5 rfl) rfl k) ?_
    obtain ⟨h27, h⟩ := h
    refine K_getI kc0 (pc2 := 50) 2 (dk D_X3_linkBody 23 rfl) fl_3_96 (by decide) (fun _ _ => rfl) rfl h27 ?_
    refine K_p (pc2 := 51) (lv2 := [(0, vR 78), (1, vI _), (2, vI _), (3, vI _), (4, vI _), (5, vR _)]) (st2 := [vI _, vI _]) (fun ad S Q _ k => V_iload_n (pc2 := 51) (dk D_X3_linkBody 24 rfl) rfl (V_lg 2 rfl) rfl k) ?_
    refine K_if (pa := 54) (pb := 73) (lv2 := [(0, vR 78), (1, vI _), (2, vI _), (3, vI _), (4, vI _), (5, vR _)]) (st2 := []) (fun ad S Q _ k1 k2 => V_cmpne (tgt := 73) (pc2 := 54) (dk D_X3_linkBody 25 rfl) (by decide) rfl (fun q => k2 q) (fun q => k1 q)) (fun q28 => ?_) (fun q28 => ?_)
    · have h := h.1 q28
      refine K_p (pc2 := 56) (lv2 := [(0, vR 78), (1, vI _), (2, vI _), (3, vI _), (4, vI _), (5, vR _)]) (st2 := [vR _]) (fun ad S Q _ k => V_aload (pc2 := 56) (dk D_X3_linkBody 26 rfl) (V_lg 5 rfl) rfl k) ?_
      refine K_getI kc0 (pc2 := 59) 4 (dk D_X3_linkBody 27 rfl) fl_3_100 (by decide) (fun _ _ => rfl) rfl h27 ?_
      refine K_p (pc2 := 60) (lv2 := [(0, vR 78), (1, vI _), (2, vI _), (3, vI _), (4, vI _), (5, vR _)]) (st2 := [vR 78, vI _]) (fun ad S Q _ k => V_aload_n (pc2 := 60) (dk D_X3_linkBody 28 rfl) rfl (V_lg 0 rfl) rfl k) ?_
      refine K_getF kc3 (h' := 68) (pc2 := 63) 2 (by decide) (dk D_X3_linkBody 29 rfl) fl_3_25 (by decide) (fun _ _ => rfl) rfl (fixH 78 3 (by decide) rfl) (by decide) ?_
      refine K_p (pc2 := 64) (lv2 := [(0, vR 78), (1, vI _), (2, vI _), (3, vI _), (4, vI _), (5, vR _)]) (st2 := [vI _, vR 68, vI _]) (fun ad S Q _ k => V_iload_n (pc2 := 64) (dk D_X3_linkBody 30 rfl) rfl (V_lg 1 rfl) rfl k) ?_
      obtain ⟨e29, he30, hc31⟩ := h
      refine K_call (as := [vR 68, vI _]) (st := [vI _]) (pc2 := 67) (okL.all _ ⟨(Or.inr ⟨Or.inl ⟨by decide, by decide⟩, by decide⟩), trivial, trivial, trivial, trivial, (isH.ok h27 (by decide)), trivial⟩) (okS.all _ ⟨trivial, trivial⟩) (fun ad S Q Qc hC hc k => V_callV (as := [_]) (st := [_]) (M' := MX1_argument) (ci := 1) (pc2 := 67) (dk D_X3_linkBody 31 rfl) ml_3_71 mv_X1_argument rfl rfl (by decide) rfl (Nat.le_of_ble_eq_true rfl) rfl he30 (hC.k' (fixH 68 1 (by decide) rfl)) hc k) hc31 (kRI.k fun y32 κ33 h mo34 => ?_)
      refine K_p (pc2 := 69) (lv2 := [(0, vR 78), (1, vI _), (2, vI _), (3, vI _), (4, vI _), (5, vR _)]) (st2 := [vI _, vI _, vI _]) (fun ad S Q _ k => V_bipush (x := 8) (pc2 := 69) (dk D_X3_linkBody 32 rfl) (by decide) rfl k) ?_
      refine K_p (pc2 := 70) (lv2 := [(0, vR 78), (1, vI _), (2, vI _), (3, vI _), (4, vI _), (5, vR _)]) (st2 := [vI _, vI _]) (fun ad S Q _ k => V_irem (pc2 := 70) (dk D_X3_linkBody 33 rfl) rfl (by decide) k) ?_
      refine K_if (pa := 91) (pb := 73) (lv2 := [(0, vR 78), (1, vI _), (2, vI _), (3, vI _), (4, vI _), (5, vR _)]) (st2 := []) (fun ad S Q _ k1 k2 => V_cmpeq (tgt := 91) (pc2 := 73) (dk D_X3_linkBody 34 rfl) (by decide) rfl (fun q => k1 q) (fun q => k2 q)) (fun q35 => ?_) (fun q35 => ?_)
      · have h := h.1 q35
        refine K_p (pc2 := 92) (lv2 := [(0, vR 78), (1, vI _), (2, vI _), (3, vI _), (4, vI _), (5, vR _)]) (st2 := [vR 78]) (fun ad S Q _ k => V_aload_n (pc2 := 92) (dk D_X3_linkBody 43 rfl) rfl (V_lg 0 rfl) rfl k) ?_
        refine K_getF kc3 (h' := 68) (pc2 := 95) 2 (by decide) (dk D_X3_linkBody 44 rfl) fl_3_25 (by decide) (fun _ _ => rfl) rfl (fixH 78 3 (by decide) rfl) (by decide) ?_
        refine K_p (pc2 := 96) (lv2 := [(0, vR 78), (1, vI _), (2, vI _), (3, vI _), (4, vI _), (5, vR _)]) (st2 := [vI _, vR 68]) (fun ad S Q _ k => V_iload_n (pc2 := 96) (dk D_X3_linkBody 45 rfl) rfl (V_lg 1 rfl) rfl k) ?_
        refine K_p (pc2 := 98) (lv2 := [(0, vR 78), (1, vI _), (2, vI _), (3, vI _), (4, vI _), (5, vR _)]) (st2 := [vI _, vI _, vR 68]) (fun ad S Q _ k => V_iload (pc2 := 98) (dk D_X3_linkBody 46 rfl) (V_lg 4 rfl) rfl k) ?_
        obtain ⟨e36, he37, hc38⟩ := h
        refine K_call (as := [vR 68, vI _, vI _]) (st := []) (pc2 := 101) (okL.all _ ⟨(Or.inr ⟨Or.inl ⟨by decide, by decide⟩, by decide⟩), trivial, trivial, trivial, trivial, (isH.ok (isH.mo h27 (by decide) mo34) (by decide)), trivial⟩) (okS.all _ trivial) (fun ad S Q Qc hC hc k => V_callV (as := [_, _]) (st := []) (M' := MX1_patch) (ci := 1) (pc2 := 101) (dk D_X3_linkBody 47 rfl) ml_3_84 mv_X1_patch rfl rfl (by decide) rfl (Nat.le_of_ble_eq_true rfl) rfl he37 (hC.k' (fixH 68 1 (by decide) rfl)) hc k) hc38 (kRV.k fun  κ39 h mo40 => ?_)
        exact h
      · have h := h.2 q35
        exact h
    · have h := h.2 q28
      exact h
theorem k_3_linkBody_73 {X : Cx} {d : Nat} {κ : Km} {Q : Res → Km → Prop} (x1 : Int32) (x2 : Int32) (x3 : Int32) (x4 : Int32) (r5 : Nat) (h : (isH κ r5 0) ∧ ∃ e1 : Nat, e1 + 1 ≤ d ∧ KC' X e1 MX9_placeOf [vR 72, vI x3] κ (kRI fun y4 κ6 => ∃ e8 : Nat, e8 + 1 ≤ d ∧ KC' X e8 MX7_noteWrongName [vR 67, vI y4] κ6 (kRV fun  κ11 => K X d MX3_linkBody 101 [(0, vR 78), (1, vI x1), (2, vI x2), (3, vI x3), (4, vI x4), (5, vR r5)] [] κ11 Q))) : K X d MX3_linkBody 73 [(0, vR 78), (1, vI x1), (2, vI x2), (3, vI x3), (4, vI x4), (5, vR r5)] [] κ Q := by
  refine K_p (pc2 := 74) (lv2 := [(0, vR 78), (1, vI _), (2, vI _), (3, vI _), (4, vI _), (5, vR _)]) (st2 := [vR 78]) (fun ad S Q _ k => V_aload_n (pc2 := 74) (dk D_X3_linkBody 35 rfl) rfl (V_lg 0 rfl) rfl k) ?_
  refine K_getF kc3 (h' := 67) (pc2 := 77) 1 (by decide) (dk D_X3_linkBody 36 rfl) fl_3_15 (by decide) (fun _ _ => rfl) rfl (fixH 78 3 (by decide) rfl) (by decide) ?_
  refine K_p (pc2 := 78) (lv2 := [(0, vR 78), (1, vI _), (2, vI _), (3, vI _), (4, vI _), (5, vR _)]) (st2 := [vR 78, vR 67]) (fun ad S Q _ k => V_aload_n (pc2 := 78) (dk D_X3_linkBody 37 rfl) rfl (V_lg 0 rfl) rfl k) ?_
  refine K_getF kc3 (h' := 72) (pc2 := 81) 0 (by decide) (dk D_X3_linkBody 38 rfl) fl_3_9 (by decide) (fun _ _ => rfl) rfl (fixH 78 3 (by decide) rfl) (by decide) ?_
  refine K_p (pc2 := 82) (lv2 := [(0, vR 78), (1, vI _), (2, vI _), (3, vI _), (4, vI _), (5, vR _)]) (st2 := [vI _, vR 72, vR 67]) (fun ad S Q _ k => V_iload_n (pc2 := 82) (dk D_X3_linkBody 39 rfl) rfl (V_lg 3 rfl) rfl k) ?_
  obtain ⟨h5, h⟩ := h
  obtain ⟨e1, he2, hc3⟩ := h
  refine K_call (as := [vR 72, vI _]) (st := [vR 67]) (pc2 := 85) (okL.all _ ⟨(Or.inr ⟨Or.inl ⟨by decide, by decide⟩, by decide⟩), trivial, trivial, trivial, trivial, (isH.ok h5 (by decide)), trivial⟩) (okS.all _ ⟨(Or.inr ⟨Or.inl ⟨by decide, by decide⟩, by decide⟩), trivial⟩) (fun ad S Q Qc hC hc k => V_callV (as := [_]) (st := [_]) (M' := MX9_placeOf) (ci := 9) (pc2 := 85) (dk D_X3_linkBody 40 rfl) ml_3_92 mv_X9_placeOf rfl rfl (by decide) rfl (Nat.le_of_ble_eq_true rfl) rfl he2 (hC.k' (fixH 72 9 (by decide) rfl)) hc k) hc3 (kRI.k fun y4 κ6 h mo7 => ?_)
  obtain ⟨e8, he9, hc10⟩ := h
  refine K_call (as := [vR 67, vI _]) (st := []) (pc2 := 88) (okL.all _ ⟨(Or.inr ⟨Or.inl ⟨by decide, by decide⟩, by decide⟩), trivial, trivial, trivial, trivial, (isH.ok (isH.mo h5 (by decide) mo7) (by decide)), trivial⟩) (okS.all _ trivial) (fun ad S Q Qc hC hc k => V_callV (as := [_]) (st := []) (M' := MX7_noteWrongName) (ci := 7) (pc2 := 88) (dk D_X3_linkBody 41 rfl) ml_3_47 mv_X7_noteWrongName rfl rfl (by decide) rfl (Nat.le_of_ble_eq_true rfl) rfl he9 (hC.k' (fixH 67 7 (by decide) rfl)) hc k) hc10 (kRV.k fun  κ11 h mo12 => ?_)
  refine K_p (pc2 := 101) (lv2 := [(0, vR 78), (1, vI _), (2, vI _), (3, vI _), (4, vI _), (5, vR _)]) (st2 := []) (fun ad S Q _ k => V_goto (tgt := 101) (dk D_X3_linkBody 42 rfl) (by decide) k) ?_
  exact h
theorem k_3_linkBody_101 {X : Cx} {d : Nat} {κ : Km} {Q : Res → Km → Prop} (x1 : Int32) (x2 : Int32) (x3 : Int32) (x4 : Int32) (r5 : Nat) (h : Q (.inl none) κ) : K X d MX3_linkBody 101 [(0, vR 78), (1, vI x1), (2, vI x2), (3, vI x3), (4, vI x4), (5, vR r5)] [] κ Q := by
  exact K_ret (r := .inl none) (fun ad S Q _ k => V_return (dk D_X3_linkBody 48 rfl) rfl k) h
theorem k_7_clear_0 {X : Cx} {d : Nat} {κ : Km} {Q : Res → Km → Prop}  (h : ∃ e1 : Nat, e1 + 1 ≤ d ∧ KC' X e1 MX1_clear [vR 68] κ (kRV fun  κ4 => ∀ κ6 : Km, κ6 = cI κ4 67 2 0 → ∀ κ7 : Km, κ7 = cI κ6 67 3 (-9) → Q (.inl none) κ7)) : K X d MX7_clear 0 [(0, vR 67)] [] κ Q := by
  refine K_p (pc2 := 1) (lv2 := [(0, vR 67)]) (st2 := [vR 67]) (fun ad S Q _ k => V_aload_n (pc2 := 1) (dk D_X7_clear 0 rfl) rfl (V_lg 0 rfl) rfl k) ?_
  refine K_getF kc7 (h' := 68) (pc2 := 4) 0 (by decide) (dk D_X7_clear 1 rfl) fl_7_12 (by decide) (fun _ _ => rfl) rfl (fixH 67 7 (by decide) rfl) (by decide) ?_
  obtain ⟨e1, he2, hc3⟩ := h
  refine K_call (as := [vR 68]) (st := []) (pc2 := 7) (okL.all _ ⟨(Or.inr ⟨Or.inl ⟨by decide, by decide⟩, by decide⟩), trivial⟩) (okS.all _ trivial) (fun ad S Q Qc hC hc k => V_callV (as := []) (st := []) (M' := MX1_clear) (ci := 1) (pc2 := 7) (dk D_X7_clear 2 rfl) ml_7_24 mv_X1_clear rfl rfl (by decide) rfl (Nat.le_of_ble_eq_true rfl) rfl he2 (hC.k' (fixH 68 1 (by decide) rfl)) hc k) hc3 (kRV.k fun  κ4 h mo5 => ?_)
  refine K_p (pc2 := 8) (lv2 := [(0, vR 67)]) (st2 := [vR 67]) (fun ad S Q _ k => V_aload_n (pc2 := 8) (dk D_X7_clear 3 rfl) rfl (V_lg 0 rfl) rfl k) ?_
  refine K_p (pc2 := 9) (lv2 := [(0, vR 67)]) (st2 := [vI _, vR 67]) (fun ad S Q _ k => V_iconst (x := 0) (pc2 := 9) (dk D_X7_clear 4 rfl) (by decide) rfl k) ?_
  refine K_putI kc7 (pc2 := 12) 2 (dk D_X7_clear 5 rfl) fl_7_27 (by decide) (Or.inl rfl) rfl rfl (fixH 67 7 (by decide) rfl) (by decide) ?_
  have h := h _ rfl
  refine K_p (pc2 := 13) (lv2 := [(0, vR 67)]) (st2 := [vR 67]) (fun ad S Q _ k => V_aload_n (pc2 := 13) (dk D_X7_clear 6 rfl) rfl (V_lg 0 rfl) rfl k) ?_
  refine K_p (pc2 := 15) (lv2 := [(0, vR 67)]) (st2 := [vI _, vR 67]) (fun ad S Q _ k => V_bipush (x := (-9)) (pc2 := 15) (dk D_X7_clear 7 rfl) (by decide) rfl k) ?_
  refine K_putI kc7 (pc2 := 18) 3 (dk D_X7_clear 8 rfl) fl_7_31 (by decide) (Or.inl rfl) rfl rfl (fixH 67 7 (by decide) rfl) (by decide) ?_
  have h := h _ rfl
  exact K_ret (r := .inl none) (fun ad S Q _ k => V_return (dk D_X7_clear 9 rfl) rfl k) h
theorem k_7_size_0 {X : Cx} {d : Nat} {κ : Km} {Q : Res → Km → Prop}  (h : Q (.inl (some (vI (kI κ 67 2)))) κ) : K X d MX7_size 0 [(0, vR 67)] [] κ Q := by
  refine K_p (pc2 := 1) (lv2 := [(0, vR 67)]) (st2 := [vR 67]) (fun ad S Q _ k => V_aload_n (pc2 := 1) (dk D_X7_size 0 rfl) rfl (V_lg 0 rfl) rfl k) ?_
  refine K_getI kc7 (pc2 := 4) 2 (dk D_X7_size 1 rfl) fl_7_27 (by decide) (fun _ _ => rfl) rfl (fixH 67 7 (by decide) rfl) ?_
  exact K_ret (r := .inl (some (vI _))) (fun ad S Q _ k => V_ireturn (dk D_X7_size 2 rfl) rfl k) h
theorem k_7_at_0 {X : Cx} {d : Nat} {κ : Km} {Q : Res → Km → Prop} (x1 : Int32) (h : ((x1 < 0 → K X d MX7_at 18 [(0, vR 67), (1, vI x1)] [] κ Q) ∧ (¬ x1 < 0 → (((kI κ 67 2) ≤ x1 → K X d MX7_at 18 [(0, vR 67), (1, vI x1)] [] κ Q) ∧ (¬ (kI κ 67 2) ≤ x1 → ((x1 < 12 → (vp_in x1 12) ∧ K X d MX7_at 28 [(0, vR 67), (1, vI x1)] [vR (if (x1 : Int32).toNatClampNeg < kB κ then 1000 + 8 * (x1 : Int32).toNatClampNeg else 0)] κ Q) ∧ (¬ x1 < 12 → K X d MX7_at 18 [(0, vR 67), (1, vI x1)] [] κ Q))))))) : K X d MX7_at 0 [(0, vR 67), (1, vI x1)] [] κ Q := by
  refine K_p (pc2 := 1) (lv2 := [(0, vR 67), (1, vI _)]) (st2 := [vI _]) (fun ad S Q _ k => V_iload_n (pc2 := 1) (dk D_X7_at 0 rfl) rfl (V_lg 1 rfl) rfl k) ?_
  refine K_if (pa := 18) (pb := 4) (lv2 := [(0, vR 67), (1, vI _)]) (st2 := []) (fun ad S Q _ k1 k2 => V_iflt (tgt := 18) (pc2 := 4) (dk D_X7_at 1 rfl) (by decide) rfl (fun q => k1 q) (fun q => k2 q)) (fun q1 => ?_) (fun q1 => ?_)
  · have h := h.1 q1
    exact h
  · have h := h.2 q1
    refine K_p (pc2 := 5) (lv2 := [(0, vR 67), (1, vI _)]) (st2 := [vI _]) (fun ad S Q _ k => V_iload_n (pc2 := 5) (dk D_X7_at 2 rfl) rfl (V_lg 1 rfl) rfl k) ?_
    refine K_p (pc2 := 6) (lv2 := [(0, vR 67), (1, vI _)]) (st2 := [vR 67, vI _]) (fun ad S Q _ k => V_aload_n (pc2 := 6) (dk D_X7_at 3 rfl) rfl (V_lg 0 rfl) rfl k) ?_
    refine K_getI kc7 (pc2 := 9) 2 (dk D_X7_at 4 rfl) fl_7_27 (by decide) (fun _ _ => rfl) rfl (fixH 67 7 (by decide) rfl) ?_
    refine K_if (pa := 18) (pb := 12) (lv2 := [(0, vR 67), (1, vI _)]) (st2 := []) (fun ad S Q _ k1 k2 => V_cmpge (tgt := 18) (pc2 := 12) (dk D_X7_at 5 rfl) (by decide) rfl (fun q => k1 q) (fun q => k2 q)) (fun q2 => ?_) (fun q2 => ?_)
    · have h := h.1 q2
      exact h
    · have h := h.2 q2
      refine K_p (pc2 := 13) (lv2 := [(0, vR 67), (1, vI _)]) (st2 := [vI _]) (fun ad S Q _ k => V_iload_n (pc2 := 13) (dk D_X7_at 6 rfl) rfl (V_lg 1 rfl) rfl k) ?_
      refine K_p (pc2 := 15) (lv2 := [(0, vR 67), (1, vI _)]) (st2 := [vI _, vI _]) (fun ad S Q _ k => V_bipush (x := 12) (pc2 := 15) (dk D_X7_at 7 rfl) (by decide) rfl k) ?_
      refine K_if (pa := 22) (pb := 18) (lv2 := [(0, vR 67), (1, vI _)]) (st2 := []) (fun ad S Q _ k1 k2 => V_cmplt (tgt := 22) (pc2 := 18) (dk D_X7_at 8 rfl) (by decide) rfl (fun q => k1 q) (fun q => k2 q)) (fun q3 => ?_) (fun q3 => ?_)
      · have h := h.1 q3
        refine K_p (pc2 := 23) (lv2 := [(0, vR 67), (1, vI _)]) (st2 := [vR 67]) (fun ad S Q _ k => V_aload_n (pc2 := 23) (dk D_X7_at 11 rfl) rfl (V_lg 0 rfl) rfl k) ?_
        refine K_getF kc7 (h' := 71) (pc2 := 26) 1 (by decide) (dk D_X7_at 12 rfl) fl_7_20 (by decide) (fun _ _ => rfl) rfl (fixH 67 7 (by decide) rfl) (by decide) ?_
        refine K_p (pc2 := 27) (lv2 := [(0, vR 67), (1, vI _)]) (st2 := [vI _, vR 71]) (fun ad S Q _ k => V_iload_n (pc2 := 27) (dk D_X7_at 13 rfl) rfl (V_lg 1 rfl) rfl k) ?_
        obtain ⟨h4, h⟩ := h
        refine K_aB (pc2 := 28) (dk D_X7_at 14 rfl) rfl h4 ?_
        exact h
      · have h := h.2 q3
        exact h
theorem k_7_at_18 {X : Cx} {d : Nat} {κ : Km} {Q : Res → Km → Prop} (x1 : Int32) (h : K X d MX7_at 28 [(0, vR 67), (1, vI x1)] [vR 0] κ Q) : K X d MX7_at 18 [(0, vR 67), (1, vI x1)] [] κ Q := by
  refine K_p (pc2 := 19) (lv2 := [(0, vR 67), (1, vI _)]) (st2 := [vR 0]) (fun ad S Q _ k => V_null (pc2 := 19) (dk D_X7_at 9 rfl) rfl k) ?_
  refine K_p (pc2 := 28) (lv2 := [(0, vR 67), (1, vI _)]) (st2 := [vR 0]) (fun ad S Q _ k => V_goto (tgt := 28) (dk D_X7_at 10 rfl) (by decide) k) ?_
  exact h
theorem k_7_at_28 {X : Cx} {d : Nat} {κ : Km} {Q : Res → Km → Prop} (x1 : Int32) (t0 : Nat) (h : Q (.inl (some (vR t0))) κ) : K X d MX7_at 28 [(0, vR 67), (1, vI x1)] [vR t0] κ Q := by
  exact K_ret (r := .inl (some (vR _))) (fun ad S Q _ k => V_areturn (dk D_X7_at 15 rfl) rfl (Or.inl ⟨_, rfl⟩) k) h
theorem k_7_find_0 {X : Cx} {d : Nat} {κ : Km} {Q : Res → Km → Prop} (l1 : Int64) (h : K X d MX7_find 2 [(0, vR 67), (1, vL l1), (3, vI 0)] [] κ Q) : K X d MX7_find 0 [(0, vR 67), (1, vL l1)] [] κ Q := by
  refine K_p (pc2 := 1) (lv2 := [(0, vR 67), (1, vL _)]) (st2 := [vI _]) (fun ad S Q _ k => V_iconst (x := 0) (pc2 := 1) (dk D_X7_find 0 rfl) (by decide) rfl k) ?_
  refine K_p (pc2 := 2) (lv2 := [(0, vR 67), (1, vL _), (3, vI _)]) (st2 := []) (fun ad S Q _ k => V_istore_n (pc2 := 2) (lv2 := [(0, _), (1, _), (3, _)]) (dk D_X7_find 1 rfl) rfl (by decide) rfl rfl k) ?_
  exact h
theorem k_7_find_2 {X : Cx} {d : Nat} {κ : Km} {Q : Res → Km → Prop} (l1 : Int64) (x3 : Int32) (h : (((kI κ 67 2) ≤ x3 → K X d MX7_find 47 [(0, vR 67), (1, vL l1), (3, vI x3)] [] κ Q) ∧ (¬ (kI κ 67 2) ≤ x3 → ((12 ≤ x3 → K X d MX7_find 47 [(0, vR 67), (1, vL l1), (3, vI x3)] [] κ Q) ∧ (¬ 12 ≤ x3 → (vp_in x3 12) ∧ ((if (x3 : Int32).toNatClampNeg < kB κ then 1000 + 8 * (x3 : Int32).toNatClampNeg else 0) = 0 ∨ live κ (if (x3 : Int32).toNatClampNeg < kB κ then 1000 + 8 * (x3 : Int32).toNatClampNeg else 0)) ∧ (((if (x3 : Int32).toNatClampNeg < kB κ then 1000 + 8 * (x3 : Int32).toNatClampNeg else 0) = 0 → K X d MX7_find 41 [(0, vR 67), (1, vL l1), (3, vI x3)] [] κ Q) ∧ (¬ (if (x3 : Int32).toNatClampNeg < kB κ then 1000 + 8 * (x3 : Int32).toNatClampNeg else 0) = 0 → (vp_in x3 12) ∧ (isH κ (if (x3 : Int32).toNatClampNeg < kB κ then 1000 + 8 * (x3 : Int32).toNatClampNeg else 0) 0) ∧ (((lg_cmp (kL κ (if (x3 : Int32).toNatClampNeg < kB κ then 1000 + 8 * (x3 : Int32).toNatClampNeg else 0) 1) l1) = 0 → Q (.inl (some (vI x3))) κ) ∧ (¬ (lg_cmp (kL κ (if (x3 : Int32).toNatClampNeg < kB κ then 1000 + 8 * (x3 : Int32).toNatClampNeg else 0) 1) l1) = 0 → K X d MX7_find 41 [(0, vR 67), (1, vL l1), (3, vI x3)] [] κ Q))))))))) : K X d MX7_find 2 [(0, vR 67), (1, vL l1), (3, vI x3)] [] κ Q := by
  refine K_p (pc2 := 3) (lv2 := [(0, vR 67), (1, vL _), (3, vI _)]) (st2 := [vI _]) (fun ad S Q _ k => V_iload_n (pc2 := 3) (dk D_X7_find 2 rfl) rfl (V_lg 2 rfl) rfl k) ?_
  refine K_p (pc2 := 4) (lv2 := [(0, vR 67), (1, vL _), (3, vI _)]) (st2 := [vR 67, vI _]) (fun ad S Q _ k => V_aload_n (pc2 := 4) (dk D_X7_find 3 rfl) rfl (V_lg 0 rfl) rfl k) ?_
  refine K_getI kc7 (pc2 := 7) 2 (dk D_X7_find 4 rfl) fl_7_27 (by decide) (fun _ _ => rfl) rfl (fixH 67 7 (by decide) rfl) ?_
  refine K_if (pa := 47) (pb := 10) (lv2 := [(0, vR 67), (1, vL _), (3, vI _)]) (st2 := []) (fun ad S Q _ k1 k2 => V_cmpge (tgt := 47) (pc2 := 10) (dk D_X7_find 5 rfl) (by decide) rfl (fun q => k1 q) (fun q => k2 q)) (fun q1 => ?_) (fun q1 => ?_)
  · have h := h.1 q1
    exact h
  · have h := h.2 q1
    refine K_p (pc2 := 11) (lv2 := [(0, vR 67), (1, vL _), (3, vI _)]) (st2 := [vI _]) (fun ad S Q _ k => V_iload_n (pc2 := 11) (dk D_X7_find 6 rfl) rfl (V_lg 2 rfl) rfl k) ?_
    refine K_p (pc2 := 13) (lv2 := [(0, vR 67), (1, vL _), (3, vI _)]) (st2 := [vI _, vI _]) (fun ad S Q _ k => V_bipush (x := 12) (pc2 := 13) (dk D_X7_find 7 rfl) (by decide) rfl k) ?_
    refine K_if (pa := 47) (pb := 16) (lv2 := [(0, vR 67), (1, vL _), (3, vI _)]) (st2 := []) (fun ad S Q _ k1 k2 => V_cmpge (tgt := 47) (pc2 := 16) (dk D_X7_find 8 rfl) (by decide) rfl (fun q => k1 q) (fun q => k2 q)) (fun q2 => ?_) (fun q2 => ?_)
    · have h := h.1 q2
      exact h
    · have h := h.2 q2
      refine K_p (pc2 := 17) (lv2 := [(0, vR 67), (1, vL _), (3, vI _)]) (st2 := [vR 67]) (fun ad S Q _ k => V_aload_n (pc2 := 17) (dk D_X7_find 9 rfl) rfl (V_lg 0 rfl) rfl k) ?_
      refine K_getF kc7 (h' := 71) (pc2 := 20) 1 (by decide) (dk D_X7_find 10 rfl) fl_7_20 (by decide) (fun _ _ => rfl) rfl (fixH 67 7 (by decide) rfl) (by decide) ?_
      refine K_p (pc2 := 21) (lv2 := [(0, vR 67), (1, vL _), (3, vI _)]) (st2 := [vI _, vR 71]) (fun ad S Q _ k => V_iload_n (pc2 := 21) (dk D_X7_find 11 rfl) rfl (V_lg 2 rfl) rfl k) ?_
      obtain ⟨h3, h⟩ := h
      refine K_aB (pc2 := 22) (dk D_X7_find 12 rfl) rfl h3 ?_
      obtain ⟨h5, h⟩ := h
      refine K_ifnull (tgt := 41) (pc2 := 25) (dk D_X7_find 13 rfl) (by decide) rfl h5 (fun q4 => ?_) (fun q4 => ?_)
      · have h := h.1 q4
        exact h
      · have h := h.2 q4
        refine K_p (pc2 := 26) (lv2 := [(0, vR 67), (1, vL _), (3, vI _)]) (st2 := [vR 67]) (fun ad S Q _ k => V_aload_n (pc2 := 26) (dk D_X7_find 14 rfl) rfl (V_lg 0 rfl) rfl k) ?_
        refine K_getF kc7 (h' := 71) (pc2 := 29) 1 (by decide) (dk D_X7_find 15 rfl) fl_7_20 (by decide) (fun _ _ => rfl) rfl (fixH 67 7 (by decide) rfl) (by decide) ?_
        refine K_p (pc2 := 30) (lv2 := [(0, vR 67), (1, vL _), (3, vI _)]) (st2 := [vI _, vR 71]) (fun ad S Q _ k => V_iload_n (pc2 := 30) (dk D_X7_find 16 rfl) rfl (V_lg 2 rfl) rfl k) ?_
        obtain ⟨h6, h⟩ := h
        refine K_aB (pc2 := 31) (dk D_X7_find 17 rfl) rfl h6 ?_
        obtain ⟨h7, h⟩ := h
        refine K_getL kc0 (pc2 := 34) 1 (dk D_X7_find 18 rfl) fl_7_34 (by decide) (fun _ _ => rfl) rfl h7 ?_
        refine K_p (pc2 := 35) (lv2 := [(0, vR 67), (1, vL _), (3, vI _)]) (st2 := [vL _, vL _]) (fun ad S Q _ k => V_lload_n (pc2 := 35) (dk D_X7_find 19 rfl) rfl (V_lg 1 rfl) rfl k) ?_
        refine K_p (pc2 := 36) (lv2 := [(0, vR 67), (1, vL _), (3, vI _)]) (st2 := [vI _]) (fun ad S Q _ k => V_lcmp (pc2 := 36) (dk D_X7_find 20 rfl) rfl k) ?_
        refine K_if (pa := 39) (pb := 41) (lv2 := [(0, vR 67), (1, vL _), (3, vI _)]) (st2 := []) (fun ad S Q _ k1 k2 => V_ifne (tgt := 41) (pc2 := 39) (dk D_X7_find 21 rfl) (by decide) rfl (fun q => k2 q) (fun q => k1 q)) (fun q8 => ?_) (fun q8 => ?_)
        · have h := h.1 q8
          refine K_p (pc2 := 40) (lv2 := [(0, vR 67), (1, vL _), (3, vI _)]) (st2 := [vI _]) (fun ad S Q _ k => V_iload_n (pc2 := 40) (dk D_X7_find 22 rfl) rfl (V_lg 2 rfl) rfl k) ?_
          exact K_ret (r := .inl (some (vI _))) (fun ad S Q _ k => V_ireturn (dk D_X7_find 23 rfl) rfl k) h
        · have h := h.2 q8
          exact h
theorem k_7_find_41 {X : Cx} {d : Nat} {κ : Km} {Q : Res → Km → Prop} (l1 : Int64) (x3 : Int32) (h : K X d MX7_find 2 [(0, vR 67), (1, vL l1), (3, vI (x3 + 1))] [] κ Q) : K X d MX7_find 41 [(0, vR 67), (1, vL l1), (3, vI x3)] [] κ Q := by
  refine K_p (pc2 := 44) (lv2 := [(0, vR 67), (1, vL _), (3, vI _)]) (st2 := []) (fun ad S Q _ k => V_iinc (y := _ + 1) (pc2 := 44) (lv2 := [(0, _), (1, _), (3, _)]) (dk D_X7_find 24 rfl) (V_lg 2 rfl) rfl (by decide) rfl rfl k) ?_
  refine K_p (pc2 := 2) (lv2 := [(0, vR 67), (1, vL _), (3, vI _)]) (st2 := []) (fun ad S Q _ k => V_goto (tgt := 2) (dk D_X7_find 25 rfl) (by decide) k) ?_
  exact h
theorem k_7_find_47 {X : Cx} {d : Nat} {κ : Km} {Q : Res → Km → Prop} (l1 : Int64) (x3 : Int32) (h : Q (.inl (some (vI (-9)))) κ) : K X d MX7_find 47 [(0, vR 67), (1, vL l1), (3, vI x3)] [] κ Q := by
  refine K_p (pc2 := 49) (lv2 := [(0, vR 67), (1, vL _), (3, vI _)]) (st2 := [vI _]) (fun ad S Q _ k => V_bipush (x := (-9)) (pc2 := 49) (dk D_X7_find 26 rfl) (by decide) rfl k) ?_
  exact K_ret (r := .inl (some (vI _))) (fun ad S Q _ k => V_ireturn (dk D_X7_find 27 rfl) rfl k) h
theorem k_7_noteWrongName_0 {X : Cx} {d : Nat} {κ : Km} {Q : Res → Km → Prop} (x1 : Int32) (h : (((kI κ 67 3) = (-9) → K X d MX7_noteWrongName 17 [(0, vR 67), (1, vI x1)] [] κ Q) ∧ (¬ (kI κ 67 3) = (-9) → (((kI κ 67 3) ≤ x1 → K X d MX7_noteWrongName 22 [(0, vR 67), (1, vI x1)] [] κ Q) ∧ (¬ (kI κ 67 3) ≤ x1 → K X d MX7_noteWrongName 17 [(0, vR 67), (1, vI x1)] [] κ Q))))) : K X d MX7_noteWrongName 0 [(0, vR 67), (1, vI x1)] [] κ Q := by
  refine K_p (pc2 := 1) (lv2 := [(0, vR 67), (1, vI _)]) (st2 := [vR 67]) (fun ad S Q _ k => V_aload_n (pc2 := 1) (dk D_X7_noteWrongName 0 rfl) rfl (V_lg 0 rfl) rfl k) ?_
  refine K_getI kc7 (pc2 := 4) 3 (dk D_X7_noteWrongName 1 rfl) fl_7_31 (by decide) (fun _ _ => rfl) rfl (fixH 67 7 (by decide) rfl) ?_
  refine K_p (pc2 := 6) (lv2 := [(0, vR 67), (1, vI _)]) (st2 := [vI _, vI _]) (fun ad S Q _ k => V_bipush (x := (-9)) (pc2 := 6) (dk D_X7_noteWrongName 2 rfl) (by decide) rfl k) ?_
  refine K_if (pa := 17) (pb := 9) (lv2 := [(0, vR 67), (1, vI _)]) (st2 := []) (fun ad S Q _ k1 k2 => V_cmpeq (tgt := 17) (pc2 := 9) (dk D_X7_noteWrongName 3 rfl) (by decide) rfl (fun q => k1 q) (fun q => k2 q)) (fun q1 => ?_) (fun q1 => ?_)
  · have h := h.1 q1
    exact h
  · have h := h.2 q1
    refine K_p (pc2 := 10) (lv2 := [(0, vR 67), (1, vI _)]) (st2 := [vI _]) (fun ad S Q _ k => V_iload_n (pc2 := 10) (dk D_X7_noteWrongName 4 rfl) rfl (V_lg 1 rfl) rfl k) ?_
    refine K_p (pc2 := 11) (lv2 := [(0, vR 67), (1, vI _)]) (st2 := [vR 67, vI _]) (fun ad S Q _ k => V_aload_n (pc2 := 11) (dk D_X7_noteWrongName 5 rfl) rfl (V_lg 0 rfl) rfl k) ?_
    refine K_getI kc7 (pc2 := 14) 3 (dk D_X7_noteWrongName 6 rfl) fl_7_31 (by decide) (fun _ _ => rfl) rfl (fixH 67 7 (by decide) rfl) ?_
    refine K_if (pa := 22) (pb := 17) (lv2 := [(0, vR 67), (1, vI _)]) (st2 := []) (fun ad S Q _ k1 k2 => V_cmpge (tgt := 22) (pc2 := 17) (dk D_X7_noteWrongName 7 rfl) (by decide) rfl (fun q => k1 q) (fun q => k2 q)) (fun q2 => ?_) (fun q2 => ?_)
    · have h := h.1 q2
      exact h
    · have h := h.2 q2
      exact h
theorem k_7_noteWrongName_17 {X : Cx} {d : Nat} {κ : Km} {Q : Res → Km → Prop} (x1 : Int32) (h : ∀ κ1 : Km, κ1 = cI κ 67 3 x1 → K X d MX7_noteWrongName 22 [(0, vR 67), (1, vI x1)] [] κ1 Q) : K X d MX7_noteWrongName 17 [(0, vR 67), (1, vI x1)] [] κ Q := by
  refine K_p (pc2 := 18) (lv2 := [(0, vR 67), (1, vI _)]) (st2 := [vR 67]) (fun ad S Q _ k => V_aload_n (pc2 := 18) (dk D_X7_noteWrongName 8 rfl) rfl (V_lg 0 rfl) rfl k) ?_
  refine K_p (pc2 := 19) (lv2 := [(0, vR 67), (1, vI _)]) (st2 := [vI _, vR 67]) (fun ad S Q _ k => V_iload_n (pc2 := 19) (dk D_X7_noteWrongName 9 rfl) rfl (V_lg 1 rfl) rfl k) ?_
  refine K_putI kc7 (pc2 := 22) 3 (dk D_X7_noteWrongName 10 rfl) fl_7_31 (by decide) (Or.inl rfl) rfl rfl (fixH 67 7 (by decide) rfl) (by decide) ?_
  have h := h _ rfl
  exact h
theorem k_7_noteWrongName_22 {X : Cx} {d : Nat} {κ : Km} {Q : Res → Km → Prop} (x1 : Int32) (h : Q (.inl none) κ) : K X d MX7_noteWrongName 22 [(0, vR 67), (1, vI x1)] [] κ Q := by
  exact K_ret (r := .inl none) (fun ad S Q _ k => V_return (dk D_X7_noteWrongName 11 rfl) rfl k) h
theorem k_7_wrongName_0 {X : Cx} {d : Nat} {κ : Km} {Q : Res → Km → Prop}  (h : Q (.inl (some (vI (kI κ 67 3)))) κ) : K X d MX7_wrongName 0 [(0, vR 67)] [] κ Q := by
  refine K_p (pc2 := 1) (lv2 := [(0, vR 67)]) (st2 := [vR 67]) (fun ad S Q _ k => V_aload_n (pc2 := 1) (dk D_X7_wrongName 0 rfl) rfl (V_lg 0 rfl) rfl k) ?_
  refine K_getI kc7 (pc2 := 4) 3 (dk D_X7_wrongName 1 rfl) fl_7_31 (by decide) (fun _ _ => rfl) rfl (fixH 67 7 (by decide) rfl) ?_
  exact K_ret (r := .inl (some (vI _))) (fun ad S Q _ k => V_ireturn (dk D_X7_wrongName 2 rfl) rfl k) h
