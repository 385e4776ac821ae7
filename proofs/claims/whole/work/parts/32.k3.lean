theorem k_5_read_0 {X : Cx} {d : Nat} {κ : Km} {Q : Res → Km → Prop}  (h : ∃ e1 : Nat, e1 + 1 ≤ d ∧ KC' X e1 MX7_clear [vR 67] κ (kRV fun  κ4 => ∃ e6 : Nat, e6 + 1 ≤ d ∧ KC' X e6 MX9_readTape [vR 72] κ4 (kRV fun  κ9 => ∀ κ11 : Km, κ11 = cI κ9 77 4 0 → ∀ κ12 : Km, κ12 = cI κ11 77 5 (-9) → K X d MX5_read 27 [(0, vR 77), (1, vI 0)] [] κ12 Q))) : K X d MX5_read 0 [(0, vR 77)] [] κ Q := by
  refine K_p (pc2 := 1) (lv2 := [(0, vR 77)]) (st2 := [vR 77]) (fun ad S Q _ k => V_aload_n (pc2 := 1) (dk D_X5_read 0 rfl) rfl (V_lg 0 rfl) rfl k) ?_
  refine K_getF kc5 (h' := 67) (pc2 := 4) 1 (by decide) (dk D_X5_read 1 rfl) fl_5_15 (by decide) (fun _ _ => rfl) rfl (fixH 77 5 (by decide) rfl) (by decide) ?_
  obtain ⟨e1, he2, hc3⟩ := h
  refine K_call (as := [vR 67]) (st := []) (pc2 := 7) (okL.all _ ⟨(Or.inr ⟨Or.inl ⟨by decide, by decide⟩, by decide⟩), trivial⟩) (okS.all _ trivial) (fun ad S Q Qc hC hc k => V_callV (as := []) (st := []) (M' := MX7_clear) (ci := 7) (pc2 := 7) (dk D_X5_read 2 rfl) ml_5_26 mv_X7_clear rfl rfl (by decide) rfl (Nat.le_of_ble_eq_true rfl) rfl he2 (hC.k' (fixH 67 7 (by decide) rfl)) hc k) hc3 (kRV.k fun  κ4 h mo5 => ?_)
  refine K_p (pc2 := 8) (lv2 := [(0, vR 77)]) (st2 := [vR 77]) (fun ad S Q _ k => V_aload_n (pc2 := 8) (dk D_X5_read 3 rfl) rfl (V_lg 0 rfl) rfl k) ?_
  refine K_getF kc5 (h' := 72) (pc2 := 11) 0 (by decide) (dk D_X5_read 4 rfl) fl_5_9 (by decide) (fun _ _ => rfl) rfl (fixH 77 5 (by decide) rfl) (by decide) ?_
  obtain ⟨e6, he7, hc8⟩ := h
  refine K_call (as := [vR 72]) (st := []) (pc2 := 14) (okL.all _ ⟨(Or.inr ⟨Or.inl ⟨by decide, by decide⟩, by decide⟩), trivial⟩) (okS.all _ trivial) (fun ad S Q Qc hC hc k => V_callV (as := []) (st := []) (M' := MX9_readTape) (ci := 9) (pc2 := 14) (dk D_X5_read 5 rfl) ml_5_29 mv_X9_readTape rfl rfl (by decide) rfl (Nat.le_of_ble_eq_true rfl) rfl he7 (hC.k' (fixH 72 9 (by decide) rfl)) hc k) hc8 (kRV.k fun  κ9 h mo10 => ?_)
  refine K_p (pc2 := 15) (lv2 := [(0, vR 77)]) (st2 := [vR 77]) (fun ad S Q _ k => V_aload_n (pc2 := 15) (dk D_X5_read 6 rfl) rfl (V_lg 0 rfl) rfl k) ?_
  refine K_p (pc2 := 16) (lv2 := [(0, vR 77)]) (st2 := [vI _, vR 77]) (fun ad S Q _ k => V_iconst (x := 0) (pc2 := 16) (dk D_X5_read 7 rfl) (by decide) rfl k) ?_
  refine K_putI kc5 (pc2 := 19) 4 (dk D_X5_read 8 rfl) fl_5_34 (by decide) (Or.inl rfl) rfl rfl (fixH 77 5 (by decide) rfl) (by decide) ?_
  have h := h _ rfl
  refine K_p (pc2 := 20) (lv2 := [(0, vR 77)]) (st2 := [vR 77]) (fun ad S Q _ k => V_aload_n (pc2 := 20) (dk D_X5_read 9 rfl) rfl (V_lg 0 rfl) rfl k) ?_
  refine K_p (pc2 := 22) (lv2 := [(0, vR 77)]) (st2 := [vI _, vR 77]) (fun ad S Q _ k => V_bipush (x := (-9)) (pc2 := 22) (dk D_X5_read 10 rfl) (by decide) rfl k) ?_
  refine K_putI kc5 (pc2 := 25) 5 (dk D_X5_read 11 rfl) fl_5_38 (by decide) (Or.inl rfl) rfl rfl (fixH 77 5 (by decide) rfl) (by decide) ?_
  have h := h _ rfl
  refine K_p (pc2 := 26) (lv2 := [(0, vR 77)]) (st2 := [vI _]) (fun ad S Q _ k => V_iconst (x := 0) (pc2 := 26) (dk D_X5_read 12 rfl) (by decide) rfl k) ?_
  refine K_p (pc2 := 27) (lv2 := [(0, vR 77), (1, vI _)]) (st2 := []) (fun ad S Q _ k => V_istore_n (pc2 := 27) (lv2 := [(0, _), (1, _)]) (dk D_X5_read 13 rfl) rfl (by decide) rfl rfl k) ?_
  exact h
theorem k_5_read_27 {X : Cx} {d : Nat} {κ : Km} {Q : Res → Km → Prop} (x1 : Int32) (h : ((12 < x1 → K X d MX5_read 121 [(0, vR 77), (1, vI x1)] [] κ Q) ∧ (¬ 12 < x1 → (((kI κ 77 5) = (-9) → ((x1 ≤ 0 → K X d MX5_read 59 [(0, vR 77), (1, vI x1)] [] κ Q) ∧ (¬ x1 ≤ 0 → (((kI κ 72 7) = 0 → K X d MX5_read 121 [(0, vR 77), (1, vI x1)] [] κ Q) ∧ (¬ (kI κ 72 7) = 0 → K X d MX5_read 59 [(0, vR 77), (1, vI x1)] [] κ Q))))) ∧ (¬ (kI κ 77 5) = (-9) → K X d MX5_read 121 [(0, vR 77), (1, vI x1)] [] κ Q))))) : K X d MX5_read 27 [(0, vR 77), (1, vI x1)] [] κ Q := by
  refine K_p (pc2 := 28) (lv2 := [(0, vR 77), (1, vI _)]) (st2 := [vI _]) (fun ad S Q _ k => V_iload_n (pc2 := 28) (dk D_X5_read 14 rfl) rfl (V_lg 1 rfl) rfl k) ?_
  refine K_p (pc2 := 30) (lv2 := [(0, vR 77), (1, vI _)]) (st2 := [vI _, vI _]) (fun ad S Q _ k => V_bipush (x := 12) (pc2 := 30) (dk D_X5_read 15 rfl) (by decide) rfl k) ?_
  refine K_if (pa := 121) (pb := 33) (lv2 := [(0, vR 77), (1, vI _)]) (st2 := []) (fun ad S Q _ k1 k2 => V_cmpgt (tgt := 121) (pc2 := 33) (dk D_X5_read 16 rfl) (by decide) rfl (fun q => k1 q) (fun q => k2 q)) (fun q1 => ?_) (fun q1 => ?_)
  · have h := h.1 q1
    exact h
  · have h := h.2 q1
    refine K_p (pc2 := 34) (lv2 := [(0, vR 77), (1, vI _)]) (st2 := [vR 77]) (fun ad S Q _ k => V_aload_n (pc2 := 34) (dk D_X5_read 17 rfl) rfl (V_lg 0 rfl) rfl k) ?_
    refine K_getI kc5 (pc2 := 37) 5 (dk D_X5_read 18 rfl) fl_5_38 (by decide) (fun _ _ => rfl) rfl (fixH 77 5 (by decide) rfl) ?_
    refine K_p (pc2 := 39) (lv2 := [(0, vR 77), (1, vI _)]) (st2 := [vI _, vI _]) (fun ad S Q _ k => V_bipush (x := (-9)) (pc2 := 39) (dk D_X5_read 19 rfl) (by decide) rfl k) ?_
    refine K_if (pa := 42) (pb := 121) (lv2 := [(0, vR 77), (1, vI _)]) (st2 := []) (fun ad S Q _ k1 k2 => V_cmpne (tgt := 121) (pc2 := 42) (dk D_X5_read 20 rfl) (by decide) rfl (fun q => k2 q) (fun q => k1 q)) (fun q2 => ?_) (fun q2 => ?_)
    · have h := h.1 q2
      refine K_p (pc2 := 43) (lv2 := [(0, vR 77), (1, vI _)]) (st2 := [vI _]) (fun ad S Q _ k => V_iload_n (pc2 := 43) (dk D_X5_read 21 rfl) rfl (V_lg 1 rfl) rfl k) ?_
      refine K_if (pa := 59) (pb := 46) (lv2 := [(0, vR 77), (1, vI _)]) (st2 := []) (fun ad S Q _ k1 k2 => V_ifle (tgt := 59) (pc2 := 46) (dk D_X5_read 22 rfl) (by decide) rfl (fun q => k1 q) (fun q => k2 q)) (fun q3 => ?_) (fun q3 => ?_)
      · have h := h.1 q3
        exact h
      · have h := h.2 q3
        refine K_p (pc2 := 47) (lv2 := [(0, vR 77), (1, vI _)]) (st2 := [vR 77]) (fun ad S Q _ k => V_aload_n (pc2 := 47) (dk D_X5_read 23 rfl) rfl (V_lg 0 rfl) rfl k) ?_
        refine K_getF kc5 (h' := 72) (pc2 := 50) 0 (by decide) (dk D_X5_read 24 rfl) fl_5_9 (by decide) (fun _ _ => rfl) rfl (fixH 77 5 (by decide) rfl) (by decide) ?_
        refine K_getI kc9 (pc2 := 53) 7 (dk D_X5_read 25 rfl) fl_5_41 (by decide) (fun _ _ => rfl) rfl (fixH 72 9 (by decide) rfl) ?_
        refine K_if (pa := 56) (pb := 59) (lv2 := [(0, vR 77), (1, vI _)]) (st2 := []) (fun ad S Q _ k1 k2 => V_ifne (tgt := 59) (pc2 := 56) (dk D_X5_read 26 rfl) (by decide) rfl (fun q => k2 q) (fun q => k1 q)) (fun q4 => ?_) (fun q4 => ?_)
        · have h := h.1 q4
          refine K_p (pc2 := 121) (lv2 := [(0, vR 77), (1, vI _)]) (st2 := []) (fun ad S Q _ k => V_goto (tgt := 121) (dk D_X5_read 27 rfl) (by decide) k) ?_
          exact h
        · have h := h.2 q4
          exact h
    · have h := h.2 q2
      exact h
theorem k_5_read_59 {X : Cx} {d : Nat} {κ : Km} {Q : Res → Km → Prop} (x1 : Int32) (h : ∃ e1 : Nat, e1 + 1 ≤ d ∧ KC' X e1 MX5_readHead [vR 77] κ (kRI fun y4 κ5 => ((y4 = 0 → K X d MX5_read 115 [(0, vR 77), (1, vI x1)] [] κ5 Q) ∧ (¬ y4 = 0 → ∃ e8 : Nat, e8 + 1 ≤ d ∧ KC' X e8 MX5_readBlock [vR 77] κ5 (kRI fun y11 κ12 => ((y11 = 0 → K X d MX5_read 115 [(0, vR 77), (1, vI x1)] [] κ12 Q) ∧ (¬ y11 = 0 → ((kC κ12) = 0 ∨ live κ12 (kC κ12)) ∧ (((kC κ12) = 0 → K X d MX5_read 115 [(0, vR 77), (1, vI x1)] [] κ12 Q) ∧ (¬ (kC κ12) = 0 → ∃ e17 : Nat, e17 + 1 ≤ d ∧ KC' X e17 MX1_add [vR 68, vI 1, vI 0] κ12 (kRI fun y20 κ21 => ∃ e23 : Nat, e23 + 1 ≤ d ∧ KC' X e23 MX1_add [vR 68, vI 46, vI 0] κ21 (kRI fun y26 κ27 => (isH κ27 (kC κ27) 0) ∧ ∃ e29 : Nat, e29 + 1 ≤ d ∧ KC' X e29 MX1_size [vR 68] κ27 (kRI fun y32 κ34 => ∀ κ36 : Km, κ36 = cI κ34 (kC κ27) 7 y32 → K X d MX5_read 115 [(0, vR 77), (1, vI x1)] [] κ36 Q)))))))))))) : K X d MX5_read 59 [(0, vR 77), (1, vI x1)] [] κ Q := by
  refine K_p (pc2 := 60) (lv2 := [(0, vR 77), (1, vI _)]) (st2 := [vR 77]) (fun ad S Q _ k => V_aload_n (pc2 := 60) (dk D_X5_read 28 rfl) rfl (V_lg 0 rfl) rfl k) ?_
  obtain ⟨e1, he2, hc3⟩ := h
  refine K_call (as := [vR 77]) (st := []) (pc2 := 63) (okL.all _ ⟨(Or.inr ⟨Or.inl ⟨by decide, by decide⟩, by decide⟩), trivial, trivial⟩) (okS.all _ trivial) (fun ad S Q Qc hC hc k => V_callV (as := []) (st := []) (M' := MX5_readHead) (ci := 5) (pc2 := 63) (dk D_X5_read 29 rfl) ml_5_44 mv_X5_readHead rfl rfl (by decide) rfl (Nat.le_of_ble_eq_true rfl) rfl he2 (hC.k' (fixH 77 5 (by decide) rfl)) hc k) hc3 (kRI.k fun y4 κ5 h mo6 => ?_)
  refine K_if (pa := 115) (pb := 66) (lv2 := [(0, vR 77), (1, vI _)]) (st2 := []) (fun ad S Q _ k1 k2 => V_ifeq (tgt := 115) (pc2 := 66) (dk D_X5_read 30 rfl) (by decide) rfl (fun q => k1 q) (fun q => k2 q)) (fun q7 => ?_) (fun q7 => ?_)
  · have h := h.1 q7
    exact h
  · have h := h.2 q7
    refine K_p (pc2 := 67) (lv2 := [(0, vR 77), (1, vI _)]) (st2 := [vR 77]) (fun ad S Q _ k => V_aload_n (pc2 := 67) (dk D_X5_read 31 rfl) rfl (V_lg 0 rfl) rfl k) ?_
    obtain ⟨e8, he9, hc10⟩ := h
    refine K_call (as := [vR 77]) (st := []) (pc2 := 70) (okL.all _ ⟨(Or.inr ⟨Or.inl ⟨by decide, by decide⟩, by decide⟩), trivial, trivial⟩) (okS.all _ trivial) (fun ad S Q Qc hC hc k => V_callV (as := []) (st := []) (M' := MX5_readBlock) (ci := 5) (pc2 := 70) (dk D_X5_read 32 rfl) ml_5_48 mv_X5_readBlock rfl rfl (by decide) rfl (Nat.le_of_ble_eq_true rfl) rfl he9 (hC.k' (fixH 77 5 (by decide) rfl)) hc k) hc10 (kRI.k fun y11 κ12 h mo13 => ?_)
    refine K_if (pa := 115) (pb := 73) (lv2 := [(0, vR 77), (1, vI _)]) (st2 := []) (fun ad S Q _ k1 k2 => V_ifeq (tgt := 115) (pc2 := 73) (dk D_X5_read 33 rfl) (by decide) rfl (fun q => k1 q) (fun q => k2 q)) (fun q14 => ?_) (fun q14 => ?_)
    · have h := h.1 q14
      exact h
    · have h := h.2 q14
      refine K_p (pc2 := 74) (lv2 := [(0, vR 77), (1, vI _)]) (st2 := [vR 77]) (fun ad S Q _ k => V_aload_n (pc2 := 74) (dk D_X5_read 34 rfl) rfl (V_lg 0 rfl) rfl k) ?_
      refine K_getC (pc2 := 77) (dk D_X5_read 35 rfl) fl_5_51 rfl ?_
      obtain ⟨h16, h⟩ := h
      refine K_ifnull (tgt := 115) (pc2 := 80) (dk D_X5_read 36 rfl) (by decide) rfl h16 (fun q15 => ?_) (fun q15 => ?_)
      · have h := h.1 q15
        exact h
      · have h := h.2 q15
        refine K_p (pc2 := 81) (lv2 := [(0, vR 77), (1, vI _)]) (st2 := [vR 77]) (fun ad S Q _ k => V_aload_n (pc2 := 81) (dk D_X5_read 37 rfl) rfl (V_lg 0 rfl) rfl k) ?_
        refine K_getF kc5 (h' := 68) (pc2 := 84) 2 (by decide) (dk D_X5_read 38 rfl) fl_5_25 (by decide) (fun _ _ => rfl) rfl (fixH 77 5 (by decide) rfl) (by decide) ?_
        refine K_p (pc2 := 85) (lv2 := [(0, vR 77), (1, vI _)]) (st2 := [vI _, vR 68]) (fun ad S Q _ k => V_iconst (x := 1) (pc2 := 85) (dk D_X5_read 39 rfl) (by decide) rfl k) ?_
        refine K_p (pc2 := 86) (lv2 := [(0, vR 77), (1, vI _)]) (st2 := [vI _, vI _, vR 68]) (fun ad S Q _ k => V_iconst (x := 0) (pc2 := 86) (dk D_X5_read 40 rfl) (by decide) rfl k) ?_
        obtain ⟨e17, he18, hc19⟩ := h
        refine K_call (as := [vR 68, vI _, vI _]) (st := []) (pc2 := 89) (okL.all _ ⟨(Or.inr ⟨Or.inl ⟨by decide, by decide⟩, by decide⟩), trivial, trivial⟩) (okS.all _ trivial) (fun ad S Q Qc hC hc k => V_callV (as := [_, _]) (st := []) (M' := MX1_add) (ci := 1) (pc2 := 89) (dk D_X5_read 41 rfl) ml_5_57 mv_X1_add rfl rfl (by decide) rfl (Nat.le_of_ble_eq_true rfl) rfl he18 (hC.k' (fixH 68 1 (by decide) rfl)) hc k) hc19 (kRI.k fun y20 κ21 h mo22 => ?_)
        refine K_p (pc2 := 90) (lv2 := [(0, vR 77), (1, vI _)]) (st2 := []) (fun ad S Q _ k => V_pop (pc2 := 90) (dk D_X5_read 42 rfl) rfl rfl k) ?_
        refine K_p (pc2 := 91) (lv2 := [(0, vR 77), (1, vI _)]) (st2 := [vR 77]) (fun ad S Q _ k => V_aload_n (pc2 := 91) (dk D_X5_read 43 rfl) rfl (V_lg 0 rfl) rfl k) ?_
        refine K_getF kc5 (h' := 68) (pc2 := 94) 2 (by decide) (dk D_X5_read 44 rfl) fl_5_25 (by decide) (fun _ _ => rfl) rfl (fixH 77 5 (by decide) rfl) (by decide) ?_
        refine K_p (pc2 := 96) (lv2 := [(0, vR 77), (1, vI _)]) (st2 := [vI _, vR 68]) (fun ad S Q _ k => V_bipush (x := 46) (pc2 := 96) (dk D_X5_read 45 rfl) (by decide) rfl k) ?_
        refine K_p (pc2 := 97) (lv2 := [(0, vR 77), (1, vI _)]) (st2 := [vI _, vI _, vR 68]) (fun ad S Q _ k => V_iconst (x := 0) (pc2 := 97) (dk D_X5_read 46 rfl) (by decide) rfl k) ?_
        obtain ⟨e23, he24, hc25⟩ := h
        refine K_call (as := [vR 68, vI _, vI _]) (st := []) (pc2 := 100) (okL.all _ ⟨(Or.inr ⟨Or.inl ⟨by decide, by decide⟩, by decide⟩), trivial, trivial⟩) (okS.all _ trivial) (fun ad S Q Qc hC hc k => V_callV (as := [_, _]) (st := []) (M' := MX1_add) (ci := 1) (pc2 := 100) (dk D_X5_read 47 rfl) ml_5_57 mv_X1_add rfl rfl (by decide) rfl (Nat.le_of_ble_eq_true rfl) rfl he24 (hC.k' (fixH 68 1 (by decide) rfl)) hc k) hc25 (kRI.k fun y26 κ27 h mo28 => ?_)
        refine K_p (pc2 := 101) (lv2 := [(0, vR 77), (1, vI _)]) (st2 := []) (fun ad S Q _ k => V_pop (pc2 := 101) (dk D_X5_read 48 rfl) rfl rfl k) ?_
        refine K_p (pc2 := 102) (lv2 := [(0, vR 77), (1, vI _)]) (st2 := [vR 77]) (fun ad S Q _ k => V_aload_n (pc2 := 102) (dk D_X5_read 49 rfl) rfl (V_lg 0 rfl) rfl k) ?_
        refine K_getC (pc2 := 105) (dk D_X5_read 50 rfl) fl_5_51 rfl ?_
        refine K_p (pc2 := 106) (lv2 := [(0, vR 77), (1, vI _)]) (st2 := [vR 77, vR _]) (fun ad S Q _ k => V_aload_n (pc2 := 106) (dk D_X5_read 51 rfl) rfl (V_lg 0 rfl) rfl k) ?_
        refine K_getF kc5 (h' := 68) (pc2 := 109) 2 (by decide) (dk D_X5_read 52 rfl) fl_5_25 (by decide) (fun _ _ => rfl) rfl (fixH 77 5 (by decide) rfl) (by decide) ?_
        obtain ⟨h33, h⟩ := h
        obtain ⟨e29, he30, hc31⟩ := h
        refine K_call (as := [vR 68]) (st := [vR _]) (pc2 := 112) (okL.all _ ⟨(Or.inr ⟨Or.inl ⟨by decide, by decide⟩, by decide⟩), trivial, trivial⟩) (okS.all _ ⟨(isH.ok h33 (by decide)), trivial⟩) (fun ad S Q Qc hC hc k => V_callV (as := []) (st := [_]) (M' := MX1_size) (ci := 1) (pc2 := 112) (dk D_X5_read 53 rfl) ml_5_61 mv_X1_size rfl rfl (by decide) rfl (Nat.le_of_ble_eq_true rfl) rfl he30 (hC.k' (fixH 68 1 (by decide) rfl)) hc k) hc31 (kRI.k fun y32 κ34 h mo35 => ?_)
        refine K_putI kc0 (pc2 := 115) 7 (dk D_X5_read 54 rfl) fl_5_65 (by decide) (Or.inl rfl) rfl rfl (isH.mo h33 (by decide) mo35) (isH.n69 (isH.mo h33 (by decide) mo35) (by decide)) ?_
        have h := h _ rfl
        exact h
theorem k_5_read_115 {X : Cx} {d : Nat} {κ : Km} {Q : Res → Km → Prop} (x1 : Int32) (h : K X d MX5_read 27 [(0, vR 77), (1, vI (x1 + 1))] [] κ Q) : K X d MX5_read 115 [(0, vR 77), (1, vI x1)] [] κ Q := by
  refine K_p (pc2 := 118) (lv2 := [(0, vR 77), (1, vI _)]) (st2 := []) (fun ad S Q _ k => V_iinc (y := _ + 1) (pc2 := 118) (lv2 := [(0, _), (1, _)]) (dk D_X5_read 55 rfl) (V_lg 1 rfl) rfl (by decide) rfl rfl k) ?_
  refine K_p (pc2 := 27) (lv2 := [(0, vR 77), (1, vI _)]) (st2 := []) (fun ad S Q _ k => V_goto (tgt := 27) (dk D_X5_read 56 rfl) (by decide) k) ?_
  exact h
theorem k_5_read_121 {X : Cx} {d : Nat} {κ : Km} {Q : Res → Km → Prop} (x1 : Int32) (h : Q (.inl (some (vI (kI κ 77 5)))) κ) : K X d MX5_read 121 [(0, vR 77), (1, vI x1)] [] κ Q := by
  refine K_p (pc2 := 122) (lv2 := [(0, vR 77), (1, vI _)]) (st2 := [vR 77]) (fun ad S Q _ k => V_aload_n (pc2 := 122) (dk D_X5_read 57 rfl) rfl (V_lg 0 rfl) rfl k) ?_
  refine K_getI kc5 (pc2 := 125) 5 (dk D_X5_read 58 rfl) fl_5_38 (by decide) (fun _ _ => rfl) rfl (fixH 77 5 (by decide) rfl) ?_
  exact K_ret (r := .inl (some (vI _))) (fun ad S Q _ k => V_ireturn (dk D_X5_read 59 rfl) rfl k) h
theorem k_5_refuse_0 {X : Cx} {d : Nat} {κ : Km} {Q : Res → Km → Prop} (x1 : Int32) (h : ∀ κ1 : Km, κ1 = cI κ 77 5 x1 → Q (.inl (some (vI 0))) κ1) : K X d MX5_refuse 0 [(0, vR 77), (1, vI x1)] [] κ Q := by
  refine K_p (pc2 := 1) (lv2 := [(0, vR 77), (1, vI _)]) (st2 := [vR 77]) (fun ad S Q _ k => V_aload_n (pc2 := 1) (dk D_X5_refuse 0 rfl) rfl (V_lg 0 rfl) rfl k) ?_
  refine K_p (pc2 := 2) (lv2 := [(0, vR 77), (1, vI _)]) (st2 := [vI _, vR 77]) (fun ad S Q _ k => V_iload_n (pc2 := 2) (dk D_X5_refuse 1 rfl) rfl (V_lg 1 rfl) rfl k) ?_
  refine K_putI kc5 (pc2 := 5) 5 (dk D_X5_refuse 2 rfl) fl_5_38 (by decide) (Or.inl rfl) rfl rfl (fixH 77 5 (by decide) rfl) (by decide) ?_
  have h := h _ rfl
  refine K_p (pc2 := 6) (lv2 := [(0, vR 77), (1, vI _)]) (st2 := [vI _]) (fun ad S Q _ k => V_iconst (x := 0) (pc2 := 6) (dk D_X5_refuse 3 rfl) (by decide) rfl k) ?_
  exact K_ret (r := .inl (some (vI _))) (fun ad S Q _ k => V_zreturn (dk D_X5_refuse 4 rfl) rfl (Or.inl rfl) k) h
theorem k_5_take_0 {X : Cx} {d : Nat} {κ : Km} {Q : Res → Km → Prop} (x1 : Int32) (h : (((kI κ 72 7) = x1 → ∃ e2 : Nat, e2 + 1 ≤ d ∧ KC' X e2 MX9_next [vR 72] κ (kRV fun  κ5 => Q (.inl (some (vI 1))) κ5)) ∧ (¬ (kI κ 72 7) = x1 → ∃ e7 : Nat, e7 + 1 ≤ d ∧ KC' X e7 MX5_refuse [vR 77, vI (kI κ 72 8)] κ (kRI fun y10 κ11 => (y10 = 0 ∨ y10 = 1) ∧ Q (.inl (some (vI y10))) κ11)))) : K X d MX5_take 0 [(0, vR 77), (1, vI x1)] [] κ Q := by
  refine K_p (pc2 := 1) (lv2 := [(0, vR 77), (1, vI _)]) (st2 := [vR 77]) (fun ad S Q _ k => V_aload_n (pc2 := 1) (dk D_X5_take 0 rfl) rfl (V_lg 0 rfl) rfl k) ?_
  refine K_getF kc5 (h' := 72) (pc2 := 4) 0 (by decide) (dk D_X5_take 1 rfl) fl_5_9 (by decide) (fun _ _ => rfl) rfl (fixH 77 5 (by decide) rfl) (by decide) ?_
  refine K_getI kc9 (pc2 := 7) 7 (dk D_X5_take 2 rfl) fl_5_41 (by decide) (fun _ _ => rfl) rfl (fixH 72 9 (by decide) rfl) ?_
  refine K_p (pc2 := 8) (lv2 := [(0, vR 77), (1, vI _)]) (st2 := [vI _, vI _]) (fun ad S Q _ k => V_iload_n (pc2 := 8) (dk D_X5_take 3 rfl) rfl (V_lg 1 rfl) rfl k) ?_
  refine K_if (pa := 23) (pb := 11) (lv2 := [(0, vR 77), (1, vI _)]) (st2 := []) (fun ad S Q _ k1 k2 => V_cmpeq (tgt := 23) (pc2 := 11) (dk D_X5_take 4 rfl) (by decide) rfl (fun q => k1 q) (fun q => k2 q)) (fun q1 => ?_) (fun q1 => ?_)
  · have h := h.1 q1
    refine K_p (pc2 := 24) (lv2 := [(0, vR 77), (1, vI _)]) (st2 := [vR 77]) (fun ad S Q _ k => V_aload_n (pc2 := 24) (dk D_X5_take 11 rfl) rfl (V_lg 0 rfl) rfl k) ?_
    refine K_getF kc5 (h' := 72) (pc2 := 27) 0 (by decide) (dk D_X5_take 12 rfl) fl_5_9 (by decide) (fun _ _ => rfl) rfl (fixH 77 5 (by decide) rfl) (by decide) ?_
    obtain ⟨e2, he3, hc4⟩ := h
    refine K_call (as := [vR 72]) (st := []) (pc2 := 30) (okL.all _ ⟨(Or.inr ⟨Or.inl ⟨by decide, by decide⟩, by decide⟩), trivial, trivial⟩) (okS.all _ trivial) (fun ad S Q Qc hC hc k => V_callV (as := []) (st := []) (M' := MX9_next) (ci := 9) (pc2 := 30) (dk D_X5_take 13 rfl) ml_5_77 mv_X9_next rfl rfl (by decide) rfl (Nat.le_of_ble_eq_true rfl) rfl he3 (hC.k' (fixH 72 9 (by decide) rfl)) hc k) hc4 (kRV.k fun  κ5 h mo6 => ?_)
    refine K_p (pc2 := 31) (lv2 := [(0, vR 77), (1, vI _)]) (st2 := [vI _]) (fun ad S Q _ k => V_iconst (x := 1) (pc2 := 31) (dk D_X5_take 14 rfl) (by decide) rfl k) ?_
    exact K_ret (r := .inl (some (vI _))) (fun ad S Q _ k => V_zreturn (dk D_X5_take 15 rfl) rfl (Or.inr rfl) k) h
  · have h := h.2 q1
    refine K_p (pc2 := 12) (lv2 := [(0, vR 77), (1, vI _)]) (st2 := [vR 77]) (fun ad S Q _ k => V_aload_n (pc2 := 12) (dk D_X5_take 5 rfl) rfl (V_lg 0 rfl) rfl k) ?_
    refine K_p (pc2 := 13) (lv2 := [(0, vR 77), (1, vI _)]) (st2 := [vR 77, vR 77]) (fun ad S Q _ k => V_aload_n (pc2 := 13) (dk D_X5_take 6 rfl) rfl (V_lg 0 rfl) rfl k) ?_
    refine K_getF kc5 (h' := 72) (pc2 := 16) 0 (by decide) (dk D_X5_take 7 rfl) fl_5_9 (by decide) (fun _ _ => rfl) rfl (fixH 77 5 (by decide) rfl) (by decide) ?_
    refine K_getI kc9 (pc2 := 19) 8 (dk D_X5_take 8 rfl) fl_5_70 (by decide) (fun _ _ => rfl) rfl (fixH 72 9 (by decide) rfl) ?_
    obtain ⟨e7, he8, hc9⟩ := h
    refine K_call (as := [vR 77, vI _]) (st := []) (pc2 := 22) (okL.all _ ⟨(Or.inr ⟨Or.inl ⟨by decide, by decide⟩, by decide⟩), trivial, trivial⟩) (okS.all _ trivial) (fun ad S Q Qc hC hc k => V_callV (as := [_]) (st := []) (M' := MX5_refuse) (ci := 5) (pc2 := 22) (dk D_X5_take 9 rfl) ml_5_73 mv_X5_refuse rfl rfl (by decide) rfl (Nat.le_of_ble_eq_true rfl) rfl he8 (hC.k' (fixH 77 5 (by decide) rfl)) hc k) hc9 (kRI.k fun y10 κ11 h mo12 => ?_)
    obtain ⟨h13, h⟩ := h
    exact K_ret (r := .inl (some (vI _))) (fun ad S Q _ k => V_zreturn (dk D_X5_take 10 rfl) rfl h13 k) h
theorem k_5_takeOpening_0 {X : Cx} {d : Nat} {κ : Km} {Q : Res → Km → Prop} (x1 : Int32) (h : (((kI κ 72 7) = x1 → (((kI κ 77 4) < 24 → ∀ κ3 : Km, κ3 = cI κ 77 4 ((kI κ 77 4) + 1) → ∃ e4 : Nat, e4 + 1 ≤ d ∧ KC' X e4 MX9_next [vR 72] κ3 (kRV fun  κ7 => Q (.inl (some (vI 1))) κ7)) ∧ (¬ (kI κ 77 4) < 24 → K X d MX5_takeOpening 20 [(0, vR 77), (1, vI x1)] [] κ Q))) ∧ (¬ (kI κ 72 7) = x1 → K X d MX5_takeOpening 20 [(0, vR 77), (1, vI x1)] [] κ Q))) : K X d MX5_takeOpening 0 [(0, vR 77), (1, vI x1)] [] κ Q := by
  refine K_p (pc2 := 1) (lv2 := [(0, vR 77), (1, vI _)]) (st2 := [vR 77]) (fun ad S Q _ k => V_aload_n (pc2 := 1) (dk D_X5_takeOpening 0 rfl) rfl (V_lg 0 rfl) rfl k) ?_
  refine K_getF kc5 (h' := 72) (pc2 := 4) 0 (by decide) (dk D_X5_takeOpening 1 rfl) fl_5_9 (by decide) (fun _ _ => rfl) rfl (fixH 77 5 (by decide) rfl) (by decide) ?_
  refine K_getI kc9 (pc2 := 7) 7 (dk D_X5_takeOpening 2 rfl) fl_5_41 (by decide) (fun _ _ => rfl) rfl (fixH 72 9 (by decide) rfl) ?_
  refine K_p (pc2 := 8) (lv2 := [(0, vR 77), (1, vI _)]) (st2 := [vI _, vI _]) (fun ad S Q _ k => V_iload_n (pc2 := 8) (dk D_X5_takeOpening 3 rfl) rfl (V_lg 1 rfl) rfl k) ?_
  refine K_if (pa := 11) (pb := 20) (lv2 := [(0, vR 77), (1, vI _)]) (st2 := []) (fun ad S Q _ k1 k2 => V_cmpne (tgt := 20) (pc2 := 11) (dk D_X5_takeOpening 4 rfl) (by decide) rfl (fun q => k2 q) (fun q => k1 q)) (fun q1 => ?_) (fun q1 => ?_)
  · have h := h.1 q1
    refine K_p (pc2 := 12) (lv2 := [(0, vR 77), (1, vI _)]) (st2 := [vR 77]) (fun ad S Q _ k => V_aload_n (pc2 := 12) (dk D_X5_takeOpening 5 rfl) rfl (V_lg 0 rfl) rfl k) ?_
    refine K_getI kc5 (pc2 := 15) 4 (dk D_X5_takeOpening 6 rfl) fl_5_34 (by decide) (fun _ _ => rfl) rfl (fixH 77 5 (by decide) rfl) ?_
    refine K_p (pc2 := 17) (lv2 := [(0, vR 77), (1, vI _)]) (st2 := [vI _, vI _]) (fun ad S Q _ k => V_bipush (x := 24) (pc2 := 17) (dk D_X5_takeOpening 7 rfl) (by decide) rfl k) ?_
    refine K_if (pa := 32) (pb := 20) (lv2 := [(0, vR 77), (1, vI _)]) (st2 := []) (fun ad S Q _ k1 k2 => V_cmplt (tgt := 32) (pc2 := 20) (dk D_X5_takeOpening 8 rfl) (by decide) rfl (fun q => k1 q) (fun q => k2 q)) (fun q2 => ?_) (fun q2 => ?_)
    · have h := h.1 q2
      refine K_p (pc2 := 33) (lv2 := [(0, vR 77), (1, vI _)]) (st2 := [vR 77]) (fun ad S Q _ k => V_aload_n (pc2 := 33) (dk D_X5_takeOpening 15 rfl) rfl (V_lg 0 rfl) rfl k) ?_
      refine K_p (pc2 := 34) (lv2 := [(0, vR 77), (1, vI _)]) (st2 := [vR 77, vR 77]) (fun ad S Q _ k => V_dup (pc2 := 34) (dk D_X5_takeOpening 16 rfl) rfl rfl k) ?_
      refine K_getI kc5 (pc2 := 37) 4 (dk D_X5_takeOpening 17 rfl) fl_5_34 (by decide) (fun _ _ => rfl) rfl (fixH 77 5 (by decide) rfl) ?_
      refine K_p (pc2 := 38) (lv2 := [(0, vR 77), (1, vI _)]) (st2 := [vI _, vI _, vR 77]) (fun ad S Q _ k => V_iconst (x := 1) (pc2 := 38) (dk D_X5_takeOpening 18 rfl) (by decide) rfl k) ?_
      refine K_p (pc2 := 39) (lv2 := [(0, vR 77), (1, vI _)]) (st2 := [vI _, vR 77]) (fun ad S Q _ k => V_iadd (pc2 := 39) (dk D_X5_takeOpening 19 rfl) rfl k) ?_
      refine K_putI kc5 (pc2 := 42) 4 (dk D_X5_takeOpening 20 rfl) fl_5_34 (by decide) (Or.inl rfl) rfl rfl (fixH 77 5 (by decide) rfl) (by decide) ?_
      have h := h _ rfl
      refine K_p (pc2 := 43) (lv2 := [(0, vR 77), (1, vI _)]) (st2 := [vR 77]) (fun ad S Q _ k => V_aload_n (pc2 := 43) (dk D_X5_takeOpening 21 rfl) rfl (V_lg 0 rfl) rfl k) ?_
      refine K_getF kc5 (h' := 72) (pc2 := 46) 0 (by decide) (dk D_X5_takeOpening 22 rfl) fl_5_9 (by decide) (fun _ _ => rfl) rfl (fixH 77 5 (by decide) rfl) (by decide) ?_
      obtain ⟨e4, he5, hc6⟩ := h
      refine K_call (as := [vR 72]) (st := []) (pc2 := 49) (okL.all _ ⟨(Or.inr ⟨Or.inl ⟨by decide, by decide⟩, by decide⟩), trivial, trivial⟩) (okS.all _ trivial) (fun ad S Q Qc hC hc k => V_callV (as := []) (st := []) (M' := MX9_next) (ci := 9) (pc2 := 49) (dk D_X5_takeOpening 23 rfl) ml_5_77 mv_X9_next rfl rfl (by decide) rfl (Nat.le_of_ble_eq_true rfl) rfl he5 (hC.k' (fixH 72 9 (by decide) rfl)) hc k) hc6 (kRV.k fun  κ7 h mo8 => ?_)
      refine K_p (pc2 := 50) (lv2 := [(0, vR 77), (1, vI _)]) (st2 := [vI _]) (fun ad S Q _ k => V_iconst (x := 1) (pc2 := 50) (dk D_X5_takeOpening 24 rfl) (by decide) rfl k) ?_
      exact K_ret (r := .inl (some (vI _))) (fun ad S Q _ k => V_zreturn (dk D_X5_takeOpening 25 rfl) rfl (Or.inr rfl) k) h
    · have h := h.2 q2
      exact h
  · have h := h.2 q1
    exact h
theorem k_5_takeOpening_20 {X : Cx} {d : Nat} {κ : Km} {Q : Res → Km → Prop} (x1 : Int32) (h : ∃ e1 : Nat, e1 + 1 ≤ d ∧ KC' X e1 MX5_refuse [vR 77, vI (kI κ 72 8)] κ (kRI fun y4 κ5 => (y4 = 0 ∨ y4 = 1) ∧ Q (.inl (some (vI y4))) κ5)) : K X d MX5_takeOpening 20 [(0, vR 77), (1, vI x1)] [] κ Q := by
  refine K_p (pc2 := 21) (lv2 := [(0, vR 77), (1, vI _)]) (st2 := [vR 77]) (fun ad S Q _ k => V_aload_n (pc2 := 21) (dk D_X5_takeOpening 9 rfl) rfl (V_lg 0 rfl) rfl k) ?_
  refine K_p (pc2 := 22) (lv2 := [(0, vR 77), (1, vI _)]) (st2 := [vR 77, vR 77]) (fun ad S Q _ k => V_aload_n (pc2 := 22) (dk D_X5_takeOpening 10 rfl) rfl (V_lg 0 rfl) rfl k) ?_
  refine K_getF kc5 (h' := 72) (pc2 := 25) 0 (by decide) (dk D_X5_takeOpening 11 rfl) fl_5_9 (by decide) (fun _ _ => rfl) rfl (fixH 77 5 (by decide) rfl) (by decide) ?_
  refine K_getI kc9 (pc2 := 28) 8 (dk D_X5_takeOpening 12 rfl) fl_5_70 (by decide) (fun _ _ => rfl) rfl (fixH 72 9 (by decide) rfl) ?_
  obtain ⟨e1, he2, hc3⟩ := h
  refine K_call (as := [vR 77, vI _]) (st := []) (pc2 := 31) (okL.all _ ⟨(Or.inr ⟨Or.inl ⟨by decide, by decide⟩, by decide⟩), trivial, trivial⟩) (okS.all _ trivial) (fun ad S Q Qc hC hc k => V_callV (as := [_]) (st := []) (M' := MX5_refuse) (ci := 5) (pc2 := 31) (dk D_X5_takeOpening 13 rfl) ml_5_73 mv_X5_refuse rfl rfl (by decide) rfl (Nat.le_of_ble_eq_true rfl) rfl he2 (hC.k' (fixH 77 5 (by decide) rfl)) hc k) hc3 (kRI.k fun y4 κ5 h mo6 => ?_)
  obtain ⟨h7, h⟩ := h
  exact K_ret (r := .inl (some (vI _))) (fun ad S Q _ k => V_zreturn (dk D_X5_takeOpening 14 rfl) rfl h7 k) h
theorem k_5_takeClosing_0 {X : Cx} {d : Nat} {κ : Km} {Q : Res → Km → Prop} (x1 : Int32) (h : (((kI κ 72 7) = x1 → ∀ κ2 : Km, κ2 = cI κ 77 4 ((kI κ 77 4) - 1) → ∃ e3 : Nat, e3 + 1 ≤ d ∧ KC' X e3 MX9_next [vR 72] κ2 (kRV fun  κ6 => Q (.inl (some (vI 1))) κ6)) ∧ (¬ (kI κ 72 7) = x1 → ∃ e8 : Nat, e8 + 1 ≤ d ∧ KC' X e8 MX5_refuse [vR 77, vI (kI κ 72 8)] κ (kRI fun y11 κ12 => (y11 = 0 ∨ y11 = 1) ∧ Q (.inl (some (vI y11))) κ12)))) : K X d MX5_takeClosing 0 [(0, vR 77), (1, vI x1)] [] κ Q := by
  refine K_p (pc2 := 1) (lv2 := [(0, vR 77), (1, vI _)]) (st2 := [vR 77]) (fun ad S Q _ k => V_aload_n (pc2 := 1) (dk D_X5_takeClosing 0 rfl) rfl (V_lg 0 rfl) rfl k) ?_
  refine K_getF kc5 (h' := 72) (pc2 := 4) 0 (by decide) (dk D_X5_takeClosing 1 rfl) fl_5_9 (by decide) (fun _ _ => rfl) rfl (fixH 77 5 (by decide) rfl) (by decide) ?_
  refine K_getI kc9 (pc2 := 7) 7 (dk D_X5_takeClosing 2 rfl) fl_5_41 (by decide) (fun _ _ => rfl) rfl (fixH 72 9 (by decide) rfl) ?_
  refine K_p (pc2 := 8) (lv2 := [(0, vR 77), (1, vI _)]) (st2 := [vI _, vI _]) (fun ad S Q _ k => V_iload_n (pc2 := 8) (dk D_X5_takeClosing 3 rfl) rfl (V_lg 1 rfl) rfl k) ?_
  refine K_if (pa := 23) (pb := 11) (lv2 := [(0, vR 77), (1, vI _)]) (st2 := []) (fun ad S Q _ k1 k2 => V_cmpeq (tgt := 23) (pc2 := 11) (dk D_X5_takeClosing 4 rfl) (by decide) rfl (fun q => k1 q) (fun q => k2 q)) (fun q1 => ?_) (fun q1 => ?_)
  · have h := h.1 q1
    refine K_p (pc2 := 24) (lv2 := [(0, vR 77), (1, vI _)]) (st2 := [vR 77]) (fun ad S Q _ k => V_aload_n (pc2 := 24) (dk D_X5_takeClosing 11 rfl) rfl (V_lg 0 rfl) rfl k) ?_
    refine K_p (pc2 := 25) (lv2 := [(0, vR 77), (1, vI _)]) (st2 := [vR 77, vR 77]) (fun ad S Q _ k => V_dup (pc2 := 25) (dk D_X5_takeClosing 12 rfl) rfl rfl k) ?_
    refine K_getI kc5 (pc2 := 28) 4 (dk D_X5_takeClosing 13 rfl) fl_5_34 (by decide) (fun _ _ => rfl) rfl (fixH 77 5 (by decide) rfl) ?_
    refine K_p (pc2 := 29) (lv2 := [(0, vR 77), (1, vI _)]) (st2 := [vI _, vI _, vR 77]) (fun ad S Q _ k => V_iconst (x := 1) (pc2 := 29) (dk D_X5_takeClosing 14 rfl) (by decide) rfl k) ?_
    refine K_p (pc2 := 30) (lv2 := [(0, vR 77), (1, vI _)]) (st2 := [vI _, vR 77]) (fun ad S Q _ k => V_isub (pc2 := 30) (dk D_X5_takeClosing 15 rfl) rfl k) ?_
    refine K_putI kc5 (pc2 := 33) 4 (dk D_X5_takeClosing 16 rfl) fl_5_34 (by decide) (Or.inl rfl) rfl rfl (fixH 77 5 (by decide) rfl) (by decide) ?_
    have h := h _ rfl
    refine K_p (pc2 := 34) (lv2 := [(0, vR 77), (1, vI _)]) (st2 := [vR 77]) (fun ad S Q _ k => V_aload_n (pc2 := 34) (dk D_X5_takeClosing 17 rfl) rfl (V_lg 0 rfl) rfl k) ?_
    refine K_getF kc5 (h' := 72) (pc2 := 37) 0 (by decide) (dk D_X5_takeClosing 18 rfl) fl_5_9 (by decide) (fun _ _ => rfl) rfl (fixH 77 5 (by decide) rfl) (by decide) ?_
    obtain ⟨e3, he4, hc5⟩ := h
    refine K_call (as := [vR 72]) (st := []) (pc2 := 40) (okL.all _ ⟨(Or.inr ⟨Or.inl ⟨by decide, by decide⟩, by decide⟩), trivial, trivial⟩) (okS.all _ trivial) (fun ad S Q Qc hC hc k => V_callV (as := []) (st := []) (M' := MX9_next) (ci := 9) (pc2 := 40) (dk D_X5_takeClosing 19 rfl) ml_5_77 mv_X9_next rfl rfl (by decide) rfl (Nat.le_of_ble_eq_true rfl) rfl he4 (hC.k' (fixH 72 9 (by decide) rfl)) hc k) hc5 (kRV.k fun  κ6 h mo7 => ?_)
    refine K_p (pc2 := 41) (lv2 := [(0, vR 77), (1, vI _)]) (st2 := [vI _]) (fun ad S Q _ k => V_iconst (x := 1) (pc2 := 41) (dk D_X5_takeClosing 20 rfl) (by decide) rfl k) ?_
    exact K_ret (r := .inl (some (vI _))) (fun ad S Q _ k => V_zreturn (dk D_X5_takeClosing 21 rfl) rfl (Or.inr rfl) k) h
  · have h := h.2 q1
    refine K_p (pc2 := 12) (lv2 := [(0, vR 77), (1, vI _)]) (st2 := [vR 77]) (fun ad S Q _ k => V_aload_n (pc2 := 12) (dk D_X5_takeClosing 5 rfl) rfl (V_lg 0 rfl) rfl k) ?_
    refine K_p (pc2 := 13) (lv2 := [(0, vR 77), (1, vI _)]) (st2 := [vR 77, vR 77]) (fun ad S Q _ k => V_aload_n (pc2 := 13) (dk D_X5_takeClosing 6 rfl) rfl (V_lg 0 rfl) rfl k) ?_
    refine K_getF kc5 (h' := 72) (pc2 := 16) 0 (by decide) (dk D_X5_takeClosing 7 rfl) fl_5_9 (by decide) (fun _ _ => rfl) rfl (fixH 77 5 (by decide) rfl) (by decide) ?_
    refine K_getI kc9 (pc2 := 19) 8 (dk D_X5_takeClosing 8 rfl) fl_5_70 (by decide) (fun _ _ => rfl) rfl (fixH 72 9 (by decide) rfl) ?_
    obtain ⟨e8, he9, hc10⟩ := h
    refine K_call (as := [vR 77, vI _]) (st := []) (pc2 := 22) (okL.all _ ⟨(Or.inr ⟨Or.inl ⟨by decide, by decide⟩, by decide⟩), trivial, trivial⟩) (okS.all _ trivial) (fun ad S Q Qc hC hc k => V_callV (as := [_]) (st := []) (M' := MX5_refuse) (ci := 5) (pc2 := 22) (dk D_X5_takeClosing 9 rfl) ml_5_73 mv_X5_refuse rfl rfl (by decide) rfl (Nat.le_of_ble_eq_true rfl) rfl he9 (hC.k' (fixH 77 5 (by decide) rfl)) hc k) hc10 (kRI.k fun y11 κ12 h mo13 => ?_)
    obtain ⟨h14, h⟩ := h
    exact K_ret (r := .inl (some (vI _))) (fun ad S Q _ k => V_zreturn (dk D_X5_takeClosing 10 rfl) rfl h14 k) h
theorem k_5_isName_0 {X : Cx} {d : Nat} {κ : Km} {Q : Res → Km → Prop}  (h : (((kI κ 72 7) = 5 → ∃ e2 : Nat, e2 + 1 ≤ d ∧ KC' X e2 MX5_refuse [vR 77, vI ((kI κ 72 8) + 8)] κ (kRI fun y5 κ6 => (y5 = 0 ∨ y5 = 1) ∧ Q (.inl (some (vI y5))) κ6)) ∧ (¬ (kI κ 72 7) = 5 → (((kI κ 72 7) = 2 → K X d MX5_isName 51 [(0, vR 77)] [] κ Q) ∧ (¬ (kI κ 72 7) = 2 → ∃ e10 : Nat, e10 + 1 ≤ d ∧ KC' X e10 MX5_refuse [vR 77, vI (kI κ 72 8)] κ (kRI fun y13 κ14 => ((y13 = 0 → K X d MX5_isName 56 [(0, vR 77)] [vI 0] κ14 Q) ∧ (¬ y13 = 0 → K X d MX5_isName 51 [(0, vR 77)] [] κ14 Q)))))))) : K X d MX5_isName 0 [(0, vR 77)] [] κ Q := by
  refine K_p (pc2 := 1) (lv2 := [(0, vR 77)]) (st2 := [vR 77]) (fun ad S Q _ k => V_aload_n (pc2 := 1) (dk D_X5_isName 0 rfl) rfl (V_lg 0 rfl) rfl k) ?_
  refine K_getF kc5 (h' := 72) (pc2 := 4) 0 (by decide) (dk D_X5_isName 1 rfl) fl_5_9 (by decide) (fun _ _ => rfl) rfl (fixH 77 5 (by decide) rfl) (by decide) ?_
  refine K_getI kc9 (pc2 := 7) 7 (dk D_X5_isName 2 rfl) fl_5_41 (by decide) (fun _ _ => rfl) rfl (fixH 72 9 (by decide) rfl) ?_
  refine K_p (pc2 := 8) (lv2 := [(0, vR 77)]) (st2 := [vI _, vI _]) (fun ad S Q _ k => V_iconst (x := 5) (pc2 := 8) (dk D_X5_isName 3 rfl) (by decide) rfl k) ?_
  refine K_if (pa := 11) (pb := 26) (lv2 := [(0, vR 77)]) (st2 := []) (fun ad S Q _ k1 k2 => V_cmpne (tgt := 26) (pc2 := 11) (dk D_X5_isName 4 rfl) (by decide) rfl (fun q => k2 q) (fun q => k1 q)) (fun q1 => ?_) (fun q1 => ?_)
  · have h := h.1 q1
    refine K_p (pc2 := 12) (lv2 := [(0, vR 77)]) (st2 := [vR 77]) (fun ad S Q _ k => V_aload_n (pc2 := 12) (dk D_X5_isName 5 rfl) rfl (V_lg 0 rfl) rfl k) ?_
    refine K_p (pc2 := 13) (lv2 := [(0, vR 77)]) (st2 := [vR 77, vR 77]) (fun ad S Q _ k => V_aload_n (pc2 := 13) (dk D_X5_isName 6 rfl) rfl (V_lg 0 rfl) rfl k) ?_
    refine K_getF kc5 (h' := 72) (pc2 := 16) 0 (by decide) (dk D_X5_isName 7 rfl) fl_5_9 (by decide) (fun _ _ => rfl) rfl (fixH 77 5 (by decide) rfl) (by decide) ?_
    refine K_getI kc9 (pc2 := 19) 8 (dk D_X5_isName 8 rfl) fl_5_70 (by decide) (fun _ _ => rfl) rfl (fixH 72 9 (by decide) rfl) ?_
    refine K_p (pc2 := 21) (lv2 := [(0, vR 77)]) (st2 := [vI _, vI _, vR 77]) (fun ad S Q _ k => V_bipush (x := 8) (pc2 := 21) (dk D_X5_isName 9 rfl) (by decide) rfl k) ?_
    refine K_p (pc2 := 22) (lv2 := [(0, vR 77)]) (st2 := [vI _, vR 77]) (fun ad S Q _ k => V_iadd (pc2 := 22) (dk D_X5_isName 10 rfl) rfl k) ?_
    obtain ⟨e2, he3, hc4⟩ := h
    refine K_call (as := [vR 77, vI _]) (st := []) (pc2 := 25) (okL.all _ ⟨(Or.inr ⟨Or.inl ⟨by decide, by decide⟩, by decide⟩), trivial⟩) (okS.all _ trivial) (fun ad S Q Qc hC hc k => V_callV (as := [_]) (st := []) (M' := MX5_refuse) (ci := 5) (pc2 := 25) (dk D_X5_isName 11 rfl) ml_5_73 mv_X5_refuse rfl rfl (by decide) rfl (Nat.le_of_ble_eq_true rfl) rfl he3 (hC.k' (fixH 77 5 (by decide) rfl)) hc k) hc4 (kRI.k fun y5 κ6 h mo7 => ?_)
    obtain ⟨h8, h⟩ := h
    exact K_ret (r := .inl (some (vI _))) (fun ad S Q _ k => V_zreturn (dk D_X5_isName 12 rfl) rfl h8 k) h
  · have h := h.2 q1
    refine K_p (pc2 := 27) (lv2 := [(0, vR 77)]) (st2 := [vR 77]) (fun ad S Q _ k => V_aload_n (pc2 := 27) (dk D_X5_isName 13 rfl) rfl (V_lg 0 rfl) rfl k) ?_
    refine K_getF kc5 (h' := 72) (pc2 := 30) 0 (by decide) (dk D_X5_isName 14 rfl) fl_5_9 (by decide) (fun _ _ => rfl) rfl (fixH 77 5 (by decide) rfl) (by decide) ?_
    refine K_getI kc9 (pc2 := 33) 7 (dk D_X5_isName 15 rfl) fl_5_41 (by decide) (fun _ _ => rfl) rfl (fixH 72 9 (by decide) rfl) ?_
    refine K_p (pc2 := 34) (lv2 := [(0, vR 77)]) (st2 := [vI _, vI _]) (fun ad S Q _ k => V_iconst (x := 2) (pc2 := 34) (dk D_X5_isName 16 rfl) (by decide) rfl k) ?_
    refine K_if (pa := 51) (pb := 37) (lv2 := [(0, vR 77)]) (st2 := []) (fun ad S Q _ k1 k2 => V_cmpeq (tgt := 51) (pc2 := 37) (dk D_X5_isName 17 rfl) (by decide) rfl (fun q => k1 q) (fun q => k2 q)) (fun q9 => ?_) (fun q9 => ?_)
    · have h := h.1 q9
      exact h
    · have h := h.2 q9
      refine K_p (pc2 := 38) (lv2 := [(0, vR 77)]) (st2 := [vR 77]) (fun ad S Q _ k => V_aload_n (pc2 := 38) (dk D_X5_isName 18 rfl) rfl (V_lg 0 rfl) rfl k) ?_
      refine K_p (pc2 := 39) (lv2 := [(0, vR 77)]) (st2 := [vR 77, vR 77]) (fun ad S Q _ k => V_aload_n (pc2 := 39) (dk D_X5_isName 19 rfl) rfl (V_lg 0 rfl) rfl k) ?_
      refine K_getF kc5 (h' := 72) (pc2 := 42) 0 (by decide) (dk D_X5_isName 20 rfl) fl_5_9 (by decide) (fun _ _ => rfl) rfl (fixH 77 5 (by decide) rfl) (by decide) ?_
      refine K_getI kc9 (pc2 := 45) 8 (dk D_X5_isName 21 rfl) fl_5_70 (by decide) (fun _ _ => rfl) rfl (fixH 72 9 (by decide) rfl) ?_
      obtain ⟨e10, he11, hc12⟩ := h
      refine K_call (as := [vR 77, vI _]) (st := []) (pc2 := 48) (okL.all _ ⟨(Or.inr ⟨Or.inl ⟨by decide, by decide⟩, by decide⟩), trivial⟩) (okS.all _ trivial) (fun ad S Q Qc hC hc k => V_callV (as := [_]) (st := []) (M' := MX5_refuse) (ci := 5) (pc2 := 48) (dk D_X5_isName 22 rfl) ml_5_73 mv_X5_refuse rfl rfl (by decide) rfl (Nat.le_of_ble_eq_true rfl) rfl he11 (hC.k' (fixH 77 5 (by decide) rfl)) hc k) hc12 (kRI.k fun y13 κ14 h mo15 => ?_)
      refine K_if (pa := 55) (pb := 51) (lv2 := [(0, vR 77)]) (st2 := []) (fun ad S Q _ k1 k2 => V_ifeq (tgt := 55) (pc2 := 51) (dk D_X5_isName 23 rfl) (by decide) rfl (fun q => k1 q) (fun q => k2 q)) (fun q16 => ?_) (fun q16 => ?_)
      · have h := h.1 q16
        refine K_p (pc2 := 56) (lv2 := [(0, vR 77)]) (st2 := [vI _]) (fun ad S Q _ k => V_iconst (x := 0) (pc2 := 56) (dk D_X5_isName 26 rfl) (by decide) rfl k) ?_
        exact h
      · have h := h.2 q16
        exact h
theorem k_5_isName_51 {X : Cx} {d : Nat} {κ : Km} {Q : Res → Km → Prop}  (h : K X d MX5_isName 56 [(0, vR 77)] [vI 1] κ Q) : K X d MX5_isName 51 [(0, vR 77)] [] κ Q := by
  refine K_p (pc2 := 52) (lv2 := [(0, vR 77)]) (st2 := [vI _]) (fun ad S Q _ k => V_iconst (x := 1) (pc2 := 52) (dk D_X5_isName 24 rfl) (by decide) rfl k) ?_
  refine K_p (pc2 := 56) (lv2 := [(0, vR 77)]) (st2 := [vI _]) (fun ad S Q _ k => V_goto (tgt := 56) (dk D_X5_isName 25 rfl) (by decide) k) ?_
  exact h
theorem k_5_isName_56 {X : Cx} {d : Nat} {κ : Km} {Q : Res → Km → Prop} (t0 : Int32) (h : (t0 = 0 ∨ t0 = 1) ∧ Q (.inl (some (vI t0))) κ) : K X d MX5_isName 56 [(0, vR 77)] [vI t0] κ Q := by
  obtain ⟨h1, h⟩ := h
  exact K_ret (r := .inl (some (vI _))) (fun ad S Q _ k => V_zreturn (dk D_X5_isName 27 rfl) rfl h1 k) h
theorem k_5_isNumber_0 {X : Cx} {d : Nat} {κ : Km} {Q : Res → Km → Prop}  (h : (((kI κ 72 7) = 6 → ∃ e2 : Nat, e2 + 1 ≤ d ∧ KC' X e2 MX5_refuse [vR 77, vI ((kI κ 72 8) + 9)] κ (kRI fun y5 κ6 => (y5 = 0 ∨ y5 = 1) ∧ Q (.inl (some (vI y5))) κ6)) ∧ (¬ (kI κ 72 7) = 6 → (((kI κ 72 7) = 3 → K X d MX5_isNumber 52 [(0, vR 77)] [] κ Q) ∧ (¬ (kI κ 72 7) = 3 → ∃ e10 : Nat, e10 + 1 ≤ d ∧ KC' X e10 MX5_refuse [vR 77, vI (kI κ 72 8)] κ (kRI fun y13 κ14 => ((y13 = 0 → K X d MX5_isNumber 57 [(0, vR 77)] [vI 0] κ14 Q) ∧ (¬ y13 = 0 → K X d MX5_isNumber 52 [(0, vR 77)] [] κ14 Q)))))))) : K X d MX5_isNumber 0 [(0, vR 77)] [] κ Q := by
  refine K_p (pc2 := 1) (lv2 := [(0, vR 77)]) (st2 := [vR 77]) (fun ad S Q _ k => V_aload_n (pc2 := 1) (dk D_X5_isNumber 0 rfl) rfl (V_lg 0 rfl) rfl k) ?_
  refine K_getF kc5 (h' := 72) (pc2 := 4) 0 (by decide) (dk D_X5_isNumber 1 rfl) fl_5_9 (by decide) (fun _ _ => rfl) rfl (fixH 77 5 (by decide) rfl) (by decide) ?_
  refine K_getI kc9 (pc2 := 7) 7 (dk D_X5_isNumber 2 rfl) fl_5_41 (by decide) (fun _ _ => rfl) rfl (fixH 72 9 (by decide) rfl) ?_
  refine K_p (pc2 := 9) (lv2 := [(0, vR 77)]) (st2 := [vI _, vI _]) (fun ad S Q _ k => V_bipush (x := 6) (pc2 := 9) (dk D_X5_isNumber 3 rfl) (by decide) rfl k) ?_
  refine K_if (pa := 12) (pb := 27) (lv2 := [(0, vR 77)]) (st2 := []) (fun ad S Q _ k1 k2 => V_cmpne (tgt := 27) (pc2 := 12) (dk D_X5_isNumber 4 rfl) (by decide) rfl (fun q => k2 q) (fun q => k1 q)) (fun q1 => ?_) (fun q1 => ?_)
  · have h := h.1 q1
    refine K_p (pc2 := 13) (lv2 := [(0, vR 77)]) (st2 := [vR 77]) (fun ad S Q _ k => V_aload_n (pc2 := 13) (dk D_X5_isNumber 5 rfl) rfl (V_lg 0 rfl) rfl k) ?_
    refine K_p (pc2 := 14) (lv2 := [(0, vR 77)]) (st2 := [vR 77, vR 77]) (fun ad S Q _ k => V_aload_n (pc2 := 14) (dk D_X5_isNumber 6 rfl) rfl (V_lg 0 rfl) rfl k) ?_
    refine K_getF kc5 (h' := 72) (pc2 := 17) 0 (by decide) (dk D_X5_isNumber 7 rfl) fl_5_9 (by decide) (fun _ _ => rfl) rfl (fixH 77 5 (by decide) rfl) (by decide) ?_
    refine K_getI kc9 (pc2 := 20) 8 (dk D_X5_isNumber 8 rfl) fl_5_70 (by decide) (fun _ _ => rfl) rfl (fixH 72 9 (by decide) rfl) ?_
    refine K_p (pc2 := 22) (lv2 := [(0, vR 77)]) (st2 := [vI _, vI _, vR 77]) (fun ad S Q _ k => V_bipush (x := 9) (pc2 := 22) (dk D_X5_isNumber 9 rfl) (by decide) rfl k) ?_
    refine K_p (pc2 := 23) (lv2 := [(0, vR 77)]) (st2 := [vI _, vR 77]) (fun ad S Q _ k => V_iadd (pc2 := 23) (dk D_X5_isNumber 10 rfl) rfl k) ?_
    obtain ⟨e2, he3, hc4⟩ := h
    refine K_call (as := [vR 77, vI _]) (st := []) (pc2 := 26) (okL.all _ ⟨(Or.inr ⟨Or.inl ⟨by decide, by decide⟩, by decide⟩), trivial⟩) (okS.all _ trivial) (fun ad S Q Qc hC hc k => V_callV (as := [_]) (st := []) (M' := MX5_refuse) (ci := 5) (pc2 := 26) (dk D_X5_isNumber 11 rfl) ml_5_73 mv_X5_refuse rfl rfl (by decide) rfl (Nat.le_of_ble_eq_true rfl) rfl he3 (hC.k' (fixH 77 5 (by decide) rfl)) hc k) hc4 (kRI.k fun y5 κ6 h mo7 => ?_)
    obtain ⟨h8, h⟩ := h
    exact K_ret (r := .inl (some (vI _))) (fun ad S Q _ k => V_zreturn (dk D_X5_isNumber 12 rfl) rfl h8 k) h
  · have h := h.2 q1
    refine K_p (pc2 := 28) (lv2 := [(0, vR 77)]) (st2 := [vR 77]) (fun ad S Q _ k => V_aload_n (pc2 := 28) (dk D_X5_isNumber 13 rfl) rfl (V_lg 0 rfl) rfl k) ?_
    refine K_getF kc5 (h' := 72) (pc2 := 31) 0 (by decide) (dk D_X5_isNumber 14 rfl) fl_5_9 (by decide) (fun _ _ => rfl) rfl (fixH 77 5 (by decide) rfl) (by decide) ?_
    refine K_getI kc9 (pc2 := 34) 7 (dk D_X5_isNumber 15 rfl) fl_5_41 (by decide) (fun _ _ => rfl) rfl (fixH 72 9 (by decide) rfl) ?_
    refine K_p (pc2 := 35) (lv2 := [(0, vR 77)]) (st2 := [vI _, vI _]) (fun ad S Q _ k => V_iconst (x := 3) (pc2 := 35) (dk D_X5_isNumber 16 rfl) (by decide) rfl k) ?_
    refine K_if (pa := 52) (pb := 38) (lv2 := [(0, vR 77)]) (st2 := []) (fun ad S Q _ k1 k2 => V_cmpeq (tgt := 52) (pc2 := 38) (dk D_X5_isNumber 17 rfl) (by decide) rfl (fun q => k1 q) (fun q => k2 q)) (fun q9 => ?_) (fun q9 => ?_)
    · have h := h.1 q9
      exact h
    · have h := h.2 q9
      refine K_p (pc2 := 39) (lv2 := [(0, vR 77)]) (st2 := [vR 77]) (fun ad S Q _ k => V_aload_n (pc2 := 39) (dk D_X5_isNumber 18 rfl) rfl (V_lg 0 rfl) rfl k) ?_
      refine K_p (pc2 := 40) (lv2 := [(0, vR 77)]) (st2 := [vR 77, vR 77]) (fun ad S Q _ k => V_aload_n (pc2 := 40) (dk D_X5_isNumber 19 rfl) rfl (V_lg 0 rfl) rfl k) ?_
      refine K_getF kc5 (h' := 72) (pc2 := 43) 0 (by decide) (dk D_X5_isNumber 20 rfl) fl_5_9 (by decide) (fun _ _ => rfl) rfl (fixH 77 5 (by decide) rfl) (by decide) ?_
      refine K_getI kc9 (pc2 := 46) 8 (dk D_X5_isNumber 21 rfl) fl_5_70 (by decide) (fun _ _ => rfl) rfl (fixH 72 9 (by decide) rfl) ?_
      obtain ⟨e10, he11, hc12⟩ := h
      refine K_call (as := [vR 77, vI _]) (st := []) (pc2 := 49) (okL.all _ ⟨(Or.inr ⟨Or.inl ⟨by decide, by decide⟩, by decide⟩), trivial⟩) (okS.all _ trivial) (fun ad S Q Qc hC hc k => V_callV (as := [_]) (st := []) (M' := MX5_refuse) (ci := 5) (pc2 := 49) (dk D_X5_isNumber 22 rfl) ml_5_73 mv_X5_refuse rfl rfl (by decide) rfl (Nat.le_of_ble_eq_true rfl) rfl he11 (hC.k' (fixH 77 5 (by decide) rfl)) hc k) hc12 (kRI.k fun y13 κ14 h mo15 => ?_)
      refine K_if (pa := 56) (pb := 52) (lv2 := [(0, vR 77)]) (st2 := []) (fun ad S Q _ k1 k2 => V_ifeq (tgt := 56) (pc2 := 52) (dk D_X5_isNumber 23 rfl) (by decide) rfl (fun q => k1 q) (fun q => k2 q)) (fun q16 => ?_) (fun q16 => ?_)
      · have h := h.1 q16
        refine K_p (pc2 := 57) (lv2 := [(0, vR 77)]) (st2 := [vI _]) (fun ad S Q _ k => V_iconst (x := 0) (pc2 := 57) (dk D_X5_isNumber 26 rfl) (by decide) rfl k) ?_
        exact h
      · have h := h.2 q16
        exact h
theorem k_5_isNumber_52 {X : Cx} {d : Nat} {κ : Km} {Q : Res → Km → Prop}  (h : K X d MX5_isNumber 57 [(0, vR 77)] [vI 1] κ Q) : K X d MX5_isNumber 52 [(0, vR 77)] [] κ Q := by
  refine K_p (pc2 := 53) (lv2 := [(0, vR 77)]) (st2 := [vI _]) (fun ad S Q _ k => V_iconst (x := 1) (pc2 := 53) (dk D_X5_isNumber 24 rfl) (by decide) rfl k) ?_
  refine K_p (pc2 := 57) (lv2 := [(0, vR 77)]) (st2 := [vI _]) (fun ad S Q _ k => V_goto (tgt := 57) (dk D_X5_isNumber 25 rfl) (by decide) k) ?_
  exact h
theorem k_5_isNumber_57 {X : Cx} {d : Nat} {κ : Km} {Q : Res → Km → Prop} (t0 : Int32) (h : (t0 = 0 ∨ t0 = 1) ∧ Q (.inl (some (vI t0))) κ) : K X d MX5_isNumber 57 [(0, vR 77)] [vI t0] κ Q := by
  obtain ⟨h1, h⟩ := h
  exact K_ret (r := .inl (some (vI _))) (fun ad S Q _ k => V_zreturn (dk D_X5_isNumber 27 rfl) rfl h1 k) h
theorem k_5_numberHere_0 {X : Cx} {d : Nat} {κ : Km} {Q : Res → Km → Prop}  (h : ∃ e1 : Nat, e1 + 1 ≤ d ∧ KC' X e1 MX9_index [vR 72] κ (kRI fun y4 κ5 => ∃ e7 : Nat, e7 + 1 ≤ d ∧ KC' X e7 MX9_valueOf [vR 72, vI y4] κ5 (kRJ fun w10 κ11 => Q (.inl (some (vI ((w10 : Int64).toInt32)))) κ11))) : K X d MX5_numberHere 0 [(0, vR 77)] [] κ Q := by
  refine K_p (pc2 := 1) (lv2 := [(0, vR 77)]) (st2 := [vR 77]) (fun ad S Q _ k => V_aload_n (pc2 := 1) (dk D_X5_numberHere 0 rfl) rfl (V_lg 0 rfl) rfl k) ?_
  refine K_getF kc5 (h' := 72) (pc2 := 4) 0 (by decide) (dk D_X5_numberHere 1 rfl) fl_5_9 (by decide) (fun _ _ => rfl) rfl (fixH 77 5 (by decide) rfl) (by decide) ?_
  refine K_p (pc2 := 5) (lv2 := [(0, vR 77)]) (st2 := [vR 77, vR 72]) (fun ad S Q _ k => V_aload_n (pc2 := 5) (dk D_X5_numberHere 2 rfl) rfl (V_lg 0 rfl) rfl k) ?_
  refine K_getF kc5 (h' := 72) (pc2 := 8) 0 (by decide) (dk D_X5_numberHere 3 rfl) fl_5_9 (by decide) (fun _ _ => rfl) rfl (fixH 77 5 (by decide) rfl) (by decide) ?_
  obtain ⟨e1, he2, hc3⟩ := h
  refine K_call (as := [vR 72]) (st := [vR 72]) (pc2 := 11) (okL.all _ ⟨(Or.inr ⟨Or.inl ⟨by decide, by decide⟩, by decide⟩), trivial⟩) (okS.all _ ⟨(Or.inr ⟨Or.inl ⟨by decide, by decide⟩, by decide⟩), trivial⟩) (fun ad S Q Qc hC hc k => V_callV (as := []) (st := [_]) (M' := MX9_index) (ci := 9) (pc2 := 11) (dk D_X5_numberHere 4 rfl) ml_5_80 mv_X9_index rfl rfl (by decide) rfl (Nat.le_of_ble_eq_true rfl) rfl he2 (hC.k' (fixH 72 9 (by decide) rfl)) hc k) hc3 (kRI.k fun y4 κ5 h mo6 => ?_)
  obtain ⟨e7, he8, hc9⟩ := h
  refine K_call (as := [vR 72, vI _]) (st := []) (pc2 := 14) (okL.all _ ⟨(Or.inr ⟨Or.inl ⟨by decide, by decide⟩, by decide⟩), trivial⟩) (okS.all _ trivial) (fun ad S Q Qc hC hc k => V_callV (as := [_]) (st := []) (M' := MX9_valueOf) (ci := 9) (pc2 := 14) (dk D_X5_numberHere 5 rfl) ml_5_83 mv_X9_valueOf rfl rfl (by decide) rfl (Nat.le_of_ble_eq_true rfl) rfl he8 (hC.k' (fixH 72 9 (by decide) rfl)) hc k) hc9 (kRJ.k fun w10 κ11 h mo12 => ?_)
  refine K_p (pc2 := 15) (lv2 := [(0, vR 77)]) (st2 := [vI _]) (fun ad S Q _ k => V_l2i (pc2 := 15) (dk D_X5_numberHere 6 rfl) rfl k) ?_
  exact K_ret (r := .inl (some (vI _))) (fun ad S Q _ k => V_ireturn (dk D_X5_numberHere 7 rfl) rfl k) h
theorem k_5_readHead_0 {X : Cx} {d : Nat} {κ : Km} {Q : Res → Km → Prop}  (h : (((kI κ 72 7) = 200 → K X d MX5_readHead 18 [(0, vR 77)] [vI 1] κ Q) ∧ (¬ (kI κ 72 7) = 200 → K X d MX5_readHead 18 [(0, vR 77)] [vI 0] κ Q))) : K X d MX5_readHead 0 [(0, vR 77)] [] κ Q := by
  refine K_p (pc2 := 1) (lv2 := [(0, vR 77)]) (st2 := [vR 77]) (fun ad S Q _ k => V_aload_n (pc2 := 1) (dk D_X5_readHead 0 rfl) rfl (V_lg 0 rfl) rfl k) ?_
  refine K_getF kc5 (h' := 72) (pc2 := 4) 0 (by decide) (dk D_X5_readHead 1 rfl) fl_5_9 (by decide) (fun _ _ => rfl) rfl (fixH 77 5 (by decide) rfl) (by decide) ?_
  refine K_getI kc9 (pc2 := 7) 7 (dk D_X5_readHead 2 rfl) fl_5_41 (by decide) (fun _ _ => rfl) rfl (fixH 72 9 (by decide) rfl) ?_
  refine K_p (pc2 := 10) (lv2 := [(0, vR 77)]) (st2 := [vI _, vI _]) (fun ad S Q _ k => V_sipush (x := 200) (pc2 := 10) (dk D_X5_readHead 3 rfl) (by decide) rfl k) ?_
  refine K_if (pa := 13) (pb := 17) (lv2 := [(0, vR 77)]) (st2 := []) (fun ad S Q _ k1 k2 => V_cmpne (tgt := 17) (pc2 := 13) (dk D_X5_readHead 4 rfl) (by decide) rfl (fun q => k2 q) (fun q => k1 q)) (fun q1 => ?_) (fun q1 => ?_)
  · have h := h.1 q1
    refine K_p (pc2 := 14) (lv2 := [(0, vR 77)]) (st2 := [vI _]) (fun ad S Q _ k => V_iconst (x := 1) (pc2 := 14) (dk D_X5_readHead 5 rfl) (by decide) rfl k) ?_
    refine K_p (pc2 := 18) (lv2 := [(0, vR 77)]) (st2 := [vI _]) (fun ad S Q _ k => V_goto (tgt := 18) (dk D_X5_readHead 6 rfl) (by decide) k) ?_
    exact h
  · have h := h.2 q1
    refine K_p (pc2 := 18) (lv2 := [(0, vR 77)]) (st2 := [vI _]) (fun ad S Q _ k => V_iconst (x := 0) (pc2 := 18) (dk D_X5_readHead 7 rfl) (by decide) rfl k) ?_
    exact h
theorem k_5_readHead_18 {X : Cx} {d : Nat} {κ : Km} {Q : Res → Km → Prop} (t0 : Int32) (h : ((t0 = 0 → (((kI κ 72 7) = 201 → K X d MX5_readHead 37 [(0, vR 77), (1, vI t0)] [vR 77] κ Q) ∧ (¬ (kI κ 72 7) = 201 → K X d MX5_readHead 48 [(0, vR 77), (1, vI t0)] [vR 0, vR 77] κ Q))) ∧ (¬ t0 = 0 → K X d MX5_readHead 37 [(0, vR 77), (1, vI t0)] [vR 77] κ Q))) : K X d MX5_readHead 18 [(0, vR 77)] [vI t0] κ Q := by
  refine K_p (pc2 := 19) (lv2 := [(0, vR 77), (1, vI _)]) (st2 := []) (fun ad S Q _ k => V_istore_n (pc2 := 19) (lv2 := [(0, _), (1, _)]) (dk D_X5_readHead 8 rfl) rfl (by decide) rfl rfl k) ?_
  refine K_p (pc2 := 20) (lv2 := [(0, vR 77), (1, vI _)]) (st2 := [vR 77]) (fun ad S Q _ k => V_aload_n (pc2 := 20) (dk D_X5_readHead 9 rfl) rfl (V_lg 0 rfl) rfl k) ?_
  refine K_p (pc2 := 21) (lv2 := [(0, vR 77), (1, vI _)]) (st2 := [vI _, vR 77]) (fun ad S Q _ k => V_iload_n (pc2 := 21) (dk D_X5_readHead 10 rfl) rfl (V_lg 1 rfl) rfl k) ?_
  refine K_if (pa := 24) (pb := 37) (lv2 := [(0, vR 77), (1, vI _)]) (st2 := [vR 77]) (fun ad S Q _ k1 k2 => V_ifne (tgt := 37) (pc2 := 24) (dk D_X5_readHead 11 rfl) (by decide) rfl (fun q => k2 q) (fun q => k1 q)) (fun q1 => ?_) (fun q1 => ?_)
  · have h := h.1 q1
    refine K_p (pc2 := 25) (lv2 := [(0, vR 77), (1, vI _)]) (st2 := [vR 77, vR 77]) (fun ad S Q _ k => V_aload_n (pc2 := 25) (dk D_X5_readHead 12 rfl) rfl (V_lg 0 rfl) rfl k) ?_
    refine K_getF kc5 (h' := 72) (pc2 := 28) 0 (by decide) (dk D_X5_readHead 13 rfl) fl_5_9 (by decide) (fun _ _ => rfl) rfl (fixH 77 5 (by decide) rfl) (by decide) ?_
    refine K_getI kc9 (pc2 := 31) 7 (dk D_X5_readHead 14 rfl) fl_5_41 (by decide) (fun _ _ => rfl) rfl (fixH 72 9 (by decide) rfl) ?_
    refine K_p (pc2 := 34) (lv2 := [(0, vR 77), (1, vI _)]) (st2 := [vI _, vI _, vR 77]) (fun ad S Q _ k => V_sipush (x := 201) (pc2 := 34) (dk D_X5_readHead 15 rfl) (by decide) rfl k) ?_
    refine K_if (pa := 37) (pb := 47) (lv2 := [(0, vR 77), (1, vI _)]) (st2 := [vR 77]) (fun ad S Q _ k1 k2 => V_cmpne (tgt := 47) (pc2 := 37) (dk D_X5_readHead 16 rfl) (by decide) rfl (fun q => k2 q) (fun q => k1 q)) (fun q2 => ?_) (fun q2 => ?_)
    · have h := h.1 q2
      exact h
    · have h := h.2 q2
      refine K_p (pc2 := 48) (lv2 := [(0, vR 77), (1, vI _)]) (st2 := [vR 0, vR 77]) (fun ad S Q _ k => V_null (pc2 := 48) (dk D_X5_readHead 21 rfl) rfl k) ?_
      exact h
  · have h := h.2 q1
    exact h
theorem k_5_readHead_37 {X : Cx} {d : Nat} {κ : Km} {Q : Res → Km → Prop} (x1 : Int32) (h : ∃ e1 : Nat, e1 + 1 ≤ d ∧ KC' X e1 MX7_add [vR 67] κ (kRR fun p4 κ5 => K X d MX5_readHead 48 [(0, vR 77), (1, vI x1)] [vR p4, vR 77] κ5 Q)) : K X d MX5_readHead 37 [(0, vR 77), (1, vI x1)] [vR 77] κ Q := by
  refine K_p (pc2 := 38) (lv2 := [(0, vR 77), (1, vI _)]) (st2 := [vR 77, vR 77]) (fun ad S Q _ k => V_aload_n (pc2 := 38) (dk D_X5_readHead 17 rfl) rfl (V_lg 0 rfl) rfl k) ?_
  refine K_getF kc5 (h' := 67) (pc2 := 41) 1 (by decide) (dk D_X5_readHead 18 rfl) fl_5_15 (by decide) (fun _ _ => rfl) rfl (fixH 77 5 (by decide) rfl) (by decide) ?_
  obtain ⟨e1, he2, hc3⟩ := h
  refine K_call (as := [vR 67]) (st := [vR 77]) (pc2 := 44) (okL.all _ ⟨(Or.inr ⟨Or.inl ⟨by decide, by decide⟩, by decide⟩), trivial, trivial⟩) (okS.all _ ⟨(Or.inr ⟨Or.inl ⟨by decide, by decide⟩, by decide⟩), trivial⟩) (fun ad S Q Qc hC hc k => V_callV (as := []) (st := [_]) (M' := MX7_add) (ci := 7) (pc2 := 44) (dk D_X5_readHead 19 rfl) ml_5_87 mv_X7_add rfl rfl (by decide) rfl (Nat.le_of_ble_eq_true rfl) rfl he2 (hC.k' (fixH 67 7 (by decide) rfl)) hc k) hc3 (kRR.k fun p4 κ5 h mo6 => ?_)
  refine K_p (pc2 := 48) (lv2 := [(0, vR 77), (1, vI _)]) (st2 := [vR _, vR 77]) (fun ad S Q _ k => V_goto (tgt := 48) (dk D_X5_readHead 20 rfl) (by decide) k) ?_
  exact h
theorem k_5_readHead_48 {X : Cx} {d : Nat} {κ : Km} {Q : Res → Km → Prop} (x1 : Int32) (t1 : Nat) (h : (t1 = 0 ∨ isH κ t1 0) ∧ ∀ κ2 : Km, κ2 = cC κ t1 → ((kC κ2) = 0 ∨ live κ2 (kC κ2)) ∧ (((kC κ2) = 0 → ∃ e5 : Nat, e5 + 1 ≤ d ∧ KC' X e5 MX5_refuse [vR 77, vI (kI κ2 72 8)] κ2 (kRI fun y8 κ9 => (y8 = 0 ∨ y8 = 1) ∧ Q (.inl (some (vI y8))) κ9)) ∧ (¬ (kC κ2) = 0 → ∃ e12 : Nat, e12 + 1 ≤ d ∧ KC' X e12 MX9_next [vR 72] κ2 (kRV fun  κ15 => ∃ e17 : Nat, e17 + 1 ≤ d ∧ KC' X e17 MX5_isName [vR 77] κ15 (kRI fun y20 κ21 => ((y20 = 0 → Q (.inl (some (vI 0))) κ21) ∧ (¬ y20 = 0 → ∃ e24 : Nat, e24 + 1 ≤ d ∧ KC' X e24 MX9_index [vR 72] κ21 (kRI fun y27 κ28 => ∃ e30 : Nat, e30 + 1 ≤ d ∧ KC' X e30 MX9_valueOf [vR 72, vI y27] κ28 (kRJ fun w33 κ34 => ∃ e36 : Nat, e36 + 1 ≤ d ∧ KC' X e36 MX7_find [vR 67, vL w33] κ34 (kRI fun y39 κ40 => ((y39 = (-9) → K X d MX5_readHead 128 [(0, vR 77), (1, vI x1), (2, vL w33)] [] κ40 Q) ∧ (¬ y39 = (-9) → ∃ e43 : Nat, e43 + 1 ≤ d ∧ KC' X e43 MX7_noteWrongName [vR 67, vI (kI κ40 72 8)] κ40 (kRV fun  κ46 => K X d MX5_readHead 128 [(0, vR 77), (1, vI x1), (2, vL w33)] [] κ46 Q))))))))))))) : K X d MX5_readHead 48 [(0, vR 77), (1, vI x1)] [vR t1, vR 77] κ Q := by
  obtain ⟨h1, h⟩ := h
  refine K_putC (pc2 := 51) (dk D_X5_readHead 22 rfl) fl_5_51 rfl h1 ?_
  have h := h _ rfl
  refine K_p (pc2 := 52) (lv2 := [(0, vR 77), (1, vI _)]) (st2 := [vR 77]) (fun ad S Q _ k => V_aload_n (pc2 := 52) (dk D_X5_readHead 23 rfl) rfl (V_lg 0 rfl) rfl k) ?_
  refine K_getC (pc2 := 55) (dk D_X5_readHead 24 rfl) fl_5_51 rfl ?_
  obtain ⟨h4, h⟩ := h
  refine K_ifnonnull (tgt := 70) (pc2 := 58) (dk D_X5_readHead 25 rfl) (by decide) rfl h4 (fun q3 => ?_) (fun q3 => ?_)
  · have h := h.1 q3
    refine K_p (pc2 := 59) (lv2 := [(0, vR 77), (1, vI _)]) (st2 := [vR 77]) (fun ad S Q _ k => V_aload_n (pc2 := 59) (dk D_X5_readHead 26 rfl) rfl (V_lg 0 rfl) rfl k) ?_
    refine K_p (pc2 := 60) (lv2 := [(0, vR 77), (1, vI _)]) (st2 := [vR 77, vR 77]) (fun ad S Q _ k => V_aload_n (pc2 := 60) (dk D_X5_readHead 27 rfl) rfl (V_lg 0 rfl) rfl k) ?_
    refine K_getF kc5 (h' := 72) (pc2 := 63) 0 (by decide) (dk D_X5_readHead 28 rfl) fl_5_9 (by decide) (fun _ _ => rfl) rfl (fixH 77 5 (by decide) rfl) (by decide) ?_
    refine K_getI kc9 (pc2 := 66) 8 (dk D_X5_readHead 29 rfl) fl_5_70 (by decide) (fun _ _ => rfl) rfl (fixH 72 9 (by decide) rfl) ?_
    obtain ⟨e5, he6, hc7⟩ := h
    refine K_call (as := [vR 77, vI _]) (st := []) (pc2 := 69) (okL.all _ ⟨(Or.inr ⟨Or.inl ⟨by decide, by decide⟩, by decide⟩), trivial, trivial⟩) (okS.all _ trivial) (fun ad S Q Qc hC hc k => V_callV (as := [_]) (st := []) (M' := MX5_refuse) (ci := 5) (pc2 := 69) (dk D_X5_readHead 30 rfl) ml_5_73 mv_X5_refuse rfl rfl (by decide) rfl (Nat.le_of_ble_eq_true rfl) rfl he6 (hC.k' (fixH 77 5 (by decide) rfl)) hc k) hc7 (kRI.k fun y8 κ9 h mo10 => ?_)
    obtain ⟨h11, h⟩ := h
    exact K_ret (r := .inl (some (vI _))) (fun ad S Q _ k => V_zreturn (dk D_X5_readHead 31 rfl) rfl h11 k) h
  · have h := h.2 q3
    refine K_p (pc2 := 71) (lv2 := [(0, vR 77), (1, vI _)]) (st2 := [vR 77]) (fun ad S Q _ k => V_aload_n (pc2 := 71) (dk D_X5_readHead 32 rfl) rfl (V_lg 0 rfl) rfl k) ?_
    refine K_getF kc5 (h' := 72) (pc2 := 74) 0 (by decide) (dk D_X5_readHead 33 rfl) fl_5_9 (by decide) (fun _ _ => rfl) rfl (fixH 77 5 (by decide) rfl) (by decide) ?_
    obtain ⟨e12, he13, hc14⟩ := h
    refine K_call (as := [vR 72]) (st := []) (pc2 := 77) (okL.all _ ⟨(Or.inr ⟨Or.inl ⟨by decide, by decide⟩, by decide⟩), trivial, trivial⟩) (okS.all _ trivial) (fun ad S Q Qc hC hc k => V_callV (as := []) (st := []) (M' := MX9_next) (ci := 9) (pc2 := 77) (dk D_X5_readHead 34 rfl) ml_5_77 mv_X9_next rfl rfl (by decide) rfl (Nat.le_of_ble_eq_true rfl) rfl he13 (hC.k' (fixH 72 9 (by decide) rfl)) hc k) hc14 (kRV.k fun  κ15 h mo16 => ?_)
    refine K_p (pc2 := 78) (lv2 := [(0, vR 77), (1, vI _)]) (st2 := [vR 77]) (fun ad S Q _ k => V_aload_n (pc2 := 78) (dk D_X5_readHead 35 rfl) rfl (V_lg 0 rfl) rfl k) ?_
    obtain ⟨e17, he18, hc19⟩ := h
    refine K_call (as := [vR 77]) (st := []) (pc2 := 81) (okL.all _ ⟨(Or.inr ⟨Or.inl ⟨by decide, by decide⟩, by decide⟩), trivial, trivial⟩) (okS.all _ trivial) (fun ad S Q Qc hC hc k => V_callV (as := []) (st := []) (M' := MX5_isName) (ci := 5) (pc2 := 81) (dk D_X5_readHead 36 rfl) ml_5_90 mv_X5_isName rfl rfl (by decide) rfl (Nat.le_of_ble_eq_true rfl) rfl he18 (hC.k' (fixH 77 5 (by decide) rfl)) hc k) hc19 (kRI.k fun y20 κ21 h mo22 => ?_)
    refine K_if (pa := 84) (pb := 86) (lv2 := [(0, vR 77), (1, vI _)]) (st2 := []) (fun ad S Q _ k1 k2 => V_ifne (tgt := 86) (pc2 := 84) (dk D_X5_readHead 37 rfl) (by decide) rfl (fun q => k2 q) (fun q => k1 q)) (fun q23 => ?_) (fun q23 => ?_)
    · have h := h.1 q23
      refine K_p (pc2 := 85) (lv2 := [(0, vR 77), (1, vI _)]) (st2 := [vI _]) (fun ad S Q _ k => V_iconst (x := 0) (pc2 := 85) (dk D_X5_readHead 38 rfl) (by decide) rfl k) ?_
      exact K_ret (r := .inl (some (vI _))) (fun ad S Q _ k => V_zreturn (dk D_X5_readHead 39 rfl) rfl (Or.inl rfl) k) h
    · have h := h.2 q23
      refine K_p (pc2 := 87) (lv2 := [(0, vR 77), (1, vI _)]) (st2 := [vR 77]) (fun ad S Q _ k => V_aload_n (pc2 := 87) (dk D_X5_readHead 40 rfl) rfl (V_lg 0 rfl) rfl k) ?_
      refine K_getF kc5 (h' := 72) (pc2 := 90) 0 (by decide) (dk D_X5_readHead 41 rfl) fl_5_9 (by decide) (fun _ _ => rfl) rfl (fixH 77 5 (by decide) rfl) (by decide) ?_
      refine K_p (pc2 := 91) (lv2 := [(0, vR 77), (1, vI _)]) (st2 := [vR 77, vR 72]) (fun ad S Q _ k => V_aload_n (pc2 := 91) (dk D_X5_readHead 42 rfl) rfl (V_lg 0 rfl) rfl k) ?_
      refine K_getF kc5 (h' := 72) (pc2 := 94) 0 (by decide) (dk D_X5_readHead 43 rfl) fl_5_9 (by decide) (fun _ _ => rfl) rfl (fixH 77 5 (by decide) rfl) (by decide) ?_
      obtain ⟨e24, he25, hc26⟩ := h
      refine K_call (as := [vR 72]) (st := [vR 72]) (pc2 := 97) (okL.all _ ⟨(Or.inr ⟨Or.inl ⟨by decide, by decide⟩, by decide⟩), trivial, trivial⟩) (okS.all _ ⟨(Or.inr ⟨Or.inl ⟨by decide, by decide⟩, by decide⟩), trivial⟩) (fun ad S Q Qc hC hc k => V_callV (as := []) (st := [_]) (M' := MX9_index) (ci := 9) (pc2 := 97) (dk D_X5_readHead 44 rfl) ml_5_80 mv_X9_index rfl rfl (by decide) rfl (Nat.le_of_ble_eq_true rfl) rfl he25 (hC.k' (fixH 72 9 (by decide) rfl)) hc k) hc26 (kRI.k fun y27 κ28 h mo29 => ?_)
      obtain ⟨e30, he31, hc32⟩ := h
      refine K_call (as := [vR 72, vI _]) (st := []) (pc2 := 100) (okL.all _ ⟨(Or.inr ⟨Or.inl ⟨by decide, by decide⟩, by decide⟩), trivial, trivial⟩) (okS.all _ trivial) (fun ad S Q Qc hC hc k => V_callV (as := [_]) (st := []) (M' := MX9_valueOf) (ci := 9) (pc2 := 100) (dk D_X5_readHead 45 rfl) ml_5_83 mv_X9_valueOf rfl rfl (by decide) rfl (Nat.le_of_ble_eq_true rfl) rfl he31 (hC.k' (fixH 72 9 (by decide) rfl)) hc k) hc32 (kRJ.k fun w33 κ34 h mo35 => ?_)
      refine K_p (pc2 := 101) (lv2 := [(0, vR 77), (1, vI _), (2, vL _)]) (st2 := []) (fun ad S Q _ k => V_lstore_n (pc2 := 101) (lv2 := [(0, _), (1, _), (2, _)]) (dk D_X5_readHead 46 rfl) rfl (by decide) rfl rfl k) ?_
      refine K_p (pc2 := 102) (lv2 := [(0, vR 77), (1, vI _), (2, vL _)]) (st2 := [vR 77]) (fun ad S Q _ k => V_aload_n (pc2 := 102) (dk D_X5_readHead 47 rfl) rfl (V_lg 0 rfl) rfl k) ?_
      refine K_getF kc5 (h' := 67) (pc2 := 105) 1 (by decide) (dk D_X5_readHead 48 rfl) fl_5_15 (by decide) (fun _ _ => rfl) rfl (fixH 77 5 (by decide) rfl) (by decide) ?_
      refine K_p (pc2 := 106) (lv2 := [(0, vR 77), (1, vI _), (2, vL _)]) (st2 := [vL _, vR 67]) (fun ad S Q _ k => V_lload_n (pc2 := 106) (dk D_X5_readHead 49 rfl) rfl (V_lg 2 rfl) rfl k) ?_
      obtain ⟨e36, he37, hc38⟩ := h
      refine K_call (as := [vR 67, vL _]) (st := []) (pc2 := 109) (okL.all _ ⟨(Or.inr ⟨Or.inl ⟨by decide, by decide⟩, by decide⟩), trivial, trivial, trivial⟩) (okS.all _ trivial) (fun ad S Q Qc hC hc k => V_callV (as := [_]) (st := []) (M' := MX7_find) (ci := 7) (pc2 := 109) (dk D_X5_readHead 50 rfl) ml_5_93 mv_X7_find rfl rfl (by decide) rfl (Nat.le_of_ble_eq_true rfl) rfl he37 (hC.k' (fixH 67 7 (by decide) rfl)) hc k) hc38 (kRI.k fun y39 κ40 h mo41 => ?_)
      refine K_p (pc2 := 111) (lv2 := [(0, vR 77), (1, vI _), (2, vL _)]) (st2 := [vI _, vI _]) (fun ad S Q _ k => V_bipush (x := (-9)) (pc2 := 111) (dk D_X5_readHead 51 rfl) (by decide) rfl k) ?_
      refine K_if (pa := 128) (pb := 114) (lv2 := [(0, vR 77), (1, vI _), (2, vL _)]) (st2 := []) (fun ad S Q _ k1 k2 => V_cmpeq (tgt := 128) (pc2 := 114) (dk D_X5_readHead 52 rfl) (by decide) rfl (fun q => k1 q) (fun q => k2 q)) (fun q42 => ?_) (fun q42 => ?_)
      · have h := h.1 q42
        exact h
      · have h := h.2 q42
        refine K_p (pc2 := 115) (lv2 := [(0, vR 77), (1, vI _), (2, vL _)]) (st2 := [vR 77]) (fun ad S Q _ k => V_aload_n (pc2 := 115) (dk D_X5_readHead 53 rfl) rfl (V_lg 0 rfl) rfl k) ?_
        refine K_getF kc5 (h' := 67) (pc2 := 118) 1 (by decide) (dk D_X5_readHead 54 rfl) fl_5_15 (by decide) (fun _ _ => rfl) rfl (fixH 77 5 (by decide) rfl) (by decide) ?_
        refine K_p (pc2 := 119) (lv2 := [(0, vR 77), (1, vI _), (2, vL _)]) (st2 := [vR 77, vR 67]) (fun ad S Q _ k => V_aload_n (pc2 := 119) (dk D_X5_readHead 55 rfl) rfl (V_lg 0 rfl) rfl k) ?_
        refine K_getF kc5 (h' := 72) (pc2 := 122) 0 (by decide) (dk D_X5_readHead 56 rfl) fl_5_9 (by decide) (fun _ _ => rfl) rfl (fixH 77 5 (by decide) rfl) (by decide) ?_
        refine K_getI kc9 (pc2 := 125) 8 (dk D_X5_readHead 57 rfl) fl_5_70 (by decide) (fun _ _ => rfl) rfl (fixH 72 9 (by decide) rfl) ?_
        obtain ⟨e43, he44, hc45⟩ := h
        refine K_call (as := [vR 67, vI _]) (st := []) (pc2 := 128) (okL.all _ ⟨(Or.inr ⟨Or.inl ⟨by decide, by decide⟩, by decide⟩), trivial, trivial, trivial⟩) (okS.all _ trivial) (fun ad S Q Qc hC hc k => V_callV (as := [_]) (st := []) (M' := MX7_noteWrongName) (ci := 7) (pc2 := 128) (dk D_X5_readHead 58 rfl) ml_5_97 mv_X7_noteWrongName rfl rfl (by decide) rfl (Nat.le_of_ble_eq_true rfl) rfl he44 (hC.k' (fixH 67 7 (by decide) rfl)) hc k) hc45 (kRV.k fun  κ46 h mo47 => ?_)
        exact h
theorem k_5_readHead_128 {X : Cx} {d : Nat} {κ : Km} {Q : Res → Km → Prop} (x1 : Int32) (l2 : Int64) (h : (isH κ (kC κ) 0) ∧ ∃ e1 : Nat, e1 + 1 ≤ d ∧ KC' X e1 MX1_size [vR 68] κ (kRI fun y4 κ6 => ∃ e8 : Nat, e8 + 1 ≤ d ∧ KC' X e8 MX0_begin [vR (kC κ), vI x1, vL l2, vI (kI κ 72 8), vI y4] κ6 (kRV fun  κ11 => ∃ e13 : Nat, e13 + 1 ≤ d ∧ KC' X e13 MX9_next [vR 72] κ11 (kRV fun  κ16 => ∃ e18 : Nat, e18 + 1 ≤ d ∧ KC' X e18 MX5_takeOpening [vR 77, vI 40] κ16 (kRI fun y21 κ22 => ((y21 = 0 → K X d MX5_readHead 188 [(0, vR 77), (1, vI x1), (2, vL l2)] [] κ22 Q) ∧ (¬ y21 = 0 → ∃ e25 : Nat, e25 + 1 ≤ d ∧ KC' X e25 MX5_readArguments [vR 77, vI x1] κ22 (kRI fun y28 κ29 => ((y28 = 0 → K X d MX5_readHead 188 [(0, vR 77), (1, vI x1), (2, vL l2)] [] κ29 Q) ∧ (¬ y28 = 0 → ∃ e32 : Nat, e32 + 1 ≤ d ∧ KC' X e32 MX5_takeClosing [vR 77, vI 41] κ29 (kRI fun y35 κ36 => ((y35 = 0 → K X d MX5_readHead 188 [(0, vR 77), (1, vI x1), (2, vL l2)] [] κ36 Q) ∧ (¬ y35 = 0 → K X d MX5_readHead 189 [(0, vR 77), (1, vI x1), (2, vL l2)] [vI 1] κ36 Q))))))))))))) : K X d MX5_readHead 128 [(0, vR 77), (1, vI x1), (2, vL l2)] [] κ Q := by
  refine K_p (pc2 := 129) (lv2 := [(0, vR 77), (1, vI _), (2, vL _)]) (st2 := [vR 77]) (fun ad S Q _ k => V_aload_n (pc2 := 129) (dk D_X5_readHead 59 rfl) rfl (V_lg 0 rfl) rfl k) ?_
  refine K_getC (pc2 := 132) (dk D_X5_readHead 60 rfl) fl_5_51 rfl ?_
  refine K_p (pc2 := 133) (lv2 := [(0, vR 77), (1, vI _), (2, vL _)]) (st2 := [vI _, vR _]) (fun ad S Q _ k => V_iload_n (pc2 := 133) (dk D_X5_readHead 61 rfl) rfl (V_lg 1 rfl) rfl k) ?_
  refine K_p (pc2 := 134) (lv2 := [(0, vR 77), (1, vI _), (2, vL _)]) (st2 := [vL _, vI _, vR _]) (fun ad S Q _ k => V_lload_n (pc2 := 134) (dk D_X5_readHead 62 rfl) rfl (V_lg 2 rfl) rfl k) ?_
  refine K_p (pc2 := 135) (lv2 := [(0, vR 77), (1, vI _), (2, vL _)]) (st2 := [vR 77, vL _, vI _, vR _]) (fun ad S Q _ k => V_aload_n (pc2 := 135) (dk D_X5_readHead 63 rfl) rfl (V_lg 0 rfl) rfl k) ?_
  refine K_getF kc5 (h' := 72) (pc2 := 138) 0 (by decide) (dk D_X5_readHead 64 rfl) fl_5_9 (by decide) (fun _ _ => rfl) rfl (fixH 77 5 (by decide) rfl) (by decide) ?_
  refine K_getI kc9 (pc2 := 141) 8 (dk D_X5_readHead 65 rfl) fl_5_70 (by decide) (fun _ _ => rfl) rfl (fixH 72 9 (by decide) rfl) ?_
  refine K_p (pc2 := 142) (lv2 := [(0, vR 77), (1, vI _), (2, vL _)]) (st2 := [vR 77, vI _, vL _, vI _, vR _]) (fun ad S Q _ k => V_aload_n (pc2 := 142) (dk D_X5_readHead 66 rfl) rfl (V_lg 0 rfl) rfl k) ?_
  refine K_getF kc5 (h' := 68) (pc2 := 145) 2 (by decide) (dk D_X5_readHead 67 rfl) fl_5_25 (by decide) (fun _ _ => rfl) rfl (fixH 77 5 (by decide) rfl) (by decide) ?_
  obtain ⟨h5, h⟩ := h
  obtain ⟨e1, he2, hc3⟩ := h
  refine K_call (as := [vR 68]) (st := [vI _, vL _, vI _, vR _]) (pc2 := 148) (okL.all _ ⟨(Or.inr ⟨Or.inl ⟨by decide, by decide⟩, by decide⟩), trivial, trivial, trivial⟩) (okS.all _ ⟨trivial, trivial, trivial, (isH.ok h5 (by decide)), trivial⟩) (fun ad S Q Qc hC hc k => V_callV (as := []) (st := [_, _, _, _]) (M' := MX1_size) (ci := 1) (pc2 := 148) (dk D_X5_readHead 68 rfl) ml_5_61 mv_X1_size rfl rfl (by decide) rfl (Nat.le_of_ble_eq_true rfl) rfl he2 (hC.k' (fixH 68 1 (by decide) rfl)) hc k) hc3 (kRI.k fun y4 κ6 h mo7 => ?_)
  obtain ⟨e8, he9, hc10⟩ := h
  refine K_call (as := [vR _, vI _, vL _, vI _, vI _]) (st := []) (pc2 := 151) (okL.all _ ⟨(Or.inr ⟨Or.inl ⟨by decide, by decide⟩, by decide⟩), trivial, trivial, trivial⟩) (okS.all _ trivial) (fun ad S Q Qc hC hc k => V_callV (as := [_, _, _, _]) (st := []) (M' := MX0_begin) (ci := 0) (pc2 := 151) (dk D_X5_readHead 69 rfl) ml_5_101 mv_X0_begin rfl rfl (by decide) rfl (Nat.le_of_ble_eq_true rfl) rfl he9 (hC.k' (isH.mo h5 (by decide) mo7)) hc k) hc10 (kRV.k fun  κ11 h mo12 => ?_)
  refine K_p (pc2 := 152) (lv2 := [(0, vR 77), (1, vI _), (2, vL _)]) (st2 := [vR 77]) (fun ad S Q _ k => V_aload_n (pc2 := 152) (dk D_X5_readHead 70 rfl) rfl (V_lg 0 rfl) rfl k) ?_
  refine K_getF kc5 (h' := 72) (pc2 := 155) 0 (by decide) (dk D_X5_readHead 71 rfl) fl_5_9 (by decide) (fun _ _ => rfl) rfl (fixH 77 5 (by decide) rfl) (by decide) ?_
  obtain ⟨e13, he14, hc15⟩ := h
  refine K_call (as := [vR 72]) (st := []) (pc2 := 158) (okL.all _ ⟨(Or.inr ⟨Or.inl ⟨by decide, by decide⟩, by decide⟩), trivial, trivial, trivial⟩) (okS.all _ trivial) (fun ad S Q Qc hC hc k => V_callV (as := []) (st := []) (M' := MX9_next) (ci := 9) (pc2 := 158) (dk D_X5_readHead 72 rfl) ml_5_77 mv_X9_next rfl rfl (by decide) rfl (Nat.le_of_ble_eq_true rfl) rfl he14 (hC.k' (fixH 72 9 (by decide) rfl)) hc k) hc15 (kRV.k fun  κ16 h mo17 => ?_)
  refine K_p (pc2 := 159) (lv2 := [(0, vR 77), (1, vI _), (2, vL _)]) (st2 := [vR 77]) (fun ad S Q _ k => V_aload_n (pc2 := 159) (dk D_X5_readHead 73 rfl) rfl (V_lg 0 rfl) rfl k) ?_
  refine K_p (pc2 := 161) (lv2 := [(0, vR 77), (1, vI _), (2, vL _)]) (st2 := [vI _, vR 77]) (fun ad S Q _ k => V_bipush (x := 40) (pc2 := 161) (dk D_X5_readHead 74 rfl) (by decide) rfl k) ?_
  obtain ⟨e18, he19, hc20⟩ := h
  refine K_call (as := [vR 77, vI _]) (st := []) (pc2 := 164) (okL.all _ ⟨(Or.inr ⟨Or.inl ⟨by decide, by decide⟩, by decide⟩), trivial, trivial, trivial⟩) (okS.all _ trivial) (fun ad S Q Qc hC hc k => V_callV (as := [_]) (st := []) (M' := MX5_takeOpening) (ci := 5) (pc2 := 164) (dk D_X5_readHead 75 rfl) ml_5_105 mv_X5_takeOpening rfl rfl (by decide) rfl (Nat.le_of_ble_eq_true rfl) rfl he19 (hC.k' (fixH 77 5 (by decide) rfl)) hc k) hc20 (kRI.k fun y21 κ22 h mo23 => ?_)
  refine K_if (pa := 188) (pb := 167) (lv2 := [(0, vR 77), (1, vI _), (2, vL _)]) (st2 := []) (fun ad S Q _ k1 k2 => V_ifeq (tgt := 188) (pc2 := 167) (dk D_X5_readHead 76 rfl) (by decide) rfl (fun q => k1 q) (fun q => k2 q)) (fun q24 => ?_) (fun q24 => ?_)
  · have h := h.1 q24
    exact h
  · have h := h.2 q24
    refine K_p (pc2 := 168) (lv2 := [(0, vR 77), (1, vI _), (2, vL _)]) (st2 := [vR 77]) (fun ad S Q _ k => V_aload_n (pc2 := 168) (dk D_X5_readHead 77 rfl) rfl (V_lg 0 rfl) rfl k) ?_
    refine K_p (pc2 := 169) (lv2 := [(0, vR 77), (1, vI _), (2, vL _)]) (st2 := [vI _, vR 77]) (fun ad S Q _ k => V_iload_n (pc2 := 169) (dk D_X5_readHead 78 rfl) rfl (V_lg 1 rfl) rfl k) ?_
    obtain ⟨e25, he26, hc27⟩ := h
    refine K_call (as := [vR 77, vI _]) (st := []) (pc2 := 172) (okL.all _ ⟨(Or.inr ⟨Or.inl ⟨by decide, by decide⟩, by decide⟩), trivial, trivial, trivial⟩) (okS.all _ trivial) (fun ad S Q Qc hC hc k => V_callV (as := [_]) (st := []) (M' := MX5_readArguments) (ci := 5) (pc2 := 172) (dk D_X5_readHead 79 rfl) ml_5_108 mv_X5_readArguments rfl rfl (by decide) rfl (Nat.le_of_ble_eq_true rfl) rfl he26 (hC.k' (fixH 77 5 (by decide) rfl)) hc k) hc27 (kRI.k fun y28 κ29 h mo30 => ?_)
    refine K_if (pa := 188) (pb := 175) (lv2 := [(0, vR 77), (1, vI _), (2, vL _)]) (st2 := []) (fun ad S Q _ k1 k2 => V_ifeq (tgt := 188) (pc2 := 175) (dk D_X5_readHead 80 rfl) (by decide) rfl (fun q => k1 q) (fun q => k2 q)) (fun q31 => ?_) (fun q31 => ?_)
    · have h := h.1 q31
      exact h
    · have h := h.2 q31
      refine K_p (pc2 := 176) (lv2 := [(0, vR 77), (1, vI _), (2, vL _)]) (st2 := [vR 77]) (fun ad S Q _ k => V_aload_n (pc2 := 176) (dk D_X5_readHead 81 rfl) rfl (V_lg 0 rfl) rfl k) ?_
      refine K_p (pc2 := 178) (lv2 := [(0, vR 77), (1, vI _), (2, vL _)]) (st2 := [vI _, vR 77]) (fun ad S Q _ k => V_bipush (x := 41) (pc2 := 178) (dk D_X5_readHead 82 rfl) (by decide) rfl k) ?_
      obtain ⟨e32, he33, hc34⟩ := h
      refine K_call (as := [vR 77, vI _]) (st := []) (pc2 := 181) (okL.all _ ⟨(Or.inr ⟨Or.inl ⟨by decide, by decide⟩, by decide⟩), trivial, trivial, trivial⟩) (okS.all _ trivial) (fun ad S Q Qc hC hc k => V_callV (as := [_]) (st := []) (M' := MX5_takeClosing) (ci := 5) (pc2 := 181) (dk D_X5_readHead 83 rfl) ml_5_112 mv_X5_takeClosing rfl rfl (by decide) rfl (Nat.le_of_ble_eq_true rfl) rfl he33 (hC.k' (fixH 77 5 (by decide) rfl)) hc k) hc34 (kRI.k fun y35 κ36 h mo37 => ?_)
      refine K_if (pa := 188) (pb := 184) (lv2 := [(0, vR 77), (1, vI _), (2, vL _)]) (st2 := []) (fun ad S Q _ k1 k2 => V_ifeq (tgt := 188) (pc2 := 184) (dk D_X5_readHead 84 rfl) (by decide) rfl (fun q => k1 q) (fun q => k2 q)) (fun q38 => ?_) (fun q38 => ?_)
      · have h := h.1 q38
        exact h
      · have h := h.2 q38
        refine K_p (pc2 := 185) (lv2 := [(0, vR 77), (1, vI _), (2, vL _)]) (st2 := [vI _]) (fun ad S Q _ k => V_iconst (x := 1) (pc2 := 185) (dk D_X5_readHead 85 rfl) (by decide) rfl k) ?_
        refine K_p (pc2 := 189) (lv2 := [(0, vR 77), (1, vI _), (2, vL _)]) (st2 := [vI _]) (fun ad S Q _ k => V_goto (tgt := 189) (dk D_X5_readHead 86 rfl) (by decide) k) ?_
        exact h
theorem k_5_readHead_188 {X : Cx} {d : Nat} {κ : Km} {Q : Res → Km → Prop} (x1 : Int32) (l2 : Int64) (h : K X d MX5_readHead 189 [(0, vR 77), (1, vI x1), (2, vL l2)] [vI 0] κ Q) : K X d MX5_readHead 188 [(0, vR 77), (1, vI x1), (2, vL l2)] [] κ Q := by
  refine K_p (pc2 := 189) (lv2 := [(0, vR 77), (1, vI _), (2, vL _)]) (st2 := [vI _]) (fun ad S Q _ k => V_iconst (x := 0) (pc2 := 189) (dk D_X5_readHead 87 rfl) (by decide) rfl k) ?_
  exact h
theorem k_5_readHead_189 {X : Cx} {d : Nat} {κ : Km} {Q : Res → Km → Prop} (x1 : Int32) (l2 : Int64) (t0 : Int32) (h : (t0 = 0 ∨ t0 = 1) ∧ Q (.inl (some (vI t0))) κ) : K X d MX5_readHead 189 [(0, vR 77), (1, vI x1), (2, vL l2)] [vI t0] κ Q := by
  obtain ⟨h1, h⟩ := h
  exact K_ret (r := .inl (some (vI _))) (fun ad S Q _ k => V_zreturn (dk D_X5_readHead 88 rfl) rfl h1 k) h
theorem k_5_readArguments_0 {X : Cx} {d : Nat} {κ : Km} {Q : Res → Km → Prop} (x1 : Int32) (h : (((kI κ 72 7) = 41 → Q (.inl (some (vI 1))) κ) ∧ (¬ (kI κ 72 7) = 41 → K X d MX5_readArguments 16 [(0, vR 77), (1, vI x1), (2, vI 0)] [] κ Q))) : K X d MX5_readArguments 0 [(0, vR 77), (1, vI x1)] [] κ Q := by
  refine K_p (pc2 := 1) (lv2 := [(0, vR 77), (1, vI _)]) (st2 := [vR 77]) (fun ad S Q _ k => V_aload_n (pc2 := 1) (dk D_X5_readArguments 0 rfl) rfl (V_lg 0 rfl) rfl k) ?_
  refine K_getF kc5 (h' := 72) (pc2 := 4) 0 (by decide) (dk D_X5_readArguments 1 rfl) fl_5_9 (by decide) (fun _ _ => rfl) rfl (fixH 77 5 (by decide) rfl) (by decide) ?_
  refine K_getI kc9 (pc2 := 7) 7 (dk D_X5_readArguments 2 rfl) fl_5_41 (by decide) (fun _ _ => rfl) rfl (fixH 72 9 (by decide) rfl) ?_
  refine K_p (pc2 := 9) (lv2 := [(0, vR 77), (1, vI _)]) (st2 := [vI _, vI _]) (fun ad S Q _ k => V_bipush (x := 41) (pc2 := 9) (dk D_X5_readArguments 3 rfl) (by decide) rfl k) ?_
  refine K_if (pa := 12) (pb := 14) (lv2 := [(0, vR 77), (1, vI _)]) (st2 := []) (fun ad S Q _ k1 k2 => V_cmpne (tgt := 14) (pc2 := 12) (dk D_X5_readArguments 4 rfl) (by decide) rfl (fun q => k2 q) (fun q => k1 q)) (fun q1 => ?_) (fun q1 => ?_)
  · have h := h.1 q1
    refine K_p (pc2 := 13) (lv2 := [(0, vR 77), (1, vI _)]) (st2 := [vI _]) (fun ad S Q _ k => V_iconst (x := 1) (pc2 := 13) (dk D_X5_readArguments 5 rfl) (by decide) rfl k) ?_
    exact K_ret (r := .inl (some (vI _))) (fun ad S Q _ k => V_zreturn (dk D_X5_readArguments 6 rfl) rfl (Or.inr rfl) k) h
  · have h := h.2 q1
    refine K_p (pc2 := 15) (lv2 := [(0, vR 77), (1, vI _)]) (st2 := [vI _]) (fun ad S Q _ k => V_iconst (x := 0) (pc2 := 15) (dk D_X5_readArguments 7 rfl) (by decide) rfl k) ?_
    refine K_p (pc2 := 16) (lv2 := [(0, vR 77), (1, vI _), (2, vI _)]) (st2 := []) (fun ad S Q _ k => V_istore_n (pc2 := 16) (lv2 := [(0, _), (1, _), (2, _)]) (dk D_X5_readArguments 8 rfl) rfl (by decide) rfl rfl k) ?_
    exact h
theorem k_5_readArguments_16 {X : Cx} {d : Nat} {κ : Km} {Q : Res → Km → Prop} (x1 : Int32) (x2 : Int32) (h : ((4 ≤ x2 → ∃ e2 : Nat, e2 + 1 ≤ d ∧ KC' X e2 MX5_refuse [vR 77, vI (kI κ 72 8)] κ (kRI fun y5 κ6 => (y5 = 0 ∨ y5 = 1) ∧ Q (.inl (some (vI y5))) κ6)) ∧ (¬ 4 ≤ x2 → ∃ e9 : Nat, e9 + 1 ≤ d ∧ KC' X e9 MX5_isName [vR 77] κ (kRI fun y12 κ13 => ((y12 = 0 → Q (.inl (some (vI 0))) κ13) ∧ (¬ y12 = 0 → ∃ e16 : Nat, e16 + 1 ≤ d ∧ KC' X e16 MX9_index [vR 72] κ13 (kRI fun y19 κ20 => ∃ e22 : Nat, e22 + 1 ≤ d ∧ KC' X e22 MX9_valueOf [vR 72, vI y19] κ20 (kRJ fun w25 κ26 => (isH κ26 (kC κ26) 0) ∧ ∃ e28 : Nat, e28 + 1 ≤ d ∧ KC' X e28 MX0_find [vR (kC κ26), vL w25] κ26 (kRI fun y31 κ33 => ((y31 = (-9) → K X d MX5_readArguments 72 [(0, vR 77), (1, vI x1), (2, vI x2), (3, vL w25)] [] κ33 Q) ∧ (¬ y31 = (-9) → ∃ e36 : Nat, e36 + 1 ≤ d ∧ KC' X e36 MX7_noteWrongName [vR 67, vI (kI κ33 72 8)] κ33 (kRV fun  κ39 => K X d MX5_readArguments 72 [(0, vR 77), (1, vI x1), (2, vI x2), (3, vL w25)] [] κ39 Q)))))))))))) : K X d MX5_readArguments 16 [(0, vR 77), (1, vI x1), (2, vI x2)] [] κ Q := by
  refine K_p (pc2 := 17) (lv2 := [(0, vR 77), (1, vI _), (2, vI _)]) (st2 := [vI _]) (fun ad S Q _ k => V_iload_n (pc2 := 17) (dk D_X5_readArguments 9 rfl) rfl (V_lg 2 rfl) rfl k) ?_
  refine K_p (pc2 := 18) (lv2 := [(0, vR 77), (1, vI _), (2, vI _)]) (st2 := [vI _, vI _]) (fun ad S Q _ k => V_iconst (x := 4) (pc2 := 18) (dk D_X5_readArguments 10 rfl) (by decide) rfl k) ?_
  refine K_if (pa := 138) (pb := 21) (lv2 := [(0, vR 77), (1, vI _), (2, vI _)]) (st2 := []) (fun ad S Q _ k1 k2 => V_cmpge (tgt := 138) (pc2 := 21) (dk D_X5_readArguments 11 rfl) (by decide) rfl (fun q => k1 q) (fun q => k2 q)) (fun q1 => ?_) (fun q1 => ?_)
  · have h := h.1 q1
    refine K_p (pc2 := 139) (lv2 := [(0, vR 77), (1, vI _), (2, vI _)]) (st2 := [vR 77]) (fun ad S Q _ k => V_aload_n (pc2 := 139) (dk D_X5_readArguments 67 rfl) rfl (V_lg 0 rfl) rfl k) ?_
    refine K_p (pc2 := 140) (lv2 := [(0, vR 77), (1, vI _), (2, vI _)]) (st2 := [vR 77, vR 77]) (fun ad S Q _ k => V_aload_n (pc2 := 140) (dk D_X5_readArguments 68 rfl) rfl (V_lg 0 rfl) rfl k) ?_
    refine K_getF kc5 (h' := 72) (pc2 := 143) 0 (by decide) (dk D_X5_readArguments 69 rfl) fl_5_9 (by decide) (fun _ _ => rfl) rfl (fixH 77 5 (by decide) rfl) (by decide) ?_
    refine K_getI kc9 (pc2 := 146) 8 (dk D_X5_readArguments 70 rfl) fl_5_70 (by decide) (fun _ _ => rfl) rfl (fixH 72 9 (by decide) rfl) ?_
    obtain ⟨e2, he3, hc4⟩ := h
    refine K_call (as := [vR 77, vI _]) (st := []) (pc2 := 149) (okL.all _ ⟨(Or.inr ⟨Or.inl ⟨by decide, by decide⟩, by decide⟩), trivial, trivial, trivial⟩) (okS.all _ trivial) (fun ad S Q Qc hC hc k => V_callV (as := [_]) (st := []) (M' := MX5_refuse) (ci := 5) (pc2 := 149) (dk D_X5_readArguments 71 rfl) ml_5_73 mv_X5_refuse rfl rfl (by decide) rfl (Nat.le_of_ble_eq_true rfl) rfl he3 (hC.k' (fixH 77 5 (by decide) rfl)) hc k) hc4 (kRI.k fun y5 κ6 h mo7 => ?_)
    obtain ⟨h8, h⟩ := h
    exact K_ret (r := .inl (some (vI _))) (fun ad S Q _ k => V_zreturn (dk D_X5_readArguments 72 rfl) rfl h8 k) h
  · have h := h.2 q1
    refine K_p (pc2 := 22) (lv2 := [(0, vR 77), (1, vI _), (2, vI _)]) (st2 := [vR 77]) (fun ad S Q _ k => V_aload_n (pc2 := 22) (dk D_X5_readArguments 12 rfl) rfl (V_lg 0 rfl) rfl k) ?_
    obtain ⟨e9, he10, hc11⟩ := h
    refine K_call (as := [vR 77]) (st := []) (pc2 := 25) (okL.all _ ⟨(Or.inr ⟨Or.inl ⟨by decide, by decide⟩, by decide⟩), trivial, trivial, trivial⟩) (okS.all _ trivial) (fun ad S Q Qc hC hc k => V_callV (as := []) (st := []) (M' := MX5_isName) (ci := 5) (pc2 := 25) (dk D_X5_readArguments 13 rfl) ml_5_90 mv_X5_isName rfl rfl (by decide) rfl (Nat.le_of_ble_eq_true rfl) rfl he10 (hC.k' (fixH 77 5 (by decide) rfl)) hc k) hc11 (kRI.k fun y12 κ13 h mo14 => ?_)
    refine K_if (pa := 28) (pb := 30) (lv2 := [(0, vR 77), (1, vI _), (2, vI _)]) (st2 := []) (fun ad S Q _ k1 k2 => V_ifne (tgt := 30) (pc2 := 28) (dk D_X5_readArguments 14 rfl) (by decide) rfl (fun q => k2 q) (fun q => k1 q)) (fun q15 => ?_) (fun q15 => ?_)
    · have h := h.1 q15
      refine K_p (pc2 := 29) (lv2 := [(0, vR 77), (1, vI _), (2, vI _)]) (st2 := [vI _]) (fun ad S Q _ k => V_iconst (x := 0) (pc2 := 29) (dk D_X5_readArguments 15 rfl) (by decide) rfl k) ?_
      exact K_ret (r := .inl (some (vI _))) (fun ad S Q _ k => V_zreturn (dk D_X5_readArguments 16 rfl) rfl (Or.inl rfl) k) h
    · have h := h.2 q15
      refine K_p (pc2 := 31) (lv2 := [(0, vR 77), (1, vI _), (2, vI _)]) (st2 := [vR 77]) (fun ad S Q _ k => V_aload_n (pc2 := 31) (dk D_X5_readArguments 17 rfl) rfl (V_lg 0 rfl) rfl k) ?_
      refine K_getF kc5 (h' := 72) (pc2 := 34) 0 (by decide) (dk D_X5_readArguments 18 rfl) fl_5_9 (by decide) (fun _ _ => rfl) rfl (fixH 77 5 (by decide) rfl) (by decide) ?_
      refine K_p (pc2 := 35) (lv2 := [(0, vR 77), (1, vI _), (2, vI _)]) (st2 := [vR 77, vR 72]) (fun ad S Q _ k => V_aload_n (pc2 := 35) (dk D_X5_readArguments 19 rfl) rfl (V_lg 0 rfl) rfl k) ?_
      refine K_getF kc5 (h' := 72) (pc2 := 38) 0 (by decide) (dk D_X5_readArguments 20 rfl) fl_5_9 (by decide) (fun _ _ => rfl) rfl (fixH 77 5 (by decide) rfl) (by decide) ?_
      obtain ⟨e16, he17, hc18⟩ := h
      refine K_call (as := [vR 72]) (st := [vR 72]) (pc2 := 41) (okL.all _ ⟨(Or.inr ⟨Or.inl ⟨by decide, by decide⟩, by decide⟩), trivial, trivial, trivial⟩) (okS.all _ ⟨(Or.inr ⟨Or.inl ⟨by decide, by decide⟩, by decide⟩), trivial⟩) (fun ad S Q Qc hC hc k => V_callV (as := []) (st := [_]) (M' := MX9_index) (ci := 9) (pc2 := 41) (dk D_X5_readArguments 21 rfl) ml_5_80 mv_X9_index rfl rfl (by decide) rfl (Nat.le_of_ble_eq_true rfl) rfl he17 (hC.k' (fixH 72 9 (by decide) rfl)) hc k) hc18 (kRI.k fun y19 κ20 h mo21 => ?_)
      obtain ⟨e22, he23, hc24⟩ := h
      refine K_call (as := [vR 72, vI _]) (st := []) (pc2 := 44) (okL.all _ ⟨(Or.inr ⟨Or.inl ⟨by decide, by decide⟩, by decide⟩), trivial, trivial, trivial⟩) (okS.all _ trivial) (fun ad S Q Qc hC hc k => V_callV (as := [_]) (st := []) (M' := MX9_valueOf) (ci := 9) (pc2 := 44) (dk D_X5_readArguments 22 rfl) ml_5_83 mv_X9_valueOf rfl rfl (by decide) rfl (Nat.le_of_ble_eq_true rfl) rfl he23 (hC.k' (fixH 72 9 (by decide) rfl)) hc k) hc24 (kRJ.k fun w25 κ26 h mo27 => ?_)
      refine K_p (pc2 := 45) (lv2 := [(0, vR 77), (1, vI _), (2, vI _), (3, vL _)]) (st2 := []) (fun ad S Q _ k => V_lstore_n (pc2 := 45) (lv2 := [(0, _), (1, _), (2, _), (3, _)]) (dk D_X5_readArguments 23 rfl) rfl (by decide) rfl rfl k) ?_
      refine K_p (pc2 := 46) (lv2 := [(0, vR 77), (1, vI _), (2, vI _), (3, vL _)]) (st2 := [vR 77]) (fun ad S Q _ k => V_aload_n (pc2 := 46) (dk D_X5_readArguments 24 rfl) rfl (V_lg 0 rfl) rfl k) ?_
      refine K_getC (pc2 := 49) (dk D_X5_readArguments 25 rfl) fl_5_51 rfl ?_
      refine K_p (pc2 := 50) (lv2 := [(0, vR 77), (1, vI _), (2, vI _), (3, vL _)]) (st2 := [vL _, vR _]) (fun ad S Q _ k => V_lload_n (pc2 := 50) (dk D_X5_readArguments 26 rfl) rfl (V_lg 3 rfl) rfl k) ?_
      obtain ⟨h32, h⟩ := h
      obtain ⟨e28, he29, hc30⟩ := h
      refine K_call (as := [vR _, vL _]) (st := []) (pc2 := 53) (okL.all _ ⟨(Or.inr ⟨Or.inl ⟨by decide, by decide⟩, by decide⟩), trivial, trivial, trivial, trivial⟩) (okS.all _ trivial) (fun ad S Q Qc hC hc k => V_callV (as := [_]) (st := []) (M' := MX0_find) (ci := 0) (pc2 := 53) (dk D_X5_readArguments 27 rfl) ml_5_115 mv_X0_find rfl rfl (by decide) rfl (Nat.le_of_ble_eq_true rfl) rfl he29 (hC.k' h32) hc k) hc30 (kRI.k fun y31 κ33 h mo34 => ?_)
      refine K_p (pc2 := 55) (lv2 := [(0, vR 77), (1, vI _), (2, vI _), (3, vL _)]) (st2 := [vI _, vI _]) (fun ad S Q _ k => V_bipush (x := (-9)) (pc2 := 55) (dk D_X5_readArguments 28 rfl) (by decide) rfl k) ?_
      refine K_if (pa := 72) (pb := 58) (lv2 := [(0, vR 77), (1, vI _), (2, vI _), (3, vL _)]) (st2 := []) (fun ad S Q _ k1 k2 => V_cmpeq (tgt := 72) (pc2 := 58) (dk D_X5_readArguments 29 rfl) (by decide) rfl (fun q => k1 q) (fun q => k2 q)) (fun q35 => ?_) (fun q35 => ?_)
      · have h := h.1 q35
        exact h
      · have h := h.2 q35
        refine K_p (pc2 := 59) (lv2 := [(0, vR 77), (1, vI _), (2, vI _), (3, vL _)]) (st2 := [vR 77]) (fun ad S Q _ k => V_aload_n (pc2 := 59) (dk D_X5_readArguments 30 rfl) rfl (V_lg 0 rfl) rfl k) ?_
        refine K_getF kc5 (h' := 67) (pc2 := 62) 1 (by decide) (dk D_X5_readArguments 31 rfl) fl_5_15 (by decide) (fun _ _ => rfl) rfl (fixH 77 5 (by decide) rfl) (by decide) ?_
        refine K_p (pc2 := 63) (lv2 := [(0, vR 77), (1, vI _), (2, vI _), (3, vL _)]) (st2 := [vR 77, vR 67]) (fun ad S Q _ k => V_aload_n (pc2 := 63) (dk D_X5_readArguments 32 rfl) rfl (V_lg 0 rfl) rfl k) ?_
        refine K_getF kc5 (h' := 72) (pc2 := 66) 0 (by decide) (dk D_X5_readArguments 33 rfl) fl_5_9 (by decide) (fun _ _ => rfl) rfl (fixH 77 5 (by decide) rfl) (by decide) ?_
        refine K_getI kc9 (pc2 := 69) 8 (dk D_X5_readArguments 34 rfl) fl_5_70 (by decide) (fun _ _ => rfl) rfl (fixH 72 9 (by decide) rfl) ?_
        obtain ⟨e36, he37, hc38⟩ := h
        refine K_call (as := [vR 67, vI _]) (st := []) (pc2 := 72) (okL.all _ ⟨(Or.inr ⟨Or.inl ⟨by decide, by decide⟩, by decide⟩), trivial, trivial, trivial, trivial⟩) (okS.all _ trivial) (fun ad S Q Qc hC hc k => V_callV (as := [_]) (st := []) (M' := MX7_noteWrongName) (ci := 7) (pc2 := 72) (dk D_X5_readArguments 35 rfl) ml_5_97 mv_X7_noteWrongName rfl rfl (by decide) rfl (Nat.le_of_ble_eq_true rfl) rfl he37 (hC.k' (fixH 67 7 (by decide) rfl)) hc k) hc38 (kRV.k fun  κ39 h mo40 => ?_)
        exact h
theorem k_5_readArguments_72 {X : Cx} {d : Nat} {κ : Km} {Q : Res → Km → Prop} (x1 : Int32) (x2 : Int32) (l3 : Int64) (h : (isH κ (kC κ) 0) ∧ ∃ e1 : Nat, e1 + 1 ≤ d ∧ KC' X e1 MX0_declare [vR (kC κ), vL l3, vI (kI κ 72 8)] κ (kRV fun  κ5 => (isH κ5 (kC κ5) 0) ∧ ∀ κ8 : Km, κ8 = cI κ5 (kC κ5) 4 ((kI κ5 (kC κ5) 4) + 1) → ∃ e9 : Nat, e9 + 1 ≤ d ∧ KC' X e9 MX9_next [vR 72] κ8 (kRV fun  κ12 => ((x1 = 0 → (((kI κ12 72 7) = 44 → ∃ e16 : Nat, e16 + 1 ≤ d ∧ KC' X e16 MX9_next [vR 72] κ12 (kRV fun  κ19 => K X d MX5_readArguments 16 [(0, vR 77), (1, vI x1), (2, vI (x2 + 1))] [] κ19 Q)) ∧ (¬ (kI κ12 72 7) = 44 → K X d MX5_readArguments 123 [(0, vR 77), (1, vI x1), (2, vI x2), (3, vL l3)] [] κ12 Q))) ∧ (¬ x1 = 0 → K X d MX5_readArguments 123 [(0, vR 77), (1, vI x1), (2, vI x2), (3, vL l3)] [] κ12 Q))))) : K X d MX5_readArguments 72 [(0, vR 77), (1, vI x1), (2, vI x2), (3, vL l3)] [] κ Q := by
  refine K_p (pc2 := 73) (lv2 := [(0, vR 77), (1, vI _), (2, vI _), (3, vL _)]) (st2 := [vR 77]) (fun ad S Q _ k => V_aload_n (pc2 := 73) (dk D_X5_readArguments 36 rfl) rfl (V_lg 0 rfl) rfl k) ?_
  refine K_getC (pc2 := 76) (dk D_X5_readArguments 37 rfl) fl_5_51 rfl ?_
  refine K_p (pc2 := 77) (lv2 := [(0, vR 77), (1, vI _), (2, vI _), (3, vL _)]) (st2 := [vL _, vR _]) (fun ad S Q _ k => V_lload_n (pc2 := 77) (dk D_X5_readArguments 38 rfl) rfl (V_lg 3 rfl) rfl k) ?_
  refine K_p (pc2 := 78) (lv2 := [(0, vR 77), (1, vI _), (2, vI _), (3, vL _)]) (st2 := [vR 77, vL _, vR _]) (fun ad S Q _ k => V_aload_n (pc2 := 78) (dk D_X5_readArguments 39 rfl) rfl (V_lg 0 rfl) rfl k) ?_
  refine K_getF kc5 (h' := 72) (pc2 := 81) 0 (by decide) (dk D_X5_readArguments 40 rfl) fl_5_9 (by decide) (fun _ _ => rfl) rfl (fixH 77 5 (by decide) rfl) (by decide) ?_
  refine K_getI kc9 (pc2 := 84) 8 (dk D_X5_readArguments 41 rfl) fl_5_70 (by decide) (fun _ _ => rfl) rfl (fixH 72 9 (by decide) rfl) ?_
  obtain ⟨h4, h⟩ := h
  obtain ⟨e1, he2, hc3⟩ := h
  refine K_call (as := [vR _, vL _, vI _]) (st := []) (pc2 := 87) (okL.all _ ⟨(Or.inr ⟨Or.inl ⟨by decide, by decide⟩, by decide⟩), trivial, trivial, trivial, trivial⟩) (okS.all _ trivial) (fun ad S Q Qc hC hc k => V_callV (as := [_, _]) (st := []) (M' := MX0_declare) (ci := 0) (pc2 := 87) (dk D_X5_readArguments 42 rfl) ml_5_116 mv_X0_declare rfl rfl (by decide) rfl (Nat.le_of_ble_eq_true rfl) rfl he2 (hC.k' h4) hc k) hc3 (kRV.k fun  κ5 h mo6 => ?_)
  refine K_p (pc2 := 88) (lv2 := [(0, vR 77), (1, vI _), (2, vI _), (3, vL _)]) (st2 := [vR 77]) (fun ad S Q _ k => V_aload_n (pc2 := 88) (dk D_X5_readArguments 43 rfl) rfl (V_lg 0 rfl) rfl k) ?_
  refine K_getC (pc2 := 91) (dk D_X5_readArguments 44 rfl) fl_5_51 rfl ?_
  refine K_p (pc2 := 92) (lv2 := [(0, vR 77), (1, vI _), (2, vI _), (3, vL _)]) (st2 := [vR _, vR _]) (fun ad S Q _ k => V_dup (pc2 := 92) (dk D_X5_readArguments 45 rfl) rfl rfl k) ?_
  obtain ⟨h7, h⟩ := h
  refine K_getI kc0 (pc2 := 95) 4 (dk D_X5_readArguments 46 rfl) fl_5_120 (by decide) (fun _ _ => rfl) rfl h7 ?_
  refine K_p (pc2 := 96) (lv2 := [(0, vR 77), (1, vI _), (2, vI _), (3, vL _)]) (st2 := [vI _, vI _, vR _]) (fun ad S Q _ k => V_iconst (x := 1) (pc2 := 96) (dk D_X5_readArguments 47 rfl) (by decide) rfl k) ?_
  refine K_p (pc2 := 97) (lv2 := [(0, vR 77), (1, vI _), (2, vI _), (3, vL _)]) (st2 := [vI _, vR _]) (fun ad S Q _ k => V_iadd (pc2 := 97) (dk D_X5_readArguments 48 rfl) rfl k) ?_
  refine K_putI kc0 (pc2 := 100) 4 (dk D_X5_readArguments 49 rfl) fl_5_120 (by decide) (Or.inl rfl) rfl rfl h7 (isH.n69 h7 (by decide)) ?_
  have h := h _ rfl
  refine K_p (pc2 := 101) (lv2 := [(0, vR 77), (1, vI _), (2, vI _), (3, vL _)]) (st2 := [vR 77]) (fun ad S Q _ k => V_aload_n (pc2 := 101) (dk D_X5_readArguments 50 rfl) rfl (V_lg 0 rfl) rfl k) ?_
  refine K_getF kc5 (h' := 72) (pc2 := 104) 0 (by decide) (dk D_X5_readArguments 51 rfl) fl_5_9 (by decide) (fun _ _ => rfl) rfl (fixH 77 5 (by decide) rfl) (by decide) ?_
  obtain ⟨e9, he10, hc11⟩ := h
  refine K_call (as := [vR 72]) (st := []) (pc2 := 107) (okL.all _ ⟨(Or.inr ⟨Or.inl ⟨by decide, by decide⟩, by decide⟩), trivial, trivial, trivial, trivial⟩) (okS.all _ trivial) (fun ad S Q Qc hC hc k => V_callV (as := []) (st := []) (M' := MX9_next) (ci := 9) (pc2 := 107) (dk D_X5_readArguments 52 rfl) ml_5_77 mv_X9_next rfl rfl (by decide) rfl (Nat.le_of_ble_eq_true rfl) rfl he10 (hC.k' (fixH 72 9 (by decide) rfl)) hc k) hc11 (kRV.k fun  κ12 h mo13 => ?_)
  refine K_p (pc2 := 108) (lv2 := [(0, vR 77), (1, vI _), (2, vI _), (3, vL _)]) (st2 := [vI _]) (fun ad S Q _ k => V_iload_n (pc2 := 108) (dk D_X5_readArguments 53 rfl) rfl (V_lg 1 rfl) rfl k) ?_
  refine K_if (pa := 111) (pb := 123) (lv2 := [(0, vR 77), (1, vI _), (2, vI _), (3, vL _)]) (st2 := []) (fun ad S Q _ k1 k2 => V_ifne (tgt := 123) (pc2 := 111) (dk D_X5_readArguments 54 rfl) (by decide) rfl (fun q => k2 q) (fun q => k1 q)) (fun q14 => ?_) (fun q14 => ?_)
  · have h := h.1 q14
    refine K_p (pc2 := 112) (lv2 := [(0, vR 77), (1, vI _), (2, vI _), (3, vL _)]) (st2 := [vR 77]) (fun ad S Q _ k => V_aload_n (pc2 := 112) (dk D_X5_readArguments 55 rfl) rfl (V_lg 0 rfl) rfl k) ?_
    refine K_getF kc5 (h' := 72) (pc2 := 115) 0 (by decide) (dk D_X5_readArguments 56 rfl) fl_5_9 (by decide) (fun _ _ => rfl) rfl (fixH 77 5 (by decide) rfl) (by decide) ?_
    refine K_getI kc9 (pc2 := 118) 7 (dk D_X5_readArguments 57 rfl) fl_5_41 (by decide) (fun _ _ => rfl) rfl (fixH 72 9 (by decide) rfl) ?_
    refine K_p (pc2 := 120) (lv2 := [(0, vR 77), (1, vI _), (2, vI _), (3, vL _)]) (st2 := [vI _, vI _]) (fun ad S Q _ k => V_bipush (x := 44) (pc2 := 120) (dk D_X5_readArguments 58 rfl) (by decide) rfl k) ?_
    refine K_if (pa := 125) (pb := 123) (lv2 := [(0, vR 77), (1, vI _), (2, vI _), (3, vL _)]) (st2 := []) (fun ad S Q _ k1 k2 => V_cmpeq (tgt := 125) (pc2 := 123) (dk D_X5_readArguments 59 rfl) (by decide) rfl (fun q => k1 q) (fun q => k2 q)) (fun q15 => ?_) (fun q15 => ?_)
    · have h := h.1 q15
      refine K_p (pc2 := 126) (lv2 := [(0, vR 77), (1, vI _), (2, vI _), (3, vL _)]) (st2 := [vR 77]) (fun ad S Q _ k => V_aload_n (pc2 := 126) (dk D_X5_readArguments 62 rfl) rfl (V_lg 0 rfl) rfl k) ?_
      refine K_getF kc5 (h' := 72) (pc2 := 129) 0 (by decide) (dk D_X5_readArguments 63 rfl) fl_5_9 (by decide) (fun _ _ => rfl) rfl (fixH 77 5 (by decide) rfl) (by decide) ?_
      obtain ⟨e16, he17, hc18⟩ := h
      refine K_call (as := [vR 72]) (st := []) (pc2 := 132) (okL.all _ ⟨(Or.inr ⟨Or.inl ⟨by decide, by decide⟩, by decide⟩), trivial, trivial, trivial, trivial⟩) (okS.all _ trivial) (fun ad S Q Qc hC hc k => V_callV (as := []) (st := []) (M' := MX9_next) (ci := 9) (pc2 := 132) (dk D_X5_readArguments 64 rfl) ml_5_77 mv_X9_next rfl rfl (by decide) rfl (Nat.le_of_ble_eq_true rfl) rfl he17 (hC.k' (fixH 72 9 (by decide) rfl)) hc k) hc18 (kRV.k fun  κ19 h mo20 => ?_)
      refine K_p (pc2 := 135) (lv2 := [(0, vR 77), (1, vI _), (2, vI _), (3, vL _)]) (st2 := []) (fun ad S Q _ k => V_iinc (y := _ + 1) (pc2 := 135) (lv2 := [(0, _), (1, _), (2, _), (3, _)]) (dk D_X5_readArguments 65 rfl) (V_lg 2 rfl) rfl (by decide) rfl rfl k) ?_
      refine K_p (pc2 := 16) (lv2 := [(0, vR 77), (1, vI _), (2, vI _), (3, vL _)]) (st2 := []) (fun ad S Q _ k => V_goto (tgt := 16) (dk D_X5_readArguments 66 rfl) (by decide) k) ?_
      refine K_p (pc2 := 16) (lv2 := [(0, vR 77), (1, vI _), (2, vI _)]) (st2 := []) (fun ad S Q _ k => V_pick [0, 1, 2] (lv2 := [(0, _), (1, _), (2, _)]) rfl k) ?_
      exact h
    · have h := h.2 q15
      exact h
  · have h := h.2 q14
    exact h
theorem k_5_readArguments_123 {X : Cx} {d : Nat} {κ : Km} {Q : Res → Km → Prop} (x1 : Int32) (x2 : Int32) (l3 : Int64) (h : Q (.inl (some (vI 1))) κ) : K X d MX5_readArguments 123 [(0, vR 77), (1, vI x1), (2, vI x2), (3, vL l3)] [] κ Q := by
  refine K_p (pc2 := 124) (lv2 := [(0, vR 77), (1, vI _), (2, vI _), (3, vL _)]) (st2 := [vI _]) (fun ad S Q _ k => V_iconst (x := 1) (pc2 := 124) (dk D_X5_readArguments 60 rfl) (by decide) rfl k) ?_
  exact K_ret (r := .inl (some (vI _))) (fun ad S Q _ k => V_zreturn (dk D_X5_readArguments 61 rfl) rfl (Or.inr rfl) k) h
theorem k_5_readBlock_0 {X : Cx} {d : Nat} {κ : Km} {Q : Res → Km → Prop}  (h : ∃ e1 : Nat, e1 + 1 ≤ d ∧ KC' X e1 MX5_takeOpening [vR 77, vI 123] κ (kRI fun y4 κ5 => ((y4 = 0 → Q (.inl (some (vI 0))) κ5) ∧ (¬ y4 = 0 → K X d MX5_readBlock 13 [(0, vR 77), (1, vI 0)] [] κ5 Q)))) : K X d MX5_readBlock 0 [(0, vR 77)] [] κ Q := by
  refine K_p (pc2 := 1) (lv2 := [(0, vR 77)]) (st2 := [vR 77]) (fun ad S Q _ k => V_aload_n (pc2 := 1) (dk D_X5_readBlock 0 rfl) rfl (V_lg 0 rfl) rfl k) ?_
  refine K_p (pc2 := 3) (lv2 := [(0, vR 77)]) (st2 := [vI _, vR 77]) (fun ad S Q _ k => V_bipush (x := 123) (pc2 := 3) (dk D_X5_readBlock 1 rfl) (by decide) rfl k) ?_
  obtain ⟨e1, he2, hc3⟩ := h
  refine K_call (as := [vR 77, vI _]) (st := []) (pc2 := 6) (okL.all _ ⟨(Or.inr ⟨Or.inl ⟨by decide, by decide⟩, by decide⟩), trivial⟩) (okS.all _ trivial) (fun ad S Q Qc hC hc k => V_callV (as := [_]) (st := []) (M' := MX5_takeOpening) (ci := 5) (pc2 := 6) (dk D_X5_readBlock 2 rfl) ml_5_105 mv_X5_takeOpening rfl rfl (by decide) rfl (Nat.le_of_ble_eq_true rfl) rfl he2 (hC.k' (fixH 77 5 (by decide) rfl)) hc k) hc3 (kRI.k fun y4 κ5 h mo6 => ?_)
  refine K_if (pa := 9) (pb := 11) (lv2 := [(0, vR 77)]) (st2 := []) (fun ad S Q _ k1 k2 => V_ifne (tgt := 11) (pc2 := 9) (dk D_X5_readBlock 3 rfl) (by decide) rfl (fun q => k2 q) (fun q => k1 q)) (fun q7 => ?_) (fun q7 => ?_)
  · have h := h.1 q7
    refine K_p (pc2 := 10) (lv2 := [(0, vR 77)]) (st2 := [vI _]) (fun ad S Q _ k => V_iconst (x := 0) (pc2 := 10) (dk D_X5_readBlock 4 rfl) (by decide) rfl k) ?_
    exact K_ret (r := .inl (some (vI _))) (fun ad S Q _ k => V_zreturn (dk D_X5_readBlock 5 rfl) rfl (Or.inl rfl) k) h
  · have h := h.2 q7
    refine K_p (pc2 := 12) (lv2 := [(0, vR 77)]) (st2 := [vI _]) (fun ad S Q _ k => V_iconst (x := 0) (pc2 := 12) (dk D_X5_readBlock 6 rfl) (by decide) rfl k) ?_
    refine K_p (pc2 := 13) (lv2 := [(0, vR 77), (1, vI _)]) (st2 := []) (fun ad S Q _ k => V_istore_n (pc2 := 13) (lv2 := [(0, _), (1, _)]) (dk D_X5_readBlock 7 rfl) rfl (by decide) rfl rfl k) ?_
    exact h
theorem k_5_readBlock_13 {X : Cx} {d : Nat} {κ : Km} {Q : Res → Km → Prop} (x1 : Int32) (h : ((3001 ≤ x1 → K X d MX5_readBlock 47 [(0, vR 77), (1, vI x1)] [] κ Q) ∧ (¬ 3001 ≤ x1 → (((kI κ 72 7) = 125 → K X d MX5_readBlock 47 [(0, vR 77), (1, vI x1)] [] κ Q) ∧ (¬ (kI κ 72 7) = 125 → ∃ e3 : Nat, e3 + 1 ≤ d ∧ KC' X e3 MX5_readStatement [vR 77] κ (kRI fun y6 κ7 => ((y6 = 0 → Q (.inl (some (vI 0))) κ7) ∧ (¬ y6 = 0 → K X d MX5_readBlock 13 [(0, vR 77), (1, vI (x1 + 1))] [] κ7 Q)))))))) : K X d MX5_readBlock 13 [(0, vR 77), (1, vI x1)] [] κ Q := by
  refine K_p (pc2 := 14) (lv2 := [(0, vR 77), (1, vI _)]) (st2 := [vI _]) (fun ad S Q _ k => V_iload_n (pc2 := 14) (dk D_X5_readBlock 8 rfl) rfl (V_lg 1 rfl) rfl k) ?_
  refine K_p (pc2 := 17) (lv2 := [(0, vR 77), (1, vI _)]) (st2 := [vI _, vI _]) (fun ad S Q _ k => V_sipush (x := 3001) (pc2 := 17) (dk D_X5_readBlock 9 rfl) (by decide) rfl k) ?_
  refine K_if (pa := 47) (pb := 20) (lv2 := [(0, vR 77), (1, vI _)]) (st2 := []) (fun ad S Q _ k1 k2 => V_cmpge (tgt := 47) (pc2 := 20) (dk D_X5_readBlock 10 rfl) (by decide) rfl (fun q => k1 q) (fun q => k2 q)) (fun q1 => ?_) (fun q1 => ?_)
  · have h := h.1 q1
    exact h
  · have h := h.2 q1
    refine K_p (pc2 := 21) (lv2 := [(0, vR 77), (1, vI _)]) (st2 := [vR 77]) (fun ad S Q _ k => V_aload_n (pc2 := 21) (dk D_X5_readBlock 11 rfl) rfl (V_lg 0 rfl) rfl k) ?_
    refine K_getF kc5 (h' := 72) (pc2 := 24) 0 (by decide) (dk D_X5_readBlock 12 rfl) fl_5_9 (by decide) (fun _ _ => rfl) rfl (fixH 77 5 (by decide) rfl) (by decide) ?_
    refine K_getI kc9 (pc2 := 27) 7 (dk D_X5_readBlock 13 rfl) fl_5_41 (by decide) (fun _ _ => rfl) rfl (fixH 72 9 (by decide) rfl) ?_
    refine K_p (pc2 := 29) (lv2 := [(0, vR 77), (1, vI _)]) (st2 := [vI _, vI _]) (fun ad S Q _ k => V_bipush (x := 125) (pc2 := 29) (dk D_X5_readBlock 14 rfl) (by decide) rfl k) ?_
    refine K_if (pa := 47) (pb := 32) (lv2 := [(0, vR 77), (1, vI _)]) (st2 := []) (fun ad S Q _ k1 k2 => V_cmpeq (tgt := 47) (pc2 := 32) (dk D_X5_readBlock 15 rfl) (by decide) rfl (fun q => k1 q) (fun q => k2 q)) (fun q2 => ?_) (fun q2 => ?_)
    · have h := h.1 q2
      exact h
    · have h := h.2 q2
      refine K_p (pc2 := 33) (lv2 := [(0, vR 77), (1, vI _)]) (st2 := [vR 77]) (fun ad S Q _ k => V_aload_n (pc2 := 33) (dk D_X5_readBlock 16 rfl) rfl (V_lg 0 rfl) rfl k) ?_
      obtain ⟨e3, he4, hc5⟩ := h
      refine K_call (as := [vR 77]) (st := []) (pc2 := 36) (okL.all _ ⟨(Or.inr ⟨Or.inl ⟨by decide, by decide⟩, by decide⟩), trivial, trivial⟩) (okS.all _ trivial) (fun ad S Q Qc hC hc k => V_callV (as := []) (st := []) (M' := MX5_readStatement) (ci := 5) (pc2 := 36) (dk D_X5_readBlock 17 rfl) ml_5_123 mv_X5_readStatement rfl rfl (by decide) rfl (Nat.le_of_ble_eq_true rfl) rfl he4 (hC.k' (fixH 77 5 (by decide) rfl)) hc k) hc5 (kRI.k fun y6 κ7 h mo8 => ?_)
      refine K_if (pa := 39) (pb := 41) (lv2 := [(0, vR 77), (1, vI _)]) (st2 := []) (fun ad S Q _ k1 k2 => V_ifne (tgt := 41) (pc2 := 39) (dk D_X5_readBlock 18 rfl) (by decide) rfl (fun q => k2 q) (fun q => k1 q)) (fun q9 => ?_) (fun q9 => ?_)
      · have h := h.1 q9
        refine K_p (pc2 := 40) (lv2 := [(0, vR 77), (1, vI _)]) (st2 := [vI _]) (fun ad S Q _ k => V_iconst (x := 0) (pc2 := 40) (dk D_X5_readBlock 19 rfl) (by decide) rfl k) ?_
        exact K_ret (r := .inl (some (vI _))) (fun ad S Q _ k => V_zreturn (dk D_X5_readBlock 20 rfl) rfl (Or.inl rfl) k) h
      · have h := h.2 q9
        refine K_p (pc2 := 44) (lv2 := [(0, vR 77), (1, vI _)]) (st2 := []) (fun ad S Q _ k => V_iinc (y := _ + 1) (pc2 := 44) (lv2 := [(0, _), (1, _)]) (dk D_X5_readBlock 21 rfl) (V_lg 1 rfl) rfl (by decide) rfl rfl k) ?_
        refine K_p (pc2 := 13) (lv2 := [(0, vR 77), (1, vI _)]) (st2 := []) (fun ad S Q _ k => V_goto (tgt := 13) (dk D_X5_readBlock 22 rfl) (by decide) k) ?_
        exact h
theorem k_5_readBlock_47 {X : Cx} {d : Nat} {κ : Km} {Q : Res → Km → Prop} (x1 : Int32) (h : ∃ e1 : Nat, e1 + 1 ≤ d ∧ KC' X e1 MX5_takeClosing [vR 77, vI 125] κ (kRI fun y4 κ5 => (y4 = 0 ∨ y4 = 1) ∧ Q (.inl (some (vI y4))) κ5)) : K X d MX5_readBlock 47 [(0, vR 77), (1, vI x1)] [] κ Q := by
  refine K_p (pc2 := 48) (lv2 := [(0, vR 77), (1, vI _)]) (st2 := [vR 77]) (fun ad S Q _ k => V_aload_n (pc2 := 48) (dk D_X5_readBlock 23 rfl) rfl (V_lg 0 rfl) rfl k) ?_
  refine K_p (pc2 := 50) (lv2 := [(0, vR 77), (1, vI _)]) (st2 := [vI _, vR 77]) (fun ad S Q _ k => V_bipush (x := 125) (pc2 := 50) (dk D_X5_readBlock 24 rfl) (by decide) rfl k) ?_
  obtain ⟨e1, he2, hc3⟩ := h
  refine K_call (as := [vR 77, vI _]) (st := []) (pc2 := 53) (okL.all _ ⟨(Or.inr ⟨Or.inl ⟨by decide, by decide⟩, by decide⟩), trivial, trivial⟩) (okS.all _ trivial) (fun ad S Q Qc hC hc k => V_callV (as := [_]) (st := []) (M' := MX5_takeClosing) (ci := 5) (pc2 := 53) (dk D_X5_readBlock 25 rfl) ml_5_112 mv_X5_takeClosing rfl rfl (by decide) rfl (Nat.le_of_ble_eq_true rfl) rfl he2 (hC.k' (fixH 77 5 (by decide) rfl)) hc k) hc3 (kRI.k fun y4 κ5 h mo6 => ?_)
  obtain ⟨h7, h⟩ := h
  exact K_ret (r := .inl (some (vI _))) (fun ad S Q _ k => V_zreturn (dk D_X5_readBlock 26 rfl) rfl h7 k) h
theorem k_5_readStatement_0 {X : Cx} {d : Nat} {κ : Km} {Q : Res → Km → Prop}  (h : ∃ e1 : Nat, e1 + 1 ≤ d ∧ KC' X e1 MX1_add [vR 68, vI 20, vI (kI κ 72 8)] κ (kRI fun y4 κ5 => (((kI κ5 72 7) = 202 → ∃ e23 : Nat, e23 + 1 ≤ d ∧ KC' X e23 MX5_readIf [vR 77] κ5 (kRI fun y26 κ27 => (y26 = 0 ∨ y26 = 1) ∧ Q (.inl (some (vI y26))) κ27)) ∧ ((kI κ5 72 7) = 204 → ∃ e30 : Nat, e30 + 1 ≤ d ∧ KC' X e30 MX5_readWhile [vR 77, vI (kI κ 72 8)] κ5 (kRI fun y33 κ34 => (y33 = 0 ∨ y33 = 1) ∧ Q (.inl (some (vI y33))) κ34)) ∧ ((kI κ5 72 7) = 205 → ∃ e37 : Nat, e37 + 1 ≤ d ∧ KC' X e37 MX5_readTry [vR 77] κ5 (kRI fun y40 κ41 => (y40 = 0 ∨ y40 = 1) ∧ Q (.inl (some (vI y40))) κ41)) ∧ ((kI κ5 72 7) = 208 → ∃ e44 : Nat, e44 + 1 ≤ d ∧ KC' X e44 MX5_readThrow [vR 77] κ5 (kRI fun y47 κ48 => (y47 = 0 ∨ y47 = 1) ∧ Q (.inl (some (vI y47))) κ48)) ∧ ((kI κ5 72 7) = 209 → ∃ e51 : Nat, e51 + 1 ≤ d ∧ KC' X e51 MX5_readReturn [vR 77] κ5 (kRI fun y54 κ55 => (y54 = 0 ∨ y54 = 1) ∧ Q (.inl (some (vI y54))) κ55)) ∧ ((kI κ5 72 7) = 221 → ∃ e58 : Nat, e58 + 1 ≤ d ∧ KC' X e58 MX5_readEach [vR 77, vI (kI κ 72 8)] κ5 (kRI fun y61 κ62 => (y61 = 0 ∨ y61 = 1) ∧ Q (.inl (some (vI y61))) κ62)) ∧ (¬ ((kI κ5 72 7) = 202 ∨ (kI κ5 72 7) = 204 ∨ (kI κ5 72 7) = 205 ∨ (kI κ5 72 7) = 208 ∨ (kI κ5 72 7) = 209 ∨ (kI κ5 72 7) = 221) → ∃ e9 : Nat, e9 + 1 ≤ d ∧ KC' X e9 MX5_readSimple [vR 77] κ5 (kRI fun y12 κ13 => (y12 = 0 ∨ y12 = 1) ∧ Q (.inl (some (vI y12))) κ13))))) : K X d MX5_readStatement 0 [(0, vR 77)] [] κ Q := by
  refine K_p (pc2 := 1) (lv2 := [(0, vR 77)]) (st2 := [vR 77]) (fun ad S Q _ k => V_aload_n (pc2 := 1) (dk D_X5_readStatement 0 rfl) rfl (V_lg 0 rfl) rfl k) ?_
  refine K_getF kc5 (h' := 72) (pc2 := 4) 0 (by decide) (dk D_X5_readStatement 1 rfl) fl_5_9 (by decide) (fun _ _ => rfl) rfl (fixH 77 5 (by decide) rfl) (by decide) ?_
  refine K_getI kc9 (pc2 := 7) 8 (dk D_X5_readStatement 2 rfl) fl_5_70 (by decide) (fun _ _ => rfl) rfl (fixH 72 9 (by decide) rfl) ?_
  refine K_p (pc2 := 8) (lv2 := [(0, vR 77), (1, vI _)]) (st2 := []) (fun ad S Q _ k => V_istore_n (pc2 := 8) (lv2 := [(0, _), (1, _)]) (dk D_X5_readStatement 3 rfl) rfl (by decide) rfl rfl k) ?_
  refine K_p (pc2 := 9) (lv2 := [(0, vR 77), (1, vI _)]) (st2 := [vR 77]) (fun ad S Q _ k => V_aload_n (pc2 := 9) (dk D_X5_readStatement 4 rfl) rfl (V_lg 0 rfl) rfl k) ?_
  refine K_getF kc5 (h' := 68) (pc2 := 12) 2 (by decide) (dk D_X5_readStatement 5 rfl) fl_5_25 (by decide) (fun _ _ => rfl) rfl (fixH 77 5 (by decide) rfl) (by decide) ?_
  refine K_p (pc2 := 14) (lv2 := [(0, vR 77), (1, vI _)]) (st2 := [vI _, vR 68]) (fun ad S Q _ k => V_bipush (x := 20) (pc2 := 14) (dk D_X5_readStatement 6 rfl) (by decide) rfl k) ?_
  refine K_p (pc2 := 15) (lv2 := [(0, vR 77), (1, vI _)]) (st2 := [vI _, vI _, vR 68]) (fun ad S Q _ k => V_iload_n (pc2 := 15) (dk D_X5_readStatement 7 rfl) rfl (V_lg 1 rfl) rfl k) ?_
  obtain ⟨e1, he2, hc3⟩ := h
  refine K_call (as := [vR 68, vI _, vI _]) (st := []) (pc2 := 18) (okL.all _ ⟨(Or.inr ⟨Or.inl ⟨by decide, by decide⟩, by decide⟩), trivial, trivial⟩) (okS.all _ trivial) (fun ad S Q Qc hC hc k => V_callV (as := [_, _]) (st := []) (M' := MX1_add) (ci := 1) (pc2 := 18) (dk D_X5_readStatement 8 rfl) ml_5_57 mv_X1_add rfl rfl (by decide) rfl (Nat.le_of_ble_eq_true rfl) rfl he2 (hC.k' (fixH 68 1 (by decide) rfl)) hc k) hc3 (kRI.k fun y4 κ5 h mo6 => ?_)
  refine K_p (pc2 := 19) (lv2 := [(0, vR 77), (1, vI _)]) (st2 := []) (fun ad S Q _ k => V_pop (pc2 := 19) (dk D_X5_readStatement 9 rfl) rfl rfl k) ?_
  refine K_p (pc2 := 20) (lv2 := [(0, vR 77), (1, vI _)]) (st2 := [vR 77]) (fun ad S Q _ k => V_aload_n (pc2 := 20) (dk D_X5_readStatement 10 rfl) rfl (V_lg 0 rfl) rfl k) ?_
  refine K_getF kc5 (h' := 72) (pc2 := 23) 0 (by decide) (dk D_X5_readStatement 11 rfl) fl_5_9 (by decide) (fun _ _ => rfl) rfl (fixH 77 5 (by decide) rfl) (by decide) ?_
  refine K_getI kc9 (pc2 := 26) 7 (dk D_X5_readStatement 12 rfl) fl_5_41 (by decide) (fun _ _ => rfl) rfl (fixH 72 9 (by decide) rfl) ?_
  refine K_table (dk D_X5_readStatement 13 rfl) [120, 152, 125, 137, 152, 152, 147, 142, 152, 152, 152, 152, 152, 152, 152, 152, 152, 152, 152, 131] 152 (by decide) (by decide) rfl (by decide) (fun q7 => ?_) (fun j8 hj q7 => ?_)
  · have h := h.2.2.2.2.2.2 (by rintro (hk | hk | hk | hk | hk | hk) <;> (rw [hk] at q7; revert q7; decide))
    refine K_p (pc2 := 153) (lv2 := [(0, vR 77), (1, vI _)]) (st2 := [vR 77]) (fun ad S Q _ k => V_aload_n (pc2 := 153) (dk D_X5_readStatement 34 rfl) rfl (V_lg 0 rfl) rfl k) ?_
    obtain ⟨e16, he17, hc18⟩ := h
    refine K_call (as := [vR 77]) (st := []) (pc2 := 156) (okL.all _ ⟨(Or.inr ⟨Or.inl ⟨by decide, by decide⟩, by decide⟩), trivial, trivial⟩) (okS.all _ trivial) (fun ad S Q Qc hC hc k => V_callV (as := []) (st := []) (M' := MX5_readSimple) (ci := 5) (pc2 := 156) (dk D_X5_readStatement 35 rfl) ml_5_144 mv_X5_readSimple rfl rfl (by decide) rfl (Nat.le_of_ble_eq_true rfl) rfl he17 (hC.k' (fixH 77 5 (by decide) rfl)) hc k) hc18 (kRI.k fun y19 κ20 h mo21 => ?_)
    obtain ⟨h22, h⟩ := h
    exact K_ret (r := .inl (some (vI _))) (fun ad S Q _ k => V_zreturn (dk D_X5_readStatement 36 rfl) rfl h22 k) h
  · have hj2 : j8 = 0 ∨ j8 = 1 ∨ j8 = 2 ∨ j8 = 3 ∨ j8 = 4 ∨ j8 = 5 ∨ j8 = 6 ∨ j8 = 7 ∨ j8 = 8 ∨ j8 = 9 ∨ j8 = 10 ∨ j8 = 11 ∨ j8 = 12 ∨ j8 = 13 ∨ j8 = 14 ∨ j8 = 15 ∨ j8 = 16 ∨ j8 = 17 ∨ j8 = 18 ∨ j8 = 19 := by simp at hj; omega
    clear hj
    rcases hj2 with rfl | rfl | rfl | rfl | rfl | rfl | rfl | rfl | rfl | rfl | rfl | rfl | rfl | rfl | rfl | rfl | rfl | rfl | rfl | rfl
    · have hx : (kI κ5 72 7) = 202 := Int32.toInt_inj.mp (by rw [q7]; decide)
      have h := h.1 hx
      refine K_p (pc2 := 121) (lv2 := [(0, vR 77), (1, vI _)]) (st2 := [vR 77]) (fun ad S Q _ k => V_aload_n (pc2 := 121) (dk D_X5_readStatement 14 rfl) rfl (V_lg 0 rfl) rfl k) ?_
      obtain ⟨e23, he24, hc25⟩ := h
      refine K_call (as := [vR 77]) (st := []) (pc2 := 124) (okL.all _ ⟨(Or.inr ⟨Or.inl ⟨by decide, by decide⟩, by decide⟩), trivial, trivial⟩) (okS.all _ trivial) (fun ad S Q Qc hC hc k => V_callV (as := []) (st := []) (M' := MX5_readIf) (ci := 5) (pc2 := 124) (dk D_X5_readStatement 15 rfl) ml_5_126 mv_X5_readIf rfl rfl (by decide) rfl (Nat.le_of_ble_eq_true rfl) rfl he24 (hC.k' (fixH 77 5 (by decide) rfl)) hc k) hc25 (kRI.k fun y26 κ27 h mo28 => ?_)
      obtain ⟨h29, h⟩ := h
      exact K_ret (r := .inl (some (vI _))) (fun ad S Q _ k => V_zreturn (dk D_X5_readStatement 16 rfl) rfl h29 k) h
    · have h := h.2.2.2.2.2.2 (by rintro (hk | hk | hk | hk | hk | hk) <;> (rw [hk] at q7; revert q7; decide))
      refine K_p (pc2 := 153) (lv2 := [(0, vR 77), (1, vI _)]) (st2 := [vR 77]) (fun ad S Q _ k => V_aload_n (pc2 := 153) (dk D_X5_readStatement 34 rfl) rfl (V_lg 0 rfl) rfl k) ?_
      obtain ⟨e9, he10, hc11⟩ := h
      refine K_call (as := [vR 77]) (st := []) (pc2 := 156) (okL.all _ ⟨(Or.inr ⟨Or.inl ⟨by decide, by decide⟩, by decide⟩), trivial, trivial⟩) (okS.all _ trivial) (fun ad S Q Qc hC hc k => V_callV (as := []) (st := []) (M' := MX5_readSimple) (ci := 5) (pc2 := 156) (dk D_X5_readStatement 35 rfl) ml_5_144 mv_X5_readSimple rfl rfl (by decide) rfl (Nat.le_of_ble_eq_true rfl) rfl he10 (hC.k' (fixH 77 5 (by decide) rfl)) hc k) hc11 (kRI.k fun y12 κ13 h mo14 => ?_)
      obtain ⟨h15, h⟩ := h
      exact K_ret (r := .inl (some (vI _))) (fun ad S Q _ k => V_zreturn (dk D_X5_readStatement 36 rfl) rfl h15 k) h
    · have hx : (kI κ5 72 7) = 204 := Int32.toInt_inj.mp (by rw [q7]; decide)
      have h := h.2.1 hx
      refine K_p (pc2 := 126) (lv2 := [(0, vR 77), (1, vI _)]) (st2 := [vR 77]) (fun ad S Q _ k => V_aload_n (pc2 := 126) (dk D_X5_readStatement 17 rfl) rfl (V_lg 0 rfl) rfl k) ?_
      refine K_p (pc2 := 127) (lv2 := [(0, vR 77), (1, vI _)]) (st2 := [vI _, vR 77]) (fun ad S Q _ k => V_iload_n (pc2 := 127) (dk D_X5_readStatement 18 rfl) rfl (V_lg 1 rfl) rfl k) ?_
      obtain ⟨e30, he31, hc32⟩ := h
      refine K_call (as := [vR 77, vI _]) (st := []) (pc2 := 130) (okL.all _ ⟨(Or.inr ⟨Or.inl ⟨by decide, by decide⟩, by decide⟩), trivial, trivial⟩) (okS.all _ trivial) (fun ad S Q Qc hC hc k => V_callV (as := [_]) (st := []) (M' := MX5_readWhile) (ci := 5) (pc2 := 130) (dk D_X5_readStatement 19 rfl) ml_5_129 mv_X5_readWhile rfl rfl (by decide) rfl (Nat.le_of_ble_eq_true rfl) rfl he31 (hC.k' (fixH 77 5 (by decide) rfl)) hc k) hc32 (kRI.k fun y33 κ34 h mo35 => ?_)
      obtain ⟨h36, h⟩ := h
      exact K_ret (r := .inl (some (vI _))) (fun ad S Q _ k => V_zreturn (dk D_X5_readStatement 20 rfl) rfl h36 k) h
    · have hx : (kI κ5 72 7) = 205 := Int32.toInt_inj.mp (by rw [q7]; decide)
      have h := h.2.2.1 hx
      refine K_p (pc2 := 138) (lv2 := [(0, vR 77), (1, vI _)]) (st2 := [vR 77]) (fun ad S Q _ k => V_aload_n (pc2 := 138) (dk D_X5_readStatement 25 rfl) rfl (V_lg 0 rfl) rfl k) ?_
      obtain ⟨e37, he38, hc39⟩ := h
      refine K_call (as := [vR 77]) (st := []) (pc2 := 141) (okL.all _ ⟨(Or.inr ⟨Or.inl ⟨by decide, by decide⟩, by decide⟩), trivial, trivial⟩) (okS.all _ trivial) (fun ad S Q Qc hC hc k => V_callV (as := []) (st := []) (M' := MX5_readTry) (ci := 5) (pc2 := 141) (dk D_X5_readStatement 26 rfl) ml_5_135 mv_X5_readTry rfl rfl (by decide) rfl (Nat.le_of_ble_eq_true rfl) rfl he38 (hC.k' (fixH 77 5 (by decide) rfl)) hc k) hc39 (kRI.k fun y40 κ41 h mo42 => ?_)
      obtain ⟨h43, h⟩ := h
      exact K_ret (r := .inl (some (vI _))) (fun ad S Q _ k => V_zreturn (dk D_X5_readStatement 27 rfl) rfl h43 k) h
    · have h := h.2.2.2.2.2.2 (by rintro (hk | hk | hk | hk | hk | hk) <;> (rw [hk] at q7; revert q7; decide))
      refine K_p (pc2 := 153) (lv2 := [(0, vR 77), (1, vI _)]) (st2 := [vR 77]) (fun ad S Q _ k => V_aload_n (pc2 := 153) (dk D_X5_readStatement 34 rfl) rfl (V_lg 0 rfl) rfl k) ?_
      obtain ⟨e9, he10, hc11⟩ := h
      refine K_call (as := [vR 77]) (st := []) (pc2 := 156) (okL.all _ ⟨(Or.inr ⟨Or.inl ⟨by decide, by decide⟩, by decide⟩), trivial, trivial⟩) (okS.all _ trivial) (fun ad S Q Qc hC hc k => V_callV (as := []) (st := []) (M' := MX5_readSimple) (ci := 5) (pc2 := 156) (dk D_X5_readStatement 35 rfl) ml_5_144 mv_X5_readSimple rfl rfl (by decide) rfl (Nat.le_of_ble_eq_true rfl) rfl he10 (hC.k' (fixH 77 5 (by decide) rfl)) hc k) hc11 (kRI.k fun y12 κ13 h mo14 => ?_)
      obtain ⟨h15, h⟩ := h
      exact K_ret (r := .inl (some (vI _))) (fun ad S Q _ k => V_zreturn (dk D_X5_readStatement 36 rfl) rfl h15 k) h
    · have h := h.2.2.2.2.2.2 (by rintro (hk | hk | hk | hk | hk | hk) <;> (rw [hk] at q7; revert q7; decide))
      refine K_p (pc2 := 153) (lv2 := [(0, vR 77), (1, vI _)]) (st2 := [vR 77]) (fun ad S Q _ k => V_aload_n (pc2 := 153) (dk D_X5_readStatement 34 rfl) rfl (V_lg 0 rfl) rfl k) ?_
      obtain ⟨e9, he10, hc11⟩ := h
      refine K_call (as := [vR 77]) (st := []) (pc2 := 156) (okL.all _ ⟨(Or.inr ⟨Or.inl ⟨by decide, by decide⟩, by decide⟩), trivial, trivial⟩) (okS.all _ trivial) (fun ad S Q Qc hC hc k => V_callV (as := []) (st := []) (M' := MX5_readSimple) (ci := 5) (pc2 := 156) (dk D_X5_readStatement 35 rfl) ml_5_144 mv_X5_readSimple rfl rfl (by decide) rfl (Nat.le_of_ble_eq_true rfl) rfl he10 (hC.k' (fixH 77 5 (by decide) rfl)) hc k) hc11 (kRI.k fun y12 κ13 h mo14 => ?_)
      obtain ⟨h15, h⟩ := h
      exact K_ret (r := .inl (some (vI _))) (fun ad S Q _ k => V_zreturn (dk D_X5_readStatement 36 rfl) rfl h15 k) h
    · have hx : (kI κ5 72 7) = 208 := Int32.toInt_inj.mp (by rw [q7]; decide)
      have h := h.2.2.2.1 hx
      refine K_p (pc2 := 148) (lv2 := [(0, vR 77), (1, vI _)]) (st2 := [vR 77]) (fun ad S Q _ k => V_aload_n (pc2 := 148) (dk D_X5_readStatement 31 rfl) rfl (V_lg 0 rfl) rfl k) ?_
      obtain ⟨e44, he45, hc46⟩ := h
      refine K_call (as := [vR 77]) (st := []) (pc2 := 151) (okL.all _ ⟨(Or.inr ⟨Or.inl ⟨by decide, by decide⟩, by decide⟩), trivial, trivial⟩) (okS.all _ trivial) (fun ad S Q Qc hC hc k => V_callV (as := []) (st := []) (M' := MX5_readThrow) (ci := 5) (pc2 := 151) (dk D_X5_readStatement 32 rfl) ml_5_141 mv_X5_readThrow rfl rfl (by decide) rfl (Nat.le_of_ble_eq_true rfl) rfl he45 (hC.k' (fixH 77 5 (by decide) rfl)) hc k) hc46 (kRI.k fun y47 κ48 h mo49 => ?_)
      obtain ⟨h50, h⟩ := h
      exact K_ret (r := .inl (some (vI _))) (fun ad S Q _ k => V_zreturn (dk D_X5_readStatement 33 rfl) rfl h50 k) h
    · have hx : (kI κ5 72 7) = 209 := Int32.toInt_inj.mp (by rw [q7]; decide)
      have h := h.2.2.2.2.1 hx
      refine K_p (pc2 := 143) (lv2 := [(0, vR 77), (1, vI _)]) (st2 := [vR 77]) (fun ad S Q _ k => V_aload_n (pc2 := 143) (dk D_X5_readStatement 28 rfl) rfl (V_lg 0 rfl) rfl k) ?_
      obtain ⟨e51, he52, hc53⟩ := h
      refine K_call (as := [vR 77]) (st := []) (pc2 := 146) (okL.all _ ⟨(Or.inr ⟨Or.inl ⟨by decide, by decide⟩, by decide⟩), trivial, trivial⟩) (okS.all _ trivial) (fun ad S Q Qc hC hc k => V_callV (as := []) (st := []) (M' := MX5_readReturn) (ci := 5) (pc2 := 146) (dk D_X5_readStatement 29 rfl) ml_5_138 mv_X5_readReturn rfl rfl (by decide) rfl (Nat.le_of_ble_eq_true rfl) rfl he52 (hC.k' (fixH 77 5 (by decide) rfl)) hc k) hc53 (kRI.k fun y54 κ55 h mo56 => ?_)
      obtain ⟨h57, h⟩ := h
      exact K_ret (r := .inl (some (vI _))) (fun ad S Q _ k => V_zreturn (dk D_X5_readStatement 30 rfl) rfl h57 k) h
    · have h := h.2.2.2.2.2.2 (by rintro (hk | hk | hk | hk | hk | hk) <;> (rw [hk] at q7; revert q7; decide))
      refine K_p (pc2 := 153) (lv2 := [(0, vR 77), (1, vI _)]) (st2 := [vR 77]) (fun ad S Q _ k => V_aload_n (pc2 := 153) (dk D_X5_readStatement 34 rfl) rfl (V_lg 0 rfl) rfl k) ?_
      obtain ⟨e9, he10, hc11⟩ := h
      refine K_call (as := [vR 77]) (st := []) (pc2 := 156) (okL.all _ ⟨(Or.inr ⟨Or.inl ⟨by decide, by decide⟩, by decide⟩), trivial, trivial⟩) (okS.all _ trivial) (fun ad S Q Qc hC hc k => V_callV (as := []) (st := []) (M' := MX5_readSimple) (ci := 5) (pc2 := 156) (dk D_X5_readStatement 35 rfl) ml_5_144 mv_X5_readSimple rfl rfl (by decide) rfl (Nat.le_of_ble_eq_true rfl) rfl he10 (hC.k' (fixH 77 5 (by decide) rfl)) hc k) hc11 (kRI.k fun y12 κ13 h mo14 => ?_)
      obtain ⟨h15, h⟩ := h
      exact K_ret (r := .inl (some (vI _))) (fun ad S Q _ k => V_zreturn (dk D_X5_readStatement 36 rfl) rfl h15 k) h
    · have h := h.2.2.2.2.2.2 (by rintro (hk | hk | hk | hk | hk | hk) <;> (rw [hk] at q7; revert q7; decide))
      refine K_p (pc2 := 153) (lv2 := [(0, vR 77), (1, vI _)]) (st2 := [vR 77]) (fun ad S Q _ k => V_aload_n (pc2 := 153) (dk D_X5_readStatement 34 rfl) rfl (V_lg 0 rfl) rfl k) ?_
      obtain ⟨e9, he10, hc11⟩ := h
      refine K_call (as := [vR 77]) (st := []) (pc2 := 156) (okL.all _ ⟨(Or.inr ⟨Or.inl ⟨by decide, by decide⟩, by decide⟩), trivial, trivial⟩) (okS.all _ trivial) (fun ad S Q Qc hC hc k => V_callV (as := []) (st := []) (M' := MX5_readSimple) (ci := 5) (pc2 := 156) (dk D_X5_readStatement 35 rfl) ml_5_144 mv_X5_readSimple rfl rfl (by decide) rfl (Nat.le_of_ble_eq_true rfl) rfl he10 (hC.k' (fixH 77 5 (by decide) rfl)) hc k) hc11 (kRI.k fun y12 κ13 h mo14 => ?_)
      obtain ⟨h15, h⟩ := h
      exact K_ret (r := .inl (some (vI _))) (fun ad S Q _ k => V_zreturn (dk D_X5_readStatement 36 rfl) rfl h15 k) h
    · have h := h.2.2.2.2.2.2 (by rintro (hk | hk | hk | hk | hk | hk) <;> (rw [hk] at q7; revert q7; decide))
      refine K_p (pc2 := 153) (lv2 := [(0, vR 77), (1, vI _)]) (st2 := [vR 77]) (fun ad S Q _ k => V_aload_n (pc2 := 153) (dk D_X5_readStatement 34 rfl) rfl (V_lg 0 rfl) rfl k) ?_
      obtain ⟨e9, he10, hc11⟩ := h
      refine K_call (as := [vR 77]) (st := []) (pc2 := 156) (okL.all _ ⟨(Or.inr ⟨Or.inl ⟨by decide, by decide⟩, by decide⟩), trivial, trivial⟩) (okS.all _ trivial) (fun ad S Q Qc hC hc k => V_callV (as := []) (st := []) (M' := MX5_readSimple) (ci := 5) (pc2 := 156) (dk D_X5_readStatement 35 rfl) ml_5_144 mv_X5_readSimple rfl rfl (by decide) rfl (Nat.le_of_ble_eq_true rfl) rfl he10 (hC.k' (fixH 77 5 (by decide) rfl)) hc k) hc11 (kRI.k fun y12 κ13 h mo14 => ?_)
      obtain ⟨h15, h⟩ := h
      exact K_ret (r := .inl (some (vI _))) (fun ad S Q _ k => V_zreturn (dk D_X5_readStatement 36 rfl) rfl h15 k) h
    · have h := h.2.2.2.2.2.2 (by rintro (hk | hk | hk | hk | hk | hk) <;> (rw [hk] at q7; revert q7; decide))
      refine K_p (pc2 := 153) (lv2 := [(0, vR 77), (1, vI _)]) (st2 := [vR 77]) (fun ad S Q _ k => V_aload_n (pc2 := 153) (dk D_X5_readStatement 34 rfl) rfl (V_lg 0 rfl) rfl k) ?_
      obtain ⟨e9, he10, hc11⟩ := h
      refine K_call (as := [vR 77]) (st := []) (pc2 := 156) (okL.all _ ⟨(Or.inr ⟨Or.inl ⟨by decide, by decide⟩, by decide⟩), trivial, trivial⟩) (okS.all _ trivial) (fun ad S Q Qc hC hc k => V_callV (as := []) (st := []) (M' := MX5_readSimple) (ci := 5) (pc2 := 156) (dk D_X5_readStatement 35 rfl) ml_5_144 mv_X5_readSimple rfl rfl (by decide) rfl (Nat.le_of_ble_eq_true rfl) rfl he10 (hC.k' (fixH 77 5 (by decide) rfl)) hc k) hc11 (kRI.k fun y12 κ13 h mo14 => ?_)
      obtain ⟨h15, h⟩ := h
      exact K_ret (r := .inl (some (vI _))) (fun ad S Q _ k => V_zreturn (dk D_X5_readStatement 36 rfl) rfl h15 k) h
    · have h := h.2.2.2.2.2.2 (by rintro (hk | hk | hk | hk | hk | hk) <;> (rw [hk] at q7; revert q7; decide))
      refine K_p (pc2 := 153) (lv2 := [(0, vR 77), (1, vI _)]) (st2 := [vR 77]) (fun ad S Q _ k => V_aload_n (pc2 := 153) (dk D_X5_readStatement 34 rfl) rfl (V_lg 0 rfl) rfl k) ?_
      obtain ⟨e9, he10, hc11⟩ := h
      refine K_call (as := [vR 77]) (st := []) (pc2 := 156) (okL.all _ ⟨(Or.inr ⟨Or.inl ⟨by decide, by decide⟩, by decide⟩), trivial, trivial⟩) (okS.all _ trivial) (fun ad S Q Qc hC hc k => V_callV (as := []) (st := []) (M' := MX5_readSimple) (ci := 5) (pc2 := 156) (dk D_X5_readStatement 35 rfl) ml_5_144 mv_X5_readSimple rfl rfl (by decide) rfl (Nat.le_of_ble_eq_true rfl) rfl he10 (hC.k' (fixH 77 5 (by decide) rfl)) hc k) hc11 (kRI.k fun y12 κ13 h mo14 => ?_)
      obtain ⟨h15, h⟩ := h
      exact K_ret (r := .inl (some (vI _))) (fun ad S Q _ k => V_zreturn (dk D_X5_readStatement 36 rfl) rfl h15 k) h
    · have h := h.2.2.2.2.2.2 (by rintro (hk | hk | hk | hk | hk | hk) <;> (rw [hk] at q7; revert q7; decide))
      refine K_p (pc2 := 153) (lv2 := [(0, vR 77), (1, vI _)]) (st2 := [vR 77]) (fun ad S Q _ k => V_aload_n (pc2 := 153) (dk D_X5_readStatement 34 rfl) rfl (V_lg 0 rfl) rfl k) ?_
      obtain ⟨e9, he10, hc11⟩ := h
      refine K_call (as := [vR 77]) (st := []) (pc2 := 156) (okL.all _ ⟨(Or.inr ⟨Or.inl ⟨by decide, by decide⟩, by decide⟩), trivial, trivial⟩) (okS.all _ trivial) (fun ad S Q Qc hC hc k => V_callV (as := []) (st := []) (M' := MX5_readSimple) (ci := 5) (pc2 := 156) (dk D_X5_readStatement 35 rfl) ml_5_144 mv_X5_readSimple rfl rfl (by decide) rfl (Nat.le_of_ble_eq_true rfl) rfl he10 (hC.k' (fixH 77 5 (by decide) rfl)) hc k) hc11 (kRI.k fun y12 κ13 h mo14 => ?_)
      obtain ⟨h15, h⟩ := h
      exact K_ret (r := .inl (some (vI _))) (fun ad S Q _ k => V_zreturn (dk D_X5_readStatement 36 rfl) rfl h15 k) h
    · have h := h.2.2.2.2.2.2 (by rintro (hk | hk | hk | hk | hk | hk) <;> (rw [hk] at q7; revert q7; decide))
      refine K_p (pc2 := 153) (lv2 := [(0, vR 77), (1, vI _)]) (st2 := [vR 77]) (fun ad S Q _ k => V_aload_n (pc2 := 153) (dk D_X5_readStatement 34 rfl) rfl (V_lg 0 rfl) rfl k) ?_
      obtain ⟨e9, he10, hc11⟩ := h
      refine K_call (as := [vR 77]) (st := []) (pc2 := 156) (okL.all _ ⟨(Or.inr ⟨Or.inl ⟨by decide, by decide⟩, by decide⟩), trivial, trivial⟩) (okS.all _ trivial) (fun ad S Q Qc hC hc k => V_callV (as := []) (st := []) (M' := MX5_readSimple) (ci := 5) (pc2 := 156) (dk D_X5_readStatement 35 rfl) ml_5_144 mv_X5_readSimple rfl rfl (by decide) rfl (Nat.le_of_ble_eq_true rfl) rfl he10 (hC.k' (fixH 77 5 (by decide) rfl)) hc k) hc11 (kRI.k fun y12 κ13 h mo14 => ?_)
      obtain ⟨h15, h⟩ := h
      exact K_ret (r := .inl (some (vI _))) (fun ad S Q _ k => V_zreturn (dk D_X5_readStatement 36 rfl) rfl h15 k) h
    · have h := h.2.2.2.2.2.2 (by rintro (hk | hk | hk | hk | hk | hk) <;> (rw [hk] at q7; revert q7; decide))
      refine K_p (pc2 := 153) (lv2 := [(0, vR 77), (1, vI _)]) (st2 := [vR 77]) (fun ad S Q _ k => V_aload_n (pc2 := 153) (dk D_X5_readStatement 34 rfl) rfl (V_lg 0 rfl) rfl k) ?_
      obtain ⟨e9, he10, hc11⟩ := h
      refine K_call (as := [vR 77]) (st := []) (pc2 := 156) (okL.all _ ⟨(Or.inr ⟨Or.inl ⟨by decide, by decide⟩, by decide⟩), trivial, trivial⟩) (okS.all _ trivial) (fun ad S Q Qc hC hc k => V_callV (as := []) (st := []) (M' := MX5_readSimple) (ci := 5) (pc2 := 156) (dk D_X5_readStatement 35 rfl) ml_5_144 mv_X5_readSimple rfl rfl (by decide) rfl (Nat.le_of_ble_eq_true rfl) rfl he10 (hC.k' (fixH 77 5 (by decide) rfl)) hc k) hc11 (kRI.k fun y12 κ13 h mo14 => ?_)
      obtain ⟨h15, h⟩ := h
      exact K_ret (r := .inl (some (vI _))) (fun ad S Q _ k => V_zreturn (dk D_X5_readStatement 36 rfl) rfl h15 k) h
    · have h := h.2.2.2.2.2.2 (by rintro (hk | hk | hk | hk | hk | hk) <;> (rw [hk] at q7; revert q7; decide))
      refine K_p (pc2 := 153) (lv2 := [(0, vR 77), (1, vI _)]) (st2 := [vR 77]) (fun ad S Q _ k => V_aload_n (pc2 := 153) (dk D_X5_readStatement 34 rfl) rfl (V_lg 0 rfl) rfl k) ?_
      obtain ⟨e9, he10, hc11⟩ := h
      refine K_call (as := [vR 77]) (st := []) (pc2 := 156) (okL.all _ ⟨(Or.inr ⟨Or.inl ⟨by decide, by decide⟩, by decide⟩), trivial, trivial⟩) (okS.all _ trivial) (fun ad S Q Qc hC hc k => V_callV (as := []) (st := []) (M' := MX5_readSimple) (ci := 5) (pc2 := 156) (dk D_X5_readStatement 35 rfl) ml_5_144 mv_X5_readSimple rfl rfl (by decide) rfl (Nat.le_of_ble_eq_true rfl) rfl he10 (hC.k' (fixH 77 5 (by decide) rfl)) hc k) hc11 (kRI.k fun y12 κ13 h mo14 => ?_)
      obtain ⟨h15, h⟩ := h
      exact K_ret (r := .inl (some (vI _))) (fun ad S Q _ k => V_zreturn (dk D_X5_readStatement 36 rfl) rfl h15 k) h
    · have h := h.2.2.2.2.2.2 (by rintro (hk | hk | hk | hk | hk | hk) <;> (rw [hk] at q7; revert q7; decide))
      refine K_p (pc2 := 153) (lv2 := [(0, vR 77), (1, vI _)]) (st2 := [vR 77]) (fun ad S Q _ k => V_aload_n (pc2 := 153) (dk D_X5_readStatement 34 rfl) rfl (V_lg 0 rfl) rfl k) ?_
      obtain ⟨e9, he10, hc11⟩ := h
      refine K_call (as := [vR 77]) (st := []) (pc2 := 156) (okL.all _ ⟨(Or.inr ⟨Or.inl ⟨by decide, by decide⟩, by decide⟩), trivial, trivial⟩) (okS.all _ trivial) (fun ad S Q Qc hC hc k => V_callV (as := []) (st := []) (M' := MX5_readSimple) (ci := 5) (pc2 := 156) (dk D_X5_readStatement 35 rfl) ml_5_144 mv_X5_readSimple rfl rfl (by decide) rfl (Nat.le_of_ble_eq_true rfl) rfl he10 (hC.k' (fixH 77 5 (by decide) rfl)) hc k) hc11 (kRI.k fun y12 κ13 h mo14 => ?_)
      obtain ⟨h15, h⟩ := h
      exact K_ret (r := .inl (some (vI _))) (fun ad S Q _ k => V_zreturn (dk D_X5_readStatement 36 rfl) rfl h15 k) h
    · have h := h.2.2.2.2.2.2 (by rintro (hk | hk | hk | hk | hk | hk) <;> (rw [hk] at q7; revert q7; decide))
      refine K_p (pc2 := 153) (lv2 := [(0, vR 77), (1, vI _)]) (st2 := [vR 77]) (fun ad S Q _ k => V_aload_n (pc2 := 153) (dk D_X5_readStatement 34 rfl) rfl (V_lg 0 rfl) rfl k) ?_
      obtain ⟨e9, he10, hc11⟩ := h
      refine K_call (as := [vR 77]) (st := []) (pc2 := 156) (okL.all _ ⟨(Or.inr ⟨Or.inl ⟨by decide, by decide⟩, by decide⟩), trivial, trivial⟩) (okS.all _ trivial) (fun ad S Q Qc hC hc k => V_callV (as := []) (st := []) (M' := MX5_readSimple) (ci := 5) (pc2 := 156) (dk D_X5_readStatement 35 rfl) ml_5_144 mv_X5_readSimple rfl rfl (by decide) rfl (Nat.le_of_ble_eq_true rfl) rfl he10 (hC.k' (fixH 77 5 (by decide) rfl)) hc k) hc11 (kRI.k fun y12 κ13 h mo14 => ?_)
      obtain ⟨h15, h⟩ := h
      exact K_ret (r := .inl (some (vI _))) (fun ad S Q _ k => V_zreturn (dk D_X5_readStatement 36 rfl) rfl h15 k) h
    · have hx : (kI κ5 72 7) = 221 := Int32.toInt_inj.mp (by rw [q7]; decide)
      have h := h.2.2.2.2.2.1 hx
      refine K_p (pc2 := 132) (lv2 := [(0, vR 77), (1, vI _)]) (st2 := [vR 77]) (fun ad S Q _ k => V_aload_n (pc2 := 132) (dk D_X5_readStatement 21 rfl) rfl (V_lg 0 rfl) rfl k) ?_
      refine K_p (pc2 := 133) (lv2 := [(0, vR 77), (1, vI _)]) (st2 := [vI _, vR 77]) (fun ad S Q _ k => V_iload_n (pc2 := 133) (dk D_X5_readStatement 22 rfl) rfl (V_lg 1 rfl) rfl k) ?_
      obtain ⟨e58, he59, hc60⟩ := h
      refine K_call (as := [vR 77, vI _]) (st := []) (pc2 := 136) (okL.all _ ⟨(Or.inr ⟨Or.inl ⟨by decide, by decide⟩, by decide⟩), trivial, trivial⟩) (okS.all _ trivial) (fun ad S Q Qc hC hc k => V_callV (as := [_]) (st := []) (M' := MX5_readEach) (ci := 5) (pc2 := 136) (dk D_X5_readStatement 23 rfl) ml_5_132 mv_X5_readEach rfl rfl (by decide) rfl (Nat.le_of_ble_eq_true rfl) rfl he59 (hC.k' (fixH 77 5 (by decide) rfl)) hc k) hc60 (kRI.k fun y61 κ62 h mo63 => ?_)
      obtain ⟨h64, h⟩ := h
      exact K_ret (r := .inl (some (vI _))) (fun ad S Q _ k => V_zreturn (dk D_X5_readStatement 24 rfl) rfl h64 k) h
theorem k_5_readSimple_0 {X : Cx} {d : Nat} {κ : Km} {Q : Res → Km → Prop}  (h : (((kI κ 72 7) = 210 → K X d MX5_readSimple 30 [(0, vR 77), (1, vI 4), (2, vI 0)] [] κ Q) ∧ (¬ (kI κ 72 7) = 210 → (((kI κ 72 7) = 215 → K X d MX5_readSimple 30 [(0, vR 77), (1, vI 4), (2, vI 0)] [] κ Q) ∧ (¬ (kI κ 72 7) = 215 → (((kI κ 72 7) = 2 → ∃ e4 : Nat, e4 + 1 ≤ d ∧ KC' X e4 MX9_kindBehind [vR 72] κ (kRI fun y7 κ8 => ((y7 = 61 → ∃ e11 : Nat, e11 + 1 ≤ d ∧ KC' X e11 MX5_declareHere [vR 77] κ8 (kRI fun y14 κ15 => ∃ e17 : Nat, e17 + 1 ≤ d ∧ KC' X e17 MX9_next [vR 72] κ15 (kRV fun  κ20 => ∃ e22 : Nat, e22 + 1 ≤ d ∧ KC' X e22 MX9_next [vR 72] κ20 (kRV fun  κ25 => K X d MX5_readSimple 105 [(0, vR 77), (1, vI 3), (2, vI y14)] [] κ25 Q)))) ∧ (¬ y7 = 61 → K X d MX5_readSimple 105 [(0, vR 77), (1, vI 4), (2, vI 0)] [] κ8 Q)))) ∧ (¬ (kI κ 72 7) = 2 → K X d MX5_readSimple 105 [(0, vR 77), (1, vI 4), (2, vI 0)] [] κ Q))))))) : K X d MX5_readSimple 0 [(0, vR 77)] [] κ Q := by
  refine K_p (pc2 := 1) (lv2 := [(0, vR 77)]) (st2 := [vI _]) (fun ad S Q _ k => V_iconst (x := 4) (pc2 := 1) (dk D_X5_readSimple 0 rfl) (by decide) rfl k) ?_
  refine K_p (pc2 := 2) (lv2 := [(0, vR 77), (1, vI _)]) (st2 := []) (fun ad S Q _ k => V_istore_n (pc2 := 2) (lv2 := [(0, _), (1, _)]) (dk D_X5_readSimple 1 rfl) rfl (by decide) rfl rfl k) ?_
  refine K_p (pc2 := 3) (lv2 := [(0, vR 77), (1, vI _)]) (st2 := [vI _]) (fun ad S Q _ k => V_iconst (x := 0) (pc2 := 3) (dk D_X5_readSimple 2 rfl) (by decide) rfl k) ?_
  refine K_p (pc2 := 4) (lv2 := [(0, vR 77), (1, vI _), (2, vI _)]) (st2 := []) (fun ad S Q _ k => V_istore_n (pc2 := 4) (lv2 := [(0, _), (1, _), (2, _)]) (dk D_X5_readSimple 3 rfl) rfl (by decide) rfl rfl k) ?_
  refine K_p (pc2 := 5) (lv2 := [(0, vR 77), (1, vI _), (2, vI _)]) (st2 := [vR 77]) (fun ad S Q _ k => V_aload_n (pc2 := 5) (dk D_X5_readSimple 4 rfl) rfl (V_lg 0 rfl) rfl k) ?_
  refine K_getF kc5 (h' := 72) (pc2 := 8) 0 (by decide) (dk D_X5_readSimple 5 rfl) fl_5_9 (by decide) (fun _ _ => rfl) rfl (fixH 77 5 (by decide) rfl) (by decide) ?_
  refine K_getI kc9 (pc2 := 11) 7 (dk D_X5_readSimple 6 rfl) fl_5_41 (by decide) (fun _ _ => rfl) rfl (fixH 72 9 (by decide) rfl) ?_
  refine K_p (pc2 := 14) (lv2 := [(0, vR 77), (1, vI _), (2, vI _)]) (st2 := [vI _, vI _]) (fun ad S Q _ k => V_sipush (x := 210) (pc2 := 14) (dk D_X5_readSimple 7 rfl) (by decide) rfl k) ?_
  refine K_if (pa := 30) (pb := 17) (lv2 := [(0, vR 77), (1, vI _), (2, vI _)]) (st2 := []) (fun ad S Q _ k1 k2 => V_cmpeq (tgt := 30) (pc2 := 17) (dk D_X5_readSimple 8 rfl) (by decide) rfl (fun q => k1 q) (fun q => k2 q)) (fun q1 => ?_) (fun q1 => ?_)
  · have h := h.1 q1
    exact h
  · have h := h.2 q1
    refine K_p (pc2 := 18) (lv2 := [(0, vR 77), (1, vI _), (2, vI _)]) (st2 := [vR 77]) (fun ad S Q _ k => V_aload_n (pc2 := 18) (dk D_X5_readSimple 9 rfl) rfl (V_lg 0 rfl) rfl k) ?_
    refine K_getF kc5 (h' := 72) (pc2 := 21) 0 (by decide) (dk D_X5_readSimple 10 rfl) fl_5_9 (by decide) (fun _ _ => rfl) rfl (fixH 77 5 (by decide) rfl) (by decide) ?_
    refine K_getI kc9 (pc2 := 24) 7 (dk D_X5_readSimple 11 rfl) fl_5_41 (by decide) (fun _ _ => rfl) rfl (fixH 72 9 (by decide) rfl) ?_
    refine K_p (pc2 := 27) (lv2 := [(0, vR 77), (1, vI _), (2, vI _)]) (st2 := [vI _, vI _]) (fun ad S Q _ k => V_sipush (x := 215) (pc2 := 27) (dk D_X5_readSimple 12 rfl) (by decide) rfl k) ?_
    refine K_if (pa := 30) (pb := 61) (lv2 := [(0, vR 77), (1, vI _), (2, vI _)]) (st2 := []) (fun ad S Q _ k1 k2 => V_cmpne (tgt := 61) (pc2 := 30) (dk D_X5_readSimple 13 rfl) (by decide) rfl (fun q => k2 q) (fun q => k1 q)) (fun q2 => ?_) (fun q2 => ?_)
    · have h := h.1 q2
      exact h
    · have h := h.2 q2
      refine K_p (pc2 := 62) (lv2 := [(0, vR 77), (1, vI _), (2, vI _)]) (st2 := [vR 77]) (fun ad S Q _ k => V_aload_n (pc2 := 62) (dk D_X5_readSimple 27 rfl) rfl (V_lg 0 rfl) rfl k) ?_
      refine K_getF kc5 (h' := 72) (pc2 := 65) 0 (by decide) (dk D_X5_readSimple 28 rfl) fl_5_9 (by decide) (fun _ _ => rfl) rfl (fixH 77 5 (by decide) rfl) (by decide) ?_
      refine K_getI kc9 (pc2 := 68) 7 (dk D_X5_readSimple 29 rfl) fl_5_41 (by decide) (fun _ _ => rfl) rfl (fixH 72 9 (by decide) rfl) ?_
      refine K_p (pc2 := 69) (lv2 := [(0, vR 77), (1, vI _), (2, vI _)]) (st2 := [vI _, vI _]) (fun ad S Q _ k => V_iconst (x := 2) (pc2 := 69) (dk D_X5_readSimple 30 rfl) (by decide) rfl k) ?_
      refine K_if (pa := 72) (pb := 105) (lv2 := [(0, vR 77), (1, vI _), (2, vI _)]) (st2 := []) (fun ad S Q _ k1 k2 => V_cmpne (tgt := 105) (pc2 := 72) (dk D_X5_readSimple 31 rfl) (by decide) rfl (fun q => k2 q) (fun q => k1 q)) (fun q3 => ?_) (fun q3 => ?_)
      · have h := h.1 q3
        refine K_p (pc2 := 73) (lv2 := [(0, vR 77), (1, vI _), (2, vI _)]) (st2 := [vR 77]) (fun ad S Q _ k => V_aload_n (pc2 := 73) (dk D_X5_readSimple 32 rfl) rfl (V_lg 0 rfl) rfl k) ?_
        refine K_getF kc5 (h' := 72) (pc2 := 76) 0 (by decide) (dk D_X5_readSimple 33 rfl) fl_5_9 (by decide) (fun _ _ => rfl) rfl (fixH 77 5 (by decide) rfl) (by decide) ?_
        obtain ⟨e4, he5, hc6⟩ := h
        refine K_call (as := [vR 72]) (st := []) (pc2 := 79) (okL.all _ ⟨(Or.inr ⟨Or.inl ⟨by decide, by decide⟩, by decide⟩), trivial, trivial, trivial⟩) (okS.all _ trivial) (fun ad S Q Qc hC hc k => V_callV (as := []) (st := []) (M' := MX9_kindBehind) (ci := 9) (pc2 := 79) (dk D_X5_readSimple 34 rfl) ml_5_147 mv_X9_kindBehind rfl rfl (by decide) rfl (Nat.le_of_ble_eq_true rfl) rfl he5 (hC.k' (fixH 72 9 (by decide) rfl)) hc k) hc6 (kRI.k fun y7 κ8 h mo9 => ?_)
        refine K_p (pc2 := 81) (lv2 := [(0, vR 77), (1, vI _), (2, vI _)]) (st2 := [vI _, vI _]) (fun ad S Q _ k => V_bipush (x := 61) (pc2 := 81) (dk D_X5_readSimple 35 rfl) (by decide) rfl k) ?_
        refine K_if (pa := 84) (pb := 105) (lv2 := [(0, vR 77), (1, vI _), (2, vI _)]) (st2 := []) (fun ad S Q _ k1 k2 => V_cmpne (tgt := 105) (pc2 := 84) (dk D_X5_readSimple 36 rfl) (by decide) rfl (fun q => k2 q) (fun q => k1 q)) (fun q10 => ?_) (fun q10 => ?_)
        · have h := h.1 q10
          refine K_p (pc2 := 85) (lv2 := [(0, vR 77), (1, vI _), (2, vI _)]) (st2 := [vI _]) (fun ad S Q _ k => V_iconst (x := 3) (pc2 := 85) (dk D_X5_readSimple 37 rfl) (by decide) rfl k) ?_
          refine K_p (pc2 := 86) (lv2 := [(0, vR 77), (1, vI _), (2, vI _)]) (st2 := []) (fun ad S Q _ k => V_istore_n (pc2 := 86) (lv2 := [(0, _), (1, _), (2, _)]) (dk D_X5_readSimple 38 rfl) rfl (by decide) rfl rfl k) ?_
          refine K_p (pc2 := 87) (lv2 := [(0, vR 77), (1, vI _), (2, vI _)]) (st2 := [vR 77]) (fun ad S Q _ k => V_aload_n (pc2 := 87) (dk D_X5_readSimple 39 rfl) rfl (V_lg 0 rfl) rfl k) ?_
          obtain ⟨e11, he12, hc13⟩ := h
          refine K_call (as := [vR 77]) (st := []) (pc2 := 90) (okL.all _ ⟨(Or.inr ⟨Or.inl ⟨by decide, by decide⟩, by decide⟩), trivial, trivial, trivial⟩) (okS.all _ trivial) (fun ad S Q Qc hC hc k => V_callV (as := []) (st := []) (M' := MX5_declareHere) (ci := 5) (pc2 := 90) (dk D_X5_readSimple 40 rfl) ml_5_150 mv_X5_declareHere rfl rfl (by decide) rfl (Nat.le_of_ble_eq_true rfl) rfl he12 (hC.k' (fixH 77 5 (by decide) rfl)) hc k) hc13 (kRI.k fun y14 κ15 h mo16 => ?_)
          refine K_p (pc2 := 91) (lv2 := [(0, vR 77), (1, vI _), (2, vI _)]) (st2 := []) (fun ad S Q _ k => V_istore_n (pc2 := 91) (lv2 := [(0, _), (1, _), (2, _)]) (dk D_X5_readSimple 41 rfl) rfl (by decide) rfl rfl k) ?_
          refine K_p (pc2 := 92) (lv2 := [(0, vR 77), (1, vI _), (2, vI _)]) (st2 := [vR 77]) (fun ad S Q _ k => V_aload_n (pc2 := 92) (dk D_X5_readSimple 42 rfl) rfl (V_lg 0 rfl) rfl k) ?_
          refine K_getF kc5 (h' := 72) (pc2 := 95) 0 (by decide) (dk D_X5_readSimple 43 rfl) fl_5_9 (by decide) (fun _ _ => rfl) rfl (fixH 77 5 (by decide) rfl) (by decide) ?_
          obtain ⟨e17, he18, hc19⟩ := h
          refine K_call (as := [vR 72]) (st := []) (pc2 := 98) (okL.all _ ⟨(Or.inr ⟨Or.inl ⟨by decide, by decide⟩, by decide⟩), trivial, trivial, trivial⟩) (okS.all _ trivial) (fun ad S Q Qc hC hc k => V_callV (as := []) (st := []) (M' := MX9_next) (ci := 9) (pc2 := 98) (dk D_X5_readSimple 44 rfl) ml_5_77 mv_X9_next rfl rfl (by decide) rfl (Nat.le_of_ble_eq_true rfl) rfl he18 (hC.k' (fixH 72 9 (by decide) rfl)) hc k) hc19 (kRV.k fun  κ20 h mo21 => ?_)
          refine K_p (pc2 := 99) (lv2 := [(0, vR 77), (1, vI _), (2, vI _)]) (st2 := [vR 77]) (fun ad S Q _ k => V_aload_n (pc2 := 99) (dk D_X5_readSimple 45 rfl) rfl (V_lg 0 rfl) rfl k) ?_
          refine K_getF kc5 (h' := 72) (pc2 := 102) 0 (by decide) (dk D_X5_readSimple 46 rfl) fl_5_9 (by decide) (fun _ _ => rfl) rfl (fixH 77 5 (by decide) rfl) (by decide) ?_
          obtain ⟨e22, he23, hc24⟩ := h
          refine K_call (as := [vR 72]) (st := []) (pc2 := 105) (okL.all _ ⟨(Or.inr ⟨Or.inl ⟨by decide, by decide⟩, by decide⟩), trivial, trivial, trivial⟩) (okS.all _ trivial) (fun ad S Q Qc hC hc k => V_callV (as := []) (st := []) (M' := MX9_next) (ci := 9) (pc2 := 105) (dk D_X5_readSimple 47 rfl) ml_5_77 mv_X9_next rfl rfl (by decide) rfl (Nat.le_of_ble_eq_true rfl) rfl he23 (hC.k' (fixH 72 9 (by decide) rfl)) hc k) hc24 (kRV.k fun  κ25 h mo26 => ?_)
          exact h
        · have h := h.2 q10
          exact h
      · have h := h.2 q3
        exact h
theorem k_5_readSimple_30 {X : Cx} {d : Nat} {κ : Km} {Q : Res → Km → Prop} (x1 : Int32) (x2 : Int32) (h : (((kI κ 72 7) = 210 → K X d MX5_readSimple 50 [(0, vR 77), (1, vI x1), (2, vI x2)] [vI 21] κ Q) ∧ (¬ (kI κ 72 7) = 210 → K X d MX5_readSimple 50 [(0, vR 77), (1, vI x1), (2, vI x2)] [vI 29] κ Q))) : K X d MX5_readSimple 30 [(0, vR 77), (1, vI x1), (2, vI x2)] [] κ Q := by
  refine K_p (pc2 := 31) (lv2 := [(0, vR 77), (1, vI _), (2, vI _)]) (st2 := [vR 77]) (fun ad S Q _ k => V_aload_n (pc2 := 31) (dk D_X5_readSimple 14 rfl) rfl (V_lg 0 rfl) rfl k) ?_
  refine K_getF kc5 (h' := 72) (pc2 := 34) 0 (by decide) (dk D_X5_readSimple 15 rfl) fl_5_9 (by decide) (fun _ _ => rfl) rfl (fixH 77 5 (by decide) rfl) (by decide) ?_
  refine K_getI kc9 (pc2 := 37) 7 (dk D_X5_readSimple 16 rfl) fl_5_41 (by decide) (fun _ _ => rfl) rfl (fixH 72 9 (by decide) rfl) ?_
  refine K_p (pc2 := 40) (lv2 := [(0, vR 77), (1, vI _), (2, vI _)]) (st2 := [vI _, vI _]) (fun ad S Q _ k => V_sipush (x := 210) (pc2 := 40) (dk D_X5_readSimple 17 rfl) (by decide) rfl k) ?_
  refine K_if (pa := 43) (pb := 48) (lv2 := [(0, vR 77), (1, vI _), (2, vI _)]) (st2 := []) (fun ad S Q _ k1 k2 => V_cmpne (tgt := 48) (pc2 := 43) (dk D_X5_readSimple 18 rfl) (by decide) rfl (fun q => k2 q) (fun q => k1 q)) (fun q1 => ?_) (fun q1 => ?_)
  · have h := h.1 q1
    refine K_p (pc2 := 45) (lv2 := [(0, vR 77), (1, vI _), (2, vI _)]) (st2 := [vI _]) (fun ad S Q _ k => V_bipush (x := 21) (pc2 := 45) (dk D_X5_readSimple 19 rfl) (by decide) rfl k) ?_
    refine K_p (pc2 := 50) (lv2 := [(0, vR 77), (1, vI _), (2, vI _)]) (st2 := [vI _]) (fun ad S Q _ k => V_goto (tgt := 50) (dk D_X5_readSimple 20 rfl) (by decide) k) ?_
    exact h
  · have h := h.2 q1
    refine K_p (pc2 := 50) (lv2 := [(0, vR 77), (1, vI _), (2, vI _)]) (st2 := [vI _]) (fun ad S Q _ k => V_bipush (x := 29) (pc2 := 50) (dk D_X5_readSimple 21 rfl) (by decide) rfl k) ?_
    exact h
theorem k_5_readSimple_50 {X : Cx} {d : Nat} {κ : Km} {Q : Res → Km → Prop} (x1 : Int32) (x2 : Int32) (t0 : Int32) (h : ∃ e1 : Nat, e1 + 1 ≤ d ∧ KC' X e1 MX9_next [vR 72] κ (kRV fun  κ4 => K X d MX5_readSimple 105 [(0, vR 77), (1, vI t0), (2, vI x2)] [] κ4 Q)) : K X d MX5_readSimple 50 [(0, vR 77), (1, vI x1), (2, vI x2)] [vI t0] κ Q := by
  refine K_p (pc2 := 51) (lv2 := [(0, vR 77), (1, vI _), (2, vI _)]) (st2 := []) (fun ad S Q _ k => V_istore_n (pc2 := 51) (lv2 := [(0, _), (1, _), (2, _)]) (dk D_X5_readSimple 22 rfl) rfl (by decide) rfl rfl k) ?_
  refine K_p (pc2 := 52) (lv2 := [(0, vR 77), (1, vI _), (2, vI _)]) (st2 := [vR 77]) (fun ad S Q _ k => V_aload_n (pc2 := 52) (dk D_X5_readSimple 23 rfl) rfl (V_lg 0 rfl) rfl k) ?_
  refine K_getF kc5 (h' := 72) (pc2 := 55) 0 (by decide) (dk D_X5_readSimple 24 rfl) fl_5_9 (by decide) (fun _ _ => rfl) rfl (fixH 77 5 (by decide) rfl) (by decide) ?_
  obtain ⟨e1, he2, hc3⟩ := h
  refine K_call (as := [vR 72]) (st := []) (pc2 := 58) (okL.all _ ⟨(Or.inr ⟨Or.inl ⟨by decide, by decide⟩, by decide⟩), trivial, trivial, trivial⟩) (okS.all _ trivial) (fun ad S Q Qc hC hc k => V_callV (as := []) (st := []) (M' := MX9_next) (ci := 9) (pc2 := 58) (dk D_X5_readSimple 25 rfl) ml_5_77 mv_X9_next rfl rfl (by decide) rfl (Nat.le_of_ble_eq_true rfl) rfl he2 (hC.k' (fixH 72 9 (by decide) rfl)) hc k) hc3 (kRV.k fun  κ4 h mo5 => ?_)
  refine K_p (pc2 := 105) (lv2 := [(0, vR 77), (1, vI _), (2, vI _)]) (st2 := []) (fun ad S Q _ k => V_goto (tgt := 105) (dk D_X5_readSimple 26 rfl) (by decide) k) ?_
  exact h
theorem k_5_readSimple_105 {X : Cx} {d : Nat} {κ : Km} {Q : Res → Km → Prop} (x1 : Int32) (x2 : Int32) (h : ∃ e1 : Nat, e1 + 1 ≤ d ∧ KC' X e1 MX5_readComparison [vR 77] κ (kRI fun y4 κ5 => ((y4 = 0 → K X d MX5_readSimple 121 [(0, vR 77), (1, vI x1), (2, vI x2)] [] κ5 Q) ∧ (¬ y4 = 0 → ∃ e8 : Nat, e8 + 1 ≤ d ∧ KC' X e8 MX5_take [vR 77, vI 59] κ5 (kRI fun y11 κ12 => ((y11 = 0 → K X d MX5_readSimple 121 [(0, vR 77), (1, vI x1), (2, vI x2)] [] κ12 Q) ∧ (¬ y11 = 0 → ∃ e15 : Nat, e15 + 1 ≤ d ∧ KC' X e15 MX1_add [vR 68, vI x1, vI x2] κ12 (kRI fun y18 κ19 => Q (.inl (some (vI 1))) κ19)))))))) : K X d MX5_readSimple 105 [(0, vR 77), (1, vI x1), (2, vI x2)] [] κ Q := by
  refine K_p (pc2 := 106) (lv2 := [(0, vR 77), (1, vI _), (2, vI _)]) (st2 := [vR 77]) (fun ad S Q _ k => V_aload_n (pc2 := 106) (dk D_X5_readSimple 48 rfl) rfl (V_lg 0 rfl) rfl k) ?_
  obtain ⟨e1, he2, hc3⟩ := h
  refine K_call (as := [vR 77]) (st := []) (pc2 := 109) (okL.all _ ⟨(Or.inr ⟨Or.inl ⟨by decide, by decide⟩, by decide⟩), trivial, trivial, trivial⟩) (okS.all _ trivial) (fun ad S Q Qc hC hc k => V_callV (as := []) (st := []) (M' := MX5_readComparison) (ci := 5) (pc2 := 109) (dk D_X5_readSimple 49 rfl) ml_5_153 mv_X5_readComparison rfl rfl (by decide) rfl (Nat.le_of_ble_eq_true rfl) rfl he2 (hC.k' (fixH 77 5 (by decide) rfl)) hc k) hc3 (kRI.k fun y4 κ5 h mo6 => ?_)
  refine K_if (pa := 121) (pb := 112) (lv2 := [(0, vR 77), (1, vI _), (2, vI _)]) (st2 := []) (fun ad S Q _ k1 k2 => V_ifeq (tgt := 121) (pc2 := 112) (dk D_X5_readSimple 50 rfl) (by decide) rfl (fun q => k1 q) (fun q => k2 q)) (fun q7 => ?_) (fun q7 => ?_)
  · have h := h.1 q7
    exact h
  · have h := h.2 q7
    refine K_p (pc2 := 113) (lv2 := [(0, vR 77), (1, vI _), (2, vI _)]) (st2 := [vR 77]) (fun ad S Q _ k => V_aload_n (pc2 := 113) (dk D_X5_readSimple 51 rfl) rfl (V_lg 0 rfl) rfl k) ?_
    refine K_p (pc2 := 115) (lv2 := [(0, vR 77), (1, vI _), (2, vI _)]) (st2 := [vI _, vR 77]) (fun ad S Q _ k => V_bipush (x := 59) (pc2 := 115) (dk D_X5_readSimple 52 rfl) (by decide) rfl k) ?_
    obtain ⟨e8, he9, hc10⟩ := h
    refine K_call (as := [vR 77, vI _]) (st := []) (pc2 := 118) (okL.all _ ⟨(Or.inr ⟨Or.inl ⟨by decide, by decide⟩, by decide⟩), trivial, trivial, trivial⟩) (okS.all _ trivial) (fun ad S Q Qc hC hc k => V_callV (as := [_]) (st := []) (M' := MX5_take) (ci := 5) (pc2 := 118) (dk D_X5_readSimple 53 rfl) ml_5_156 mv_X5_take rfl rfl (by decide) rfl (Nat.le_of_ble_eq_true rfl) rfl he9 (hC.k' (fixH 77 5 (by decide) rfl)) hc k) hc10 (kRI.k fun y11 κ12 h mo13 => ?_)
    refine K_if (pa := 121) (pb := 123) (lv2 := [(0, vR 77), (1, vI _), (2, vI _)]) (st2 := []) (fun ad S Q _ k1 k2 => V_ifne (tgt := 123) (pc2 := 121) (dk D_X5_readSimple 54 rfl) (by decide) rfl (fun q => k2 q) (fun q => k1 q)) (fun q14 => ?_) (fun q14 => ?_)
    · have h := h.1 q14
      exact h
    · have h := h.2 q14
      refine K_p (pc2 := 124) (lv2 := [(0, vR 77), (1, vI _), (2, vI _)]) (st2 := [vR 77]) (fun ad S Q _ k => V_aload_n (pc2 := 124) (dk D_X5_readSimple 57 rfl) rfl (V_lg 0 rfl) rfl k) ?_
      refine K_getF kc5 (h' := 68) (pc2 := 127) 2 (by decide) (dk D_X5_readSimple 58 rfl) fl_5_25 (by decide) (fun _ _ => rfl) rfl (fixH 77 5 (by decide) rfl) (by decide) ?_
      refine K_p (pc2 := 128) (lv2 := [(0, vR 77), (1, vI _), (2, vI _)]) (st2 := [vI _, vR 68]) (fun ad S Q _ k => V_iload_n (pc2 := 128) (dk D_X5_readSimple 59 rfl) rfl (V_lg 1 rfl) rfl k) ?_
      refine K_p (pc2 := 129) (lv2 := [(0, vR 77), (1, vI _), (2, vI _)]) (st2 := [vI _, vI _, vR 68]) (fun ad S Q _ k => V_iload_n (pc2 := 129) (dk D_X5_readSimple 60 rfl) rfl (V_lg 2 rfl) rfl k) ?_
      obtain ⟨e15, he16, hc17⟩ := h
      refine K_call (as := [vR 68, vI _, vI _]) (st := []) (pc2 := 132) (okL.all _ ⟨(Or.inr ⟨Or.inl ⟨by decide, by decide⟩, by decide⟩), trivial, trivial, trivial⟩) (okS.all _ trivial) (fun ad S Q Qc hC hc k => V_callV (as := [_, _]) (st := []) (M' := MX1_add) (ci := 1) (pc2 := 132) (dk D_X5_readSimple 61 rfl) ml_5_57 mv_X1_add rfl rfl (by decide) rfl (Nat.le_of_ble_eq_true rfl) rfl he16 (hC.k' (fixH 68 1 (by decide) rfl)) hc k) hc17 (kRI.k fun y18 κ19 h mo20 => ?_)
      refine K_p (pc2 := 133) (lv2 := [(0, vR 77), (1, vI _), (2, vI _)]) (st2 := []) (fun ad S Q _ k => V_pop (pc2 := 133) (dk D_X5_readSimple 62 rfl) rfl rfl k) ?_
      refine K_p (pc2 := 134) (lv2 := [(0, vR 77), (1, vI _), (2, vI _)]) (st2 := [vI _]) (fun ad S Q _ k => V_iconst (x := 1) (pc2 := 134) (dk D_X5_readSimple 63 rfl) (by decide) rfl k) ?_
      exact K_ret (r := .inl (some (vI _))) (fun ad S Q _ k => V_zreturn (dk D_X5_readSimple 64 rfl) rfl (Or.inr rfl) k) h
theorem k_5_readSimple_121 {X : Cx} {d : Nat} {κ : Km} {Q : Res → Km → Prop} (x1 : Int32) (x2 : Int32) (h : Q (.inl (some (vI 0))) κ) : K X d MX5_readSimple 121 [(0, vR 77), (1, vI x1), (2, vI x2)] [] κ Q := by
  refine K_p (pc2 := 122) (lv2 := [(0, vR 77), (1, vI _), (2, vI _)]) (st2 := [vI _]) (fun ad S Q _ k => V_iconst (x := 0) (pc2 := 122) (dk D_X5_readSimple 55 rfl) (by decide) rfl k) ?_
  exact K_ret (r := .inl (some (vI _))) (fun ad S Q _ k => V_zreturn (dk D_X5_readSimple 56 rfl) rfl (Or.inl rfl) k) h
theorem k_5_readReturn_0 {X : Cx} {d : Nat} {κ : Km} {Q : Res → Km → Prop}  (h : ∃ e1 : Nat, e1 + 1 ≤ d ∧ KC' X e1 MX9_next [vR 72] κ (kRV fun  κ4 => (((kI κ4 72 7) = 59 → ∃ e7 : Nat, e7 + 1 ≤ d ∧ KC' X e7 MX1_add [vR 68, vI 1, vI 0] κ4 (kRI fun y10 κ11 => K X d MX5_readReturn 41 [(0, vR 77)] [] κ11 Q)) ∧ (¬ (kI κ4 72 7) = 59 → ∃ e13 : Nat, e13 + 1 ≤ d ∧ KC' X e13 MX5_readComparison [vR 77] κ4 (kRI fun y16 κ17 => ((y16 = 0 → Q (.inl (some (vI 0))) κ17) ∧ (¬ y16 = 0 → K X d MX5_readReturn 41 [(0, vR 77)] [] κ17 Q))))))) : K X d MX5_readReturn 0 [(0, vR 77)] [] κ Q := by
  refine K_p (pc2 := 1) (lv2 := [(0, vR 77)]) (st2 := [vR 77]) (fun ad S Q _ k => V_aload_n (pc2 := 1) (dk D_X5_readReturn 0 rfl) rfl (V_lg 0 rfl) rfl k) ?_
  refine K_getF kc5 (h' := 72) (pc2 := 4) 0 (by decide) (dk D_X5_readReturn 1 rfl) fl_5_9 (by decide) (fun _ _ => rfl) rfl (fixH 77 5 (by decide) rfl) (by decide) ?_
  obtain ⟨e1, he2, hc3⟩ := h
  refine K_call (as := [vR 72]) (st := []) (pc2 := 7) (okL.all _ ⟨(Or.inr ⟨Or.inl ⟨by decide, by decide⟩, by decide⟩), trivial⟩) (okS.all _ trivial) (fun ad S Q Qc hC hc k => V_callV (as := []) (st := []) (M' := MX9_next) (ci := 9) (pc2 := 7) (dk D_X5_readReturn 2 rfl) ml_5_77 mv_X9_next rfl rfl (by decide) rfl (Nat.le_of_ble_eq_true rfl) rfl he2 (hC.k' (fixH 72 9 (by decide) rfl)) hc k) hc3 (kRV.k fun  κ4 h mo5 => ?_)
  refine K_p (pc2 := 8) (lv2 := [(0, vR 77)]) (st2 := [vR 77]) (fun ad S Q _ k => V_aload_n (pc2 := 8) (dk D_X5_readReturn 3 rfl) rfl (V_lg 0 rfl) rfl k) ?_
  refine K_getF kc5 (h' := 72) (pc2 := 11) 0 (by decide) (dk D_X5_readReturn 4 rfl) fl_5_9 (by decide) (fun _ _ => rfl) rfl (fixH 77 5 (by decide) rfl) (by decide) ?_
  refine K_getI kc9 (pc2 := 14) 7 (dk D_X5_readReturn 5 rfl) fl_5_41 (by decide) (fun _ _ => rfl) rfl (fixH 72 9 (by decide) rfl) ?_
  refine K_p (pc2 := 16) (lv2 := [(0, vR 77)]) (st2 := [vI _, vI _]) (fun ad S Q _ k => V_bipush (x := 59) (pc2 := 16) (dk D_X5_readReturn 6 rfl) (by decide) rfl k) ?_
  refine K_if (pa := 19) (pb := 32) (lv2 := [(0, vR 77)]) (st2 := []) (fun ad S Q _ k1 k2 => V_cmpne (tgt := 32) (pc2 := 19) (dk D_X5_readReturn 7 rfl) (by decide) rfl (fun q => k2 q) (fun q => k1 q)) (fun q6 => ?_) (fun q6 => ?_)
  · have h := h.1 q6
    refine K_p (pc2 := 20) (lv2 := [(0, vR 77)]) (st2 := [vR 77]) (fun ad S Q _ k => V_aload_n (pc2 := 20) (dk D_X5_readReturn 8 rfl) rfl (V_lg 0 rfl) rfl k) ?_
    refine K_getF kc5 (h' := 68) (pc2 := 23) 2 (by decide) (dk D_X5_readReturn 9 rfl) fl_5_25 (by decide) (fun _ _ => rfl) rfl (fixH 77 5 (by decide) rfl) (by decide) ?_
    refine K_p (pc2 := 24) (lv2 := [(0, vR 77)]) (st2 := [vI _, vR 68]) (fun ad S Q _ k => V_iconst (x := 1) (pc2 := 24) (dk D_X5_readReturn 10 rfl) (by decide) rfl k) ?_
    refine K_p (pc2 := 25) (lv2 := [(0, vR 77)]) (st2 := [vI _, vI _, vR 68]) (fun ad S Q _ k => V_iconst (x := 0) (pc2 := 25) (dk D_X5_readReturn 11 rfl) (by decide) rfl k) ?_
    obtain ⟨e7, he8, hc9⟩ := h
    refine K_call (as := [vR 68, vI _, vI _]) (st := []) (pc2 := 28) (okL.all _ ⟨(Or.inr ⟨Or.inl ⟨by decide, by decide⟩, by decide⟩), trivial⟩) (okS.all _ trivial) (fun ad S Q Qc hC hc k => V_callV (as := [_, _]) (st := []) (M' := MX1_add) (ci := 1) (pc2 := 28) (dk D_X5_readReturn 12 rfl) ml_5_57 mv_X1_add rfl rfl (by decide) rfl (Nat.le_of_ble_eq_true rfl) rfl he8 (hC.k' (fixH 68 1 (by decide) rfl)) hc k) hc9 (kRI.k fun y10 κ11 h mo12 => ?_)
    refine K_p (pc2 := 29) (lv2 := [(0, vR 77)]) (st2 := []) (fun ad S Q _ k => V_pop (pc2 := 29) (dk D_X5_readReturn 13 rfl) rfl rfl k) ?_
    refine K_p (pc2 := 41) (lv2 := [(0, vR 77)]) (st2 := []) (fun ad S Q _ k => V_goto (tgt := 41) (dk D_X5_readReturn 14 rfl) (by decide) k) ?_
    exact h
  · have h := h.2 q6
    refine K_p (pc2 := 33) (lv2 := [(0, vR 77)]) (st2 := [vR 77]) (fun ad S Q _ k => V_aload_n (pc2 := 33) (dk D_X5_readReturn 15 rfl) rfl (V_lg 0 rfl) rfl k) ?_
    obtain ⟨e13, he14, hc15⟩ := h
    refine K_call (as := [vR 77]) (st := []) (pc2 := 36) (okL.all _ ⟨(Or.inr ⟨Or.inl ⟨by decide, by decide⟩, by decide⟩), trivial⟩) (okS.all _ trivial) (fun ad S Q Qc hC hc k => V_callV (as := []) (st := []) (M' := MX5_readComparison) (ci := 5) (pc2 := 36) (dk D_X5_readReturn 16 rfl) ml_5_153 mv_X5_readComparison rfl rfl (by decide) rfl (Nat.le_of_ble_eq_true rfl) rfl he14 (hC.k' (fixH 77 5 (by decide) rfl)) hc k) hc15 (kRI.k fun y16 κ17 h mo18 => ?_)
    refine K_if (pa := 39) (pb := 41) (lv2 := [(0, vR 77)]) (st2 := []) (fun ad S Q _ k1 k2 => V_ifne (tgt := 41) (pc2 := 39) (dk D_X5_readReturn 17 rfl) (by decide) rfl (fun q => k2 q) (fun q => k1 q)) (fun q19 => ?_) (fun q19 => ?_)
    · have h := h.1 q19
      refine K_p (pc2 := 40) (lv2 := [(0, vR 77)]) (st2 := [vI _]) (fun ad S Q _ k => V_iconst (x := 0) (pc2 := 40) (dk D_X5_readReturn 18 rfl) (by decide) rfl k) ?_
      exact K_ret (r := .inl (some (vI _))) (fun ad S Q _ k => V_zreturn (dk D_X5_readReturn 19 rfl) rfl (Or.inl rfl) k) h
    · have h := h.2 q19
      exact h
theorem k_5_readReturn_41 {X : Cx} {d : Nat} {κ : Km} {Q : Res → Km → Prop}  (h : ∃ e1 : Nat, e1 + 1 ≤ d ∧ KC' X e1 MX1_add [vR 68, vI 46, vI 0] κ (kRI fun y4 κ5 => ∃ e7 : Nat, e7 + 1 ≤ d ∧ KC' X e7 MX5_take [vR 77, vI 59] κ5 (kRI fun y10 κ11 => (y10 = 0 ∨ y10 = 1) ∧ Q (.inl (some (vI y10))) κ11))) : K X d MX5_readReturn 41 [(0, vR 77)] [] κ Q := by
  refine K_p (pc2 := 42) (lv2 := [(0, vR 77)]) (st2 := [vR 77]) (fun ad S Q _ k => V_aload_n (pc2 := 42) (dk D_X5_readReturn 20 rfl) rfl (V_lg 0 rfl) rfl k) ?_
  refine K_getF kc5 (h' := 68) (pc2 := 45) 2 (by decide) (dk D_X5_readReturn 21 rfl) fl_5_25 (by decide) (fun _ _ => rfl) rfl (fixH 77 5 (by decide) rfl) (by decide) ?_
  refine K_p (pc2 := 47) (lv2 := [(0, vR 77)]) (st2 := [vI _, vR 68]) (fun ad S Q _ k => V_bipush (x := 46) (pc2 := 47) (dk D_X5_readReturn 22 rfl) (by decide) rfl k) ?_
  refine K_p (pc2 := 48) (lv2 := [(0, vR 77)]) (st2 := [vI _, vI _, vR 68]) (fun ad S Q _ k => V_iconst (x := 0) (pc2 := 48) (dk D_X5_readReturn 23 rfl) (by decide) rfl k) ?_
  obtain ⟨e1, he2, hc3⟩ := h
  refine K_call (as := [vR 68, vI _, vI _]) (st := []) (pc2 := 51) (okL.all _ ⟨(Or.inr ⟨Or.inl ⟨by decide, by decide⟩, by decide⟩), trivial⟩) (okS.all _ trivial) (fun ad S Q Qc hC hc k => V_callV (as := [_, _]) (st := []) (M' := MX1_add) (ci := 1) (pc2 := 51) (dk D_X5_readReturn 24 rfl) ml_5_57 mv_X1_add rfl rfl (by decide) rfl (Nat.le_of_ble_eq_true rfl) rfl he2 (hC.k' (fixH 68 1 (by decide) rfl)) hc k) hc3 (kRI.k fun y4 κ5 h mo6 => ?_)
  refine K_p (pc2 := 52) (lv2 := [(0, vR 77)]) (st2 := []) (fun ad S Q _ k => V_pop (pc2 := 52) (dk D_X5_readReturn 25 rfl) rfl rfl k) ?_
  refine K_p (pc2 := 53) (lv2 := [(0, vR 77)]) (st2 := [vR 77]) (fun ad S Q _ k => V_aload_n (pc2 := 53) (dk D_X5_readReturn 26 rfl) rfl (V_lg 0 rfl) rfl k) ?_
  refine K_p (pc2 := 55) (lv2 := [(0, vR 77)]) (st2 := [vI _, vR 77]) (fun ad S Q _ k => V_bipush (x := 59) (pc2 := 55) (dk D_X5_readReturn 27 rfl) (by decide) rfl k) ?_
  obtain ⟨e7, he8, hc9⟩ := h
  refine K_call (as := [vR 77, vI _]) (st := []) (pc2 := 58) (okL.all _ ⟨(Or.inr ⟨Or.inl ⟨by decide, by decide⟩, by decide⟩), trivial⟩) (okS.all _ trivial) (fun ad S Q Qc hC hc k => V_callV (as := [_]) (st := []) (M' := MX5_take) (ci := 5) (pc2 := 58) (dk D_X5_readReturn 28 rfl) ml_5_156 mv_X5_take rfl rfl (by decide) rfl (Nat.le_of_ble_eq_true rfl) rfl he8 (hC.k' (fixH 77 5 (by decide) rfl)) hc k) hc9 (kRI.k fun y10 κ11 h mo12 => ?_)
  obtain ⟨h13, h⟩ := h
  exact K_ret (r := .inl (some (vI _))) (fun ad S Q _ k => V_zreturn (dk D_X5_readReturn 29 rfl) rfl h13 k) h
theorem k_5_readThrow_0 {X : Cx} {d : Nat} {κ : Km} {Q : Res → Km → Prop}  (h : ∃ e1 : Nat, e1 + 1 ≤ d ∧ KC' X e1 MX9_next [vR 72] κ (kRV fun  κ4 => ∃ e6 : Nat, e6 + 1 ≤ d ∧ KC' X e6 MX5_isNumber [vR 77] κ4 (kRI fun y9 κ10 => ((y9 = 0 → Q (.inl (some (vI 0))) κ10) ∧ (¬ y9 = 0 → ∃ e13 : Nat, e13 + 1 ≤ d ∧ KC' X e13 MX5_numberHere [vR 77] κ10 (kRI fun y16 κ17 => ∃ e19 : Nat, e19 + 1 ≤ d ∧ KC' X e19 MX9_next [vR 72] κ17 (kRV fun  κ22 => ∃ e24 : Nat, e24 + 1 ≤ d ∧ KC' X e24 MX5_readComparison [vR 77] κ22 (kRI fun y27 κ28 => ((y27 = 0 → Q (.inl (some (vI 0))) κ28) ∧ (¬ y27 = 0 → ∃ e31 : Nat, e31 + 1 ≤ d ∧ KC' X e31 MX1_add [vR 68, vI 47, vI (y16 - y16 / 10 * 10)] κ28 (kRI fun y34 κ35 => ∃ e37 : Nat, e37 + 1 ≤ d ∧ KC' X e37 MX5_take [vR 77, vI 59] κ35 (kRI fun y40 κ41 => (y40 = 0 ∨ y40 = 1) ∧ Q (.inl (some (vI y40))) κ41)))))))))))) : K X d MX5_readThrow 0 [(0, vR 77)] [] κ Q := by
  refine K_p (pc2 := 1) (lv2 := [(0, vR 77)]) (st2 := [vR 77]) (fun ad S Q _ k => V_aload_n (pc2 := 1) (dk D_X5_readThrow 0 rfl) rfl (V_lg 0 rfl) rfl k) ?_
  refine K_getF kc5 (h' := 72) (pc2 := 4) 0 (by decide) (dk D_X5_readThrow 1 rfl) fl_5_9 (by decide) (fun _ _ => rfl) rfl (fixH 77 5 (by decide) rfl) (by decide) ?_
  obtain ⟨e1, he2, hc3⟩ := h
  refine K_call (as := [vR 72]) (st := []) (pc2 := 7) (okL.all _ ⟨(Or.inr ⟨Or.inl ⟨by decide, by decide⟩, by decide⟩), trivial⟩) (okS.all _ trivial) (fun ad S Q Qc hC hc k => V_callV (as := []) (st := []) (M' := MX9_next) (ci := 9) (pc2 := 7) (dk D_X5_readThrow 2 rfl) ml_5_77 mv_X9_next rfl rfl (by decide) rfl (Nat.le_of_ble_eq_true rfl) rfl he2 (hC.k' (fixH 72 9 (by decide) rfl)) hc k) hc3 (kRV.k fun  κ4 h mo5 => ?_)
  refine K_p (pc2 := 8) (lv2 := [(0, vR 77)]) (st2 := [vR 77]) (fun ad S Q _ k => V_aload_n (pc2 := 8) (dk D_X5_readThrow 3 rfl) rfl (V_lg 0 rfl) rfl k) ?_
  obtain ⟨e6, he7, hc8⟩ := h
  refine K_call (as := [vR 77]) (st := []) (pc2 := 11) (okL.all _ ⟨(Or.inr ⟨Or.inl ⟨by decide, by decide⟩, by decide⟩), trivial⟩) (okS.all _ trivial) (fun ad S Q Qc hC hc k => V_callV (as := []) (st := []) (M' := MX5_isNumber) (ci := 5) (pc2 := 11) (dk D_X5_readThrow 4 rfl) ml_5_159 mv_X5_isNumber rfl rfl (by decide) rfl (Nat.le_of_ble_eq_true rfl) rfl he7 (hC.k' (fixH 77 5 (by decide) rfl)) hc k) hc8 (kRI.k fun y9 κ10 h mo11 => ?_)
  refine K_if (pa := 14) (pb := 16) (lv2 := [(0, vR 77)]) (st2 := []) (fun ad S Q _ k1 k2 => V_ifne (tgt := 16) (pc2 := 14) (dk D_X5_readThrow 5 rfl) (by decide) rfl (fun q => k2 q) (fun q => k1 q)) (fun q12 => ?_) (fun q12 => ?_)
  · have h := h.1 q12
    refine K_p (pc2 := 15) (lv2 := [(0, vR 77)]) (st2 := [vI _]) (fun ad S Q _ k => V_iconst (x := 0) (pc2 := 15) (dk D_X5_readThrow 6 rfl) (by decide) rfl k) ?_
    exact K_ret (r := .inl (some (vI _))) (fun ad S Q _ k => V_zreturn (dk D_X5_readThrow 7 rfl) rfl (Or.inl rfl) k) h
  · have h := h.2 q12
    refine K_p (pc2 := 17) (lv2 := [(0, vR 77)]) (st2 := [vR 77]) (fun ad S Q _ k => V_aload_n (pc2 := 17) (dk D_X5_readThrow 8 rfl) rfl (V_lg 0 rfl) rfl k) ?_
    obtain ⟨e13, he14, hc15⟩ := h
    refine K_call (as := [vR 77]) (st := []) (pc2 := 20) (okL.all _ ⟨(Or.inr ⟨Or.inl ⟨by decide, by decide⟩, by decide⟩), trivial⟩) (okS.all _ trivial) (fun ad S Q Qc hC hc k => V_callV (as := []) (st := []) (M' := MX5_numberHere) (ci := 5) (pc2 := 20) (dk D_X5_readThrow 9 rfl) ml_5_162 mv_X5_numberHere rfl rfl (by decide) rfl (Nat.le_of_ble_eq_true rfl) rfl he14 (hC.k' (fixH 77 5 (by decide) rfl)) hc k) hc15 (kRI.k fun y16 κ17 h mo18 => ?_)
    refine K_p (pc2 := 22) (lv2 := [(0, vR 77)]) (st2 := [vI _, vI _]) (fun ad S Q _ k => V_bipush (x := 10) (pc2 := 22) (dk D_X5_readThrow 10 rfl) (by decide) rfl k) ?_
    refine K_p (pc2 := 23) (lv2 := [(0, vR 77)]) (st2 := [vI _]) (fun ad S Q _ k => V_irem (pc2 := 23) (dk D_X5_readThrow 11 rfl) rfl (by decide) k) ?_
    refine K_p (pc2 := 24) (lv2 := [(0, vR 77), (1, vI _)]) (st2 := []) (fun ad S Q _ k => V_istore_n (pc2 := 24) (lv2 := [(0, _), (1, _)]) (dk D_X5_readThrow 12 rfl) rfl (by decide) rfl rfl k) ?_
    refine K_p (pc2 := 25) (lv2 := [(0, vR 77), (1, vI _)]) (st2 := [vR 77]) (fun ad S Q _ k => V_aload_n (pc2 := 25) (dk D_X5_readThrow 13 rfl) rfl (V_lg 0 rfl) rfl k) ?_
    refine K_getF kc5 (h' := 72) (pc2 := 28) 0 (by decide) (dk D_X5_readThrow 14 rfl) fl_5_9 (by decide) (fun _ _ => rfl) rfl (fixH 77 5 (by decide) rfl) (by decide) ?_
    obtain ⟨e19, he20, hc21⟩ := h
    refine K_call (as := [vR 72]) (st := []) (pc2 := 31) (okL.all _ ⟨(Or.inr ⟨Or.inl ⟨by decide, by decide⟩, by decide⟩), trivial, trivial⟩) (okS.all _ trivial) (fun ad S Q Qc hC hc k => V_callV (as := []) (st := []) (M' := MX9_next) (ci := 9) (pc2 := 31) (dk D_X5_readThrow 15 rfl) ml_5_77 mv_X9_next rfl rfl (by decide) rfl (Nat.le_of_ble_eq_true rfl) rfl he20 (hC.k' (fixH 72 9 (by decide) rfl)) hc k) hc21 (kRV.k fun  κ22 h mo23 => ?_)
    refine K_p (pc2 := 32) (lv2 := [(0, vR 77), (1, vI _)]) (st2 := [vR 77]) (fun ad S Q _ k => V_aload_n (pc2 := 32) (dk D_X5_readThrow 16 rfl) rfl (V_lg 0 rfl) rfl k) ?_
    obtain ⟨e24, he25, hc26⟩ := h
    refine K_call (as := [vR 77]) (st := []) (pc2 := 35) (okL.all _ ⟨(Or.inr ⟨Or.inl ⟨by decide, by decide⟩, by decide⟩), trivial, trivial⟩) (okS.all _ trivial) (fun ad S Q Qc hC hc k => V_callV (as := []) (st := []) (M' := MX5_readComparison) (ci := 5) (pc2 := 35) (dk D_X5_readThrow 17 rfl) ml_5_153 mv_X5_readComparison rfl rfl (by decide) rfl (Nat.le_of_ble_eq_true rfl) rfl he25 (hC.k' (fixH 77 5 (by decide) rfl)) hc k) hc26 (kRI.k fun y27 κ28 h mo29 => ?_)
    refine K_if (pa := 38) (pb := 40) (lv2 := [(0, vR 77), (1, vI _)]) (st2 := []) (fun ad S Q _ k1 k2 => V_ifne (tgt := 40) (pc2 := 38) (dk D_X5_readThrow 18 rfl) (by decide) rfl (fun q => k2 q) (fun q => k1 q)) (fun q30 => ?_) (fun q30 => ?_)
    · have h := h.1 q30
      refine K_p (pc2 := 39) (lv2 := [(0, vR 77), (1, vI _)]) (st2 := [vI _]) (fun ad S Q _ k => V_iconst (x := 0) (pc2 := 39) (dk D_X5_readThrow 19 rfl) (by decide) rfl k) ?_
      exact K_ret (r := .inl (some (vI _))) (fun ad S Q _ k => V_zreturn (dk D_X5_readThrow 20 rfl) rfl (Or.inl rfl) k) h
    · have h := h.2 q30
      refine K_p (pc2 := 41) (lv2 := [(0, vR 77), (1, vI _)]) (st2 := [vR 77]) (fun ad S Q _ k => V_aload_n (pc2 := 41) (dk D_X5_readThrow 21 rfl) rfl (V_lg 0 rfl) rfl k) ?_
      refine K_getF kc5 (h' := 68) (pc2 := 44) 2 (by decide) (dk D_X5_readThrow 22 rfl) fl_5_25 (by decide) (fun _ _ => rfl) rfl (fixH 77 5 (by decide) rfl) (by decide) ?_
      refine K_p (pc2 := 46) (lv2 := [(0, vR 77), (1, vI _)]) (st2 := [vI _, vR 68]) (fun ad S Q _ k => V_bipush (x := 47) (pc2 := 46) (dk D_X5_readThrow 23 rfl) (by decide) rfl k) ?_
      refine K_p (pc2 := 47) (lv2 := [(0, vR 77), (1, vI _)]) (st2 := [vI _, vI _, vR 68]) (fun ad S Q _ k => V_iload_n (pc2 := 47) (dk D_X5_readThrow 24 rfl) rfl (V_lg 1 rfl) rfl k) ?_
      obtain ⟨e31, he32, hc33⟩ := h
      refine K_call (as := [vR 68, vI _, vI _]) (st := []) (pc2 := 50) (okL.all _ ⟨(Or.inr ⟨Or.inl ⟨by decide, by decide⟩, by decide⟩), trivial, trivial⟩) (okS.all _ trivial) (fun ad S Q Qc hC hc k => V_callV (as := [_, _]) (st := []) (M' := MX1_add) (ci := 1) (pc2 := 50) (dk D_X5_readThrow 25 rfl) ml_5_57 mv_X1_add rfl rfl (by decide) rfl (Nat.le_of_ble_eq_true rfl) rfl he32 (hC.k' (fixH 68 1 (by decide) rfl)) hc k) hc33 (kRI.k fun y34 κ35 h mo36 => ?_)
      refine K_p (pc2 := 51) (lv2 := [(0, vR 77), (1, vI _)]) (st2 := []) (fun ad S Q _ k => V_pop (pc2 := 51) (dk D_X5_readThrow 26 rfl) rfl rfl k) ?_
      refine K_p (pc2 := 52) (lv2 := [(0, vR 77), (1, vI _)]) (st2 := [vR 77]) (fun ad S Q _ k => V_aload_n (pc2 := 52) (dk D_X5_readThrow 27 rfl) rfl (V_lg 0 rfl) rfl k) ?_
      refine K_p (pc2 := 54) (lv2 := [(0, vR 77), (1, vI _)]) (st2 := [vI _, vR 77]) (fun ad S Q _ k => V_bipush (x := 59) (pc2 := 54) (dk D_X5_readThrow 28 rfl) (by decide) rfl k) ?_
      obtain ⟨e37, he38, hc39⟩ := h
      refine K_call (as := [vR 77, vI _]) (st := []) (pc2 := 57) (okL.all _ ⟨(Or.inr ⟨Or.inl ⟨by decide, by decide⟩, by decide⟩), trivial, trivial⟩) (okS.all _ trivial) (fun ad S Q Qc hC hc k => V_callV (as := [_]) (st := []) (M' := MX5_take) (ci := 5) (pc2 := 57) (dk D_X5_readThrow 29 rfl) ml_5_156 mv_X5_take rfl rfl (by decide) rfl (Nat.le_of_ble_eq_true rfl) rfl he38 (hC.k' (fixH 77 5 (by decide) rfl)) hc k) hc39 (kRI.k fun y40 κ41 h mo42 => ?_)
      obtain ⟨h43, h⟩ := h
      exact K_ret (r := .inl (some (vI _))) (fun ad S Q _ k => V_zreturn (dk D_X5_readThrow 30 rfl) rfl h43 k) h
theorem k_5_declareHere_0 {X : Cx} {d : Nat} {κ : Km} {Q : Res → Km → Prop}  (h : (isH κ (kC κ) 0) ∧ ∃ e1 : Nat, e1 + 1 ≤ d ∧ KC' X e1 MX9_index [vR 72] κ (kRI fun y4 κ6 => ∃ e8 : Nat, e8 + 1 ≤ d ∧ KC' X e8 MX9_valueOf [vR 72, vI y4] κ6 (kRJ fun w11 κ12 => ∃ e14 : Nat, e14 + 1 ≤ d ∧ KC' X e14 MX0_declare [vR (kC κ), vL w11, vI (kI κ12 72 8)] κ12 (kRV fun  κ17 => ∃ e19 : Nat, e19 + 1 ≤ d ∧ KC' X e19 MX9_index [vR 72] κ17 (kRI fun y22 κ23 => Q (.inl (some (vI ((-1) - y22)))) κ23))))) : K X d MX5_declareHere 0 [(0, vR 77)] [] κ Q := by
  refine K_p (pc2 := 1) (lv2 := [(0, vR 77)]) (st2 := [vR 77]) (fun ad S Q _ k => V_aload_n (pc2 := 1) (dk D_X5_declareHere 0 rfl) rfl (V_lg 0 rfl) rfl k) ?_
  refine K_getC (pc2 := 4) (dk D_X5_declareHere 1 rfl) fl_5_51 rfl ?_
  refine K_p (pc2 := 5) (lv2 := [(0, vR 77)]) (st2 := [vR 77, vR _]) (fun ad S Q _ k => V_aload_n (pc2 := 5) (dk D_X5_declareHere 2 rfl) rfl (V_lg 0 rfl) rfl k) ?_
  refine K_getF kc5 (h' := 72) (pc2 := 8) 0 (by decide) (dk D_X5_declareHere 3 rfl) fl_5_9 (by decide) (fun _ _ => rfl) rfl (fixH 77 5 (by decide) rfl) (by decide) ?_
  refine K_p (pc2 := 9) (lv2 := [(0, vR 77)]) (st2 := [vR 77, vR 72, vR _]) (fun ad S Q _ k => V_aload_n (pc2 := 9) (dk D_X5_declareHere 4 rfl) rfl (V_lg 0 rfl) rfl k) ?_
  refine K_getF kc5 (h' := 72) (pc2 := 12) 0 (by decide) (dk D_X5_declareHere 5 rfl) fl_5_9 (by decide) (fun _ _ => rfl) rfl (fixH 77 5 (by decide) rfl) (by decide) ?_
  obtain ⟨h5, h⟩ := h
  obtain ⟨e1, he2, hc3⟩ := h
  refine K_call (as := [vR 72]) (st := [vR 72, vR _]) (pc2 := 15) (okL.all _ ⟨(Or.inr ⟨Or.inl ⟨by decide, by decide⟩, by decide⟩), trivial⟩) (okS.all _ ⟨(Or.inr ⟨Or.inl ⟨by decide, by decide⟩, by decide⟩), (isH.ok h5 (by decide)), trivial⟩) (fun ad S Q Qc hC hc k => V_callV (as := []) (st := [_, _]) (M' := MX9_index) (ci := 9) (pc2 := 15) (dk D_X5_declareHere 6 rfl) ml_5_80 mv_X9_index rfl rfl (by decide) rfl (Nat.le_of_ble_eq_true rfl) rfl he2 (hC.k' (fixH 72 9 (by decide) rfl)) hc k) hc3 (kRI.k fun y4 κ6 h mo7 => ?_)
  obtain ⟨e8, he9, hc10⟩ := h
  refine K_call (as := [vR 72, vI _]) (st := [vR _]) (pc2 := 18) (okL.all _ ⟨(Or.inr ⟨Or.inl ⟨by decide, by decide⟩, by decide⟩), trivial⟩) (okS.all _ ⟨(isH.ok (isH.mo h5 (by decide) mo7) (by decide)), trivial⟩) (fun ad S Q Qc hC hc k => V_callV (as := [_]) (st := [_]) (M' := MX9_valueOf) (ci := 9) (pc2 := 18) (dk D_X5_declareHere 7 rfl) ml_5_83 mv_X9_valueOf rfl rfl (by decide) rfl (Nat.le_of_ble_eq_true rfl) rfl he9 (hC.k' (fixH 72 9 (by decide) rfl)) hc k) hc10 (kRJ.k fun w11 κ12 h mo13 => ?_)
  refine K_p (pc2 := 19) (lv2 := [(0, vR 77)]) (st2 := [vR 77, vL _, vR _]) (fun ad S Q _ k => V_aload_n (pc2 := 19) (dk D_X5_declareHere 8 rfl) rfl (V_lg 0 rfl) rfl k) ?_
  refine K_getF kc5 (h' := 72) (pc2 := 22) 0 (by decide) (dk D_X5_declareHere 9 rfl) fl_5_9 (by decide) (fun _ _ => rfl) rfl (fixH 77 5 (by decide) rfl) (by decide) ?_
  refine K_getI kc9 (pc2 := 25) 8 (dk D_X5_declareHere 10 rfl) fl_5_70 (by decide) (fun _ _ => rfl) rfl (fixH 72 9 (by decide) rfl) ?_
  obtain ⟨e14, he15, hc16⟩ := h
  refine K_call (as := [vR _, vL _, vI _]) (st := []) (pc2 := 28) (okL.all _ ⟨(Or.inr ⟨Or.inl ⟨by decide, by decide⟩, by decide⟩), trivial⟩) (okS.all _ trivial) (fun ad S Q Qc hC hc k => V_callV (as := [_, _]) (st := []) (M' := MX0_declare) (ci := 0) (pc2 := 28) (dk D_X5_declareHere 11 rfl) ml_5_116 mv_X0_declare rfl rfl (by decide) rfl (Nat.le_of_ble_eq_true rfl) rfl he15 (hC.k' (isH.mo (isH.mo h5 (by decide) mo7) (by decide) mo13)) hc k) hc16 (kRV.k fun  κ17 h mo18 => ?_)
  refine K_p (pc2 := 29) (lv2 := [(0, vR 77)]) (st2 := [vI _]) (fun ad S Q _ k => V_iconst (x := (-1)) (pc2 := 29) (dk D_X5_declareHere 12 rfl) (by decide) rfl k) ?_
  refine K_p (pc2 := 30) (lv2 := [(0, vR 77)]) (st2 := [vR 77, vI _]) (fun ad S Q _ k => V_aload_n (pc2 := 30) (dk D_X5_declareHere 13 rfl) rfl (V_lg 0 rfl) rfl k) ?_
  refine K_getF kc5 (h' := 72) (pc2 := 33) 0 (by decide) (dk D_X5_declareHere 14 rfl) fl_5_9 (by decide) (fun _ _ => rfl) rfl (fixH 77 5 (by decide) rfl) (by decide) ?_
  obtain ⟨e19, he20, hc21⟩ := h
  refine K_call (as := [vR 72]) (st := [vI _]) (pc2 := 36) (okL.all _ ⟨(Or.inr ⟨Or.inl ⟨by decide, by decide⟩, by decide⟩), trivial⟩) (okS.all _ ⟨trivial, trivial⟩) (fun ad S Q Qc hC hc k => V_callV (as := []) (st := [_]) (M' := MX9_index) (ci := 9) (pc2 := 36) (dk D_X5_declareHere 15 rfl) ml_5_80 mv_X9_index rfl rfl (by decide) rfl (Nat.le_of_ble_eq_true rfl) rfl he20 (hC.k' (fixH 72 9 (by decide) rfl)) hc k) hc21 (kRI.k fun y22 κ23 h mo24 => ?_)
  refine K_p (pc2 := 37) (lv2 := [(0, vR 77)]) (st2 := [vI _]) (fun ad S Q _ k => V_isub (pc2 := 37) (dk D_X5_declareHere 16 rfl) rfl k) ?_
  exact K_ret (r := .inl (some (vI _))) (fun ad S Q _ k => V_ireturn (dk D_X5_declareHere 17 rfl) rfl k) h
theorem k_5_readCondition_0 {X : Cx} {d : Nat} {κ : Km} {Q : Res → Km → Prop}  (h : ∃ e1 : Nat, e1 + 1 ≤ d ∧ KC' X e1 MX5_takeOpening [vR 77, vI 40] κ (kRI fun y4 κ5 => ((y4 = 0 → K X d MX5_readCondition 29 [(0, vR 77)] [] κ5 Q) ∧ (¬ y4 = 0 → ∃ e8 : Nat, e8 + 1 ≤ d ∧ KC' X e8 MX5_readComparison [vR 77] κ5 (kRI fun y11 κ12 => ((y11 = 0 → K X d MX5_readCondition 29 [(0, vR 77)] [] κ12 Q) ∧ (¬ y11 = 0 → ∃ e15 : Nat, e15 + 1 ≤ d ∧ KC' X e15 MX5_takeClosing [vR 77, vI 41] κ12 (kRI fun y18 κ19 => ((y18 = 0 → K X d MX5_readCondition 29 [(0, vR 77)] [] κ19 Q) ∧ (¬ y18 = 0 → K X d MX5_readCondition 30 [(0, vR 77)] [vI 1] κ19 Q)))))))))) : K X d MX5_readCondition 0 [(0, vR 77)] [] κ Q := by
  refine K_p (pc2 := 1) (lv2 := [(0, vR 77)]) (st2 := [vR 77]) (fun ad S Q _ k => V_aload_n (pc2 := 1) (dk D_X5_readCondition 0 rfl) rfl (V_lg 0 rfl) rfl k) ?_
  refine K_p (pc2 := 3) (lv2 := [(0, vR 77)]) (st2 := [vI _, vR 77]) (fun ad S Q _ k => V_bipush (x := 40) (pc2 := 3) (dk D_X5_readCondition 1 rfl) (by decide) rfl k) ?_
  obtain ⟨e1, he2, hc3⟩ := h
  refine K_call (as := [vR 77, vI _]) (st := []) (pc2 := 6) (okL.all _ ⟨(Or.inr ⟨Or.inl ⟨by decide, by decide⟩, by decide⟩), trivial⟩) (okS.all _ trivial) (fun ad S Q Qc hC hc k => V_callV (as := [_]) (st := []) (M' := MX5_takeOpening) (ci := 5) (pc2 := 6) (dk D_X5_readCondition 2 rfl) ml_5_105 mv_X5_takeOpening rfl rfl (by decide) rfl (Nat.le_of_ble_eq_true rfl) rfl he2 (hC.k' (fixH 77 5 (by decide) rfl)) hc k) hc3 (kRI.k fun y4 κ5 h mo6 => ?_)
  refine K_if (pa := 29) (pb := 9) (lv2 := [(0, vR 77)]) (st2 := []) (fun ad S Q _ k1 k2 => V_ifeq (tgt := 29) (pc2 := 9) (dk D_X5_readCondition 3 rfl) (by decide) rfl (fun q => k1 q) (fun q => k2 q)) (fun q7 => ?_) (fun q7 => ?_)
  · have h := h.1 q7
    exact h
  · have h := h.2 q7
    refine K_p (pc2 := 10) (lv2 := [(0, vR 77)]) (st2 := [vR 77]) (fun ad S Q _ k => V_aload_n (pc2 := 10) (dk D_X5_readCondition 4 rfl) rfl (V_lg 0 rfl) rfl k) ?_
    obtain ⟨e8, he9, hc10⟩ := h
    refine K_call (as := [vR 77]) (st := []) (pc2 := 13) (okL.all _ ⟨(Or.inr ⟨Or.inl ⟨by decide, by decide⟩, by decide⟩), trivial⟩) (okS.all _ trivial) (fun ad S Q Qc hC hc k => V_callV (as := []) (st := []) (M' := MX5_readComparison) (ci := 5) (pc2 := 13) (dk D_X5_readCondition 5 rfl) ml_5_153 mv_X5_readComparison rfl rfl (by decide) rfl (Nat.le_of_ble_eq_true rfl) rfl he9 (hC.k' (fixH 77 5 (by decide) rfl)) hc k) hc10 (kRI.k fun y11 κ12 h mo13 => ?_)
    refine K_if (pa := 29) (pb := 16) (lv2 := [(0, vR 77)]) (st2 := []) (fun ad S Q _ k1 k2 => V_ifeq (tgt := 29) (pc2 := 16) (dk D_X5_readCondition 6 rfl) (by decide) rfl (fun q => k1 q) (fun q => k2 q)) (fun q14 => ?_) (fun q14 => ?_)
    · have h := h.1 q14
      exact h
    · have h := h.2 q14
      refine K_p (pc2 := 17) (lv2 := [(0, vR 77)]) (st2 := [vR 77]) (fun ad S Q _ k => V_aload_n (pc2 := 17) (dk D_X5_readCondition 7 rfl) rfl (V_lg 0 rfl) rfl k) ?_
      refine K_p (pc2 := 19) (lv2 := [(0, vR 77)]) (st2 := [vI _, vR 77]) (fun ad S Q _ k => V_bipush (x := 41) (pc2 := 19) (dk D_X5_readCondition 8 rfl) (by decide) rfl k) ?_
      obtain ⟨e15, he16, hc17⟩ := h
      refine K_call (as := [vR 77, vI _]) (st := []) (pc2 := 22) (okL.all _ ⟨(Or.inr ⟨Or.inl ⟨by decide, by decide⟩, by decide⟩), trivial⟩) (okS.all _ trivial) (fun ad S Q Qc hC hc k => V_callV (as := [_]) (st := []) (M' := MX5_takeClosing) (ci := 5) (pc2 := 22) (dk D_X5_readCondition 9 rfl) ml_5_112 mv_X5_takeClosing rfl rfl (by decide) rfl (Nat.le_of_ble_eq_true rfl) rfl he16 (hC.k' (fixH 77 5 (by decide) rfl)) hc k) hc17 (kRI.k fun y18 κ19 h mo20 => ?_)
      refine K_if (pa := 29) (pb := 25) (lv2 := [(0, vR 77)]) (st2 := []) (fun ad S Q _ k1 k2 => V_ifeq (tgt := 29) (pc2 := 25) (dk D_X5_readCondition 10 rfl) (by decide) rfl (fun q => k1 q) (fun q => k2 q)) (fun q21 => ?_) (fun q21 => ?_)
      · have h := h.1 q21
        exact h
      · have h := h.2 q21
        refine K_p (pc2 := 26) (lv2 := [(0, vR 77)]) (st2 := [vI _]) (fun ad S Q _ k => V_iconst (x := 1) (pc2 := 26) (dk D_X5_readCondition 11 rfl) (by decide) rfl k) ?_
        refine K_p (pc2 := 30) (lv2 := [(0, vR 77)]) (st2 := [vI _]) (fun ad S Q _ k => V_goto (tgt := 30) (dk D_X5_readCondition 12 rfl) (by decide) k) ?_
        exact h
theorem k_5_readCondition_29 {X : Cx} {d : Nat} {κ : Km} {Q : Res → Km → Prop}  (h : K X d MX5_readCondition 30 [(0, vR 77)] [vI 0] κ Q) : K X d MX5_readCondition 29 [(0, vR 77)] [] κ Q := by
  refine K_p (pc2 := 30) (lv2 := [(0, vR 77)]) (st2 := [vI _]) (fun ad S Q _ k => V_iconst (x := 0) (pc2 := 30) (dk D_X5_readCondition 13 rfl) (by decide) rfl k) ?_
  exact h
theorem k_5_readCondition_30 {X : Cx} {d : Nat} {κ : Km} {Q : Res → Km → Prop} (t0 : Int32) (h : (t0 = 0 ∨ t0 = 1) ∧ Q (.inl (some (vI t0))) κ) : K X d MX5_readCondition 30 [(0, vR 77)] [vI t0] κ Q := by
  obtain ⟨h1, h⟩ := h
  exact K_ret (r := .inl (some (vI _))) (fun ad S Q _ k => V_zreturn (dk D_X5_readCondition 14 rfl) rfl h1 k) h
theorem k_5_readIf_0 {X : Cx} {d : Nat} {κ : Km} {Q : Res → Km → Prop}  (h : ∃ e1 : Nat, e1 + 1 ≤ d ∧ KC' X e1 MX9_next [vR 72] κ (kRV fun  κ4 => ∃ e6 : Nat, e6 + 1 ≤ d ∧ KC' X e6 MX5_readCondition [vR 77] κ4 (kRI fun y9 κ10 => ((y9 = 0 → Q (.inl (some (vI 0))) κ10) ∧ (¬ y9 = 0 → ∃ e13 : Nat, e13 + 1 ≤ d ∧ KC' X e13 MX1_add [vR 68, vI 16, vI 0] κ10 (kRI fun y16 κ17 => ∃ e19 : Nat, e19 + 1 ≤ d ∧ KC' X e19 MX5_readBlock [vR 77] κ17 (kRI fun y22 κ23 => ((y22 = 0 → Q (.inl (some (vI 0))) κ23) ∧ (¬ y22 = 0 → (((kI κ23 72 7) = 203 → ∃ e27 : Nat, e27 + 1 ≤ d ∧ KC' X e27 MX9_next [vR 72] κ23 (kRV fun  κ30 => ∃ e32 : Nat, e32 + 1 ≤ d ∧ KC' X e32 MX1_add [vR 68, vI 15, vI 0] κ30 (kRI fun y35 κ36 => ∃ e38 : Nat, e38 + 1 ≤ d ∧ KC' X e38 MX1_size [vR 68] κ36 (kRI fun y41 κ42 => ∃ e44 : Nat, e44 + 1 ≤ d ∧ KC' X e44 MX1_patch [vR 68, vI y16, vI y41] κ42 (kRV fun  κ47 => ∃ e49 : Nat, e49 + 1 ≤ d ∧ KC' X e49 MX5_readBlock [vR 77] κ47 (kRI fun y52 κ53 => ((y52 = 0 → Q (.inl (some (vI 0))) κ53) ∧ (¬ y52 = 0 → K X d MX5_readIf 93 [(0, vR 77), (1, vI y35)] [] κ53 Q)))))))) ∧ (¬ (kI κ23 72 7) = 203 → K X d MX5_readIf 93 [(0, vR 77), (1, vI y16)] [] κ23 Q))))))))))) : K X d MX5_readIf 0 [(0, vR 77)] [] κ Q := by
  refine K_p (pc2 := 1) (lv2 := [(0, vR 77)]) (st2 := [vR 77]) (fun ad S Q _ k => V_aload_n (pc2 := 1) (dk D_X5_readIf 0 rfl) rfl (V_lg 0 rfl) rfl k) ?_
  refine K_getF kc5 (h' := 72) (pc2 := 4) 0 (by decide) (dk D_X5_readIf 1 rfl) fl_5_9 (by decide) (fun _ _ => rfl) rfl (fixH 77 5 (by decide) rfl) (by decide) ?_
  obtain ⟨e1, he2, hc3⟩ := h
  refine K_call (as := [vR 72]) (st := []) (pc2 := 7) (okL.all _ ⟨(Or.inr ⟨Or.inl ⟨by decide, by decide⟩, by decide⟩), trivial⟩) (okS.all _ trivial) (fun ad S Q Qc hC hc k => V_callV (as := []) (st := []) (M' := MX9_next) (ci := 9) (pc2 := 7) (dk D_X5_readIf 2 rfl) ml_5_77 mv_X9_next rfl rfl (by decide) rfl (Nat.le_of_ble_eq_true rfl) rfl he2 (hC.k' (fixH 72 9 (by decide) rfl)) hc k) hc3 (kRV.k fun  κ4 h mo5 => ?_)
  refine K_p (pc2 := 8) (lv2 := [(0, vR 77)]) (st2 := [vR 77]) (fun ad S Q _ k => V_aload_n (pc2 := 8) (dk D_X5_readIf 3 rfl) rfl (V_lg 0 rfl) rfl k) ?_
  obtain ⟨e6, he7, hc8⟩ := h
  refine K_call (as := [vR 77]) (st := []) (pc2 := 11) (okL.all _ ⟨(Or.inr ⟨Or.inl ⟨by decide, by decide⟩, by decide⟩), trivial⟩) (okS.all _ trivial) (fun ad S Q Qc hC hc k => V_callV (as := []) (st := []) (M' := MX5_readCondition) (ci := 5) (pc2 := 11) (dk D_X5_readIf 4 rfl) ml_5_165 mv_X5_readCondition rfl rfl (by decide) rfl (Nat.le_of_ble_eq_true rfl) rfl he7 (hC.k' (fixH 77 5 (by decide) rfl)) hc k) hc8 (kRI.k fun y9 κ10 h mo11 => ?_)
  refine K_if (pa := 14) (pb := 16) (lv2 := [(0, vR 77)]) (st2 := []) (fun ad S Q _ k1 k2 => V_ifne (tgt := 16) (pc2 := 14) (dk D_X5_readIf 5 rfl) (by decide) rfl (fun q => k2 q) (fun q => k1 q)) (fun q12 => ?_) (fun q12 => ?_)
  · have h := h.1 q12
    refine K_p (pc2 := 15) (lv2 := [(0, vR 77)]) (st2 := [vI _]) (fun ad S Q _ k => V_iconst (x := 0) (pc2 := 15) (dk D_X5_readIf 6 rfl) (by decide) rfl k) ?_
    exact K_ret (r := .inl (some (vI _))) (fun ad S Q _ k => V_zreturn (dk D_X5_readIf 7 rfl) rfl (Or.inl rfl) k) h
  · have h := h.2 q12
    refine K_p (pc2 := 17) (lv2 := [(0, vR 77)]) (st2 := [vR 77]) (fun ad S Q _ k => V_aload_n (pc2 := 17) (dk D_X5_readIf 8 rfl) rfl (V_lg 0 rfl) rfl k) ?_
    refine K_getF kc5 (h' := 68) (pc2 := 20) 2 (by decide) (dk D_X5_readIf 9 rfl) fl_5_25 (by decide) (fun _ _ => rfl) rfl (fixH 77 5 (by decide) rfl) (by decide) ?_
    refine K_p (pc2 := 22) (lv2 := [(0, vR 77)]) (st2 := [vI _, vR 68]) (fun ad S Q _ k => V_bipush (x := 16) (pc2 := 22) (dk D_X5_readIf 10 rfl) (by decide) rfl k) ?_
    refine K_p (pc2 := 23) (lv2 := [(0, vR 77)]) (st2 := [vI _, vI _, vR 68]) (fun ad S Q _ k => V_iconst (x := 0) (pc2 := 23) (dk D_X5_readIf 11 rfl) (by decide) rfl k) ?_
    obtain ⟨e13, he14, hc15⟩ := h
    refine K_call (as := [vR 68, vI _, vI _]) (st := []) (pc2 := 26) (okL.all _ ⟨(Or.inr ⟨Or.inl ⟨by decide, by decide⟩, by decide⟩), trivial⟩) (okS.all _ trivial) (fun ad S Q Qc hC hc k => V_callV (as := [_, _]) (st := []) (M' := MX1_add) (ci := 1) (pc2 := 26) (dk D_X5_readIf 12 rfl) ml_5_57 mv_X1_add rfl rfl (by decide) rfl (Nat.le_of_ble_eq_true rfl) rfl he14 (hC.k' (fixH 68 1 (by decide) rfl)) hc k) hc15 (kRI.k fun y16 κ17 h mo18 => ?_)
    refine K_p (pc2 := 27) (lv2 := [(0, vR 77), (1, vI _)]) (st2 := []) (fun ad S Q _ k => V_istore_n (pc2 := 27) (lv2 := [(0, _), (1, _)]) (dk D_X5_readIf 13 rfl) rfl (by decide) rfl rfl k) ?_
    refine K_p (pc2 := 28) (lv2 := [(0, vR 77), (1, vI _)]) (st2 := [vR 77]) (fun ad S Q _ k => V_aload_n (pc2 := 28) (dk D_X5_readIf 14 rfl) rfl (V_lg 0 rfl) rfl k) ?_
    obtain ⟨e19, he20, hc21⟩ := h
    refine K_call (as := [vR 77]) (st := []) (pc2 := 31) (okL.all _ ⟨(Or.inr ⟨Or.inl ⟨by decide, by decide⟩, by decide⟩), trivial, trivial⟩) (okS.all _ trivial) (fun ad S Q Qc hC hc k => V_callV (as := []) (st := []) (M' := MX5_readBlock) (ci := 5) (pc2 := 31) (dk D_X5_readIf 15 rfl) ml_5_48 mv_X5_readBlock rfl rfl (by decide) rfl (Nat.le_of_ble_eq_true rfl) rfl he20 (hC.k' (fixH 77 5 (by decide) rfl)) hc k) hc21 (kRI.k fun y22 κ23 h mo24 => ?_)
    refine K_if (pa := 34) (pb := 36) (lv2 := [(0, vR 77), (1, vI _)]) (st2 := []) (fun ad S Q _ k1 k2 => V_ifne (tgt := 36) (pc2 := 34) (dk D_X5_readIf 16 rfl) (by decide) rfl (fun q => k2 q) (fun q => k1 q)) (fun q25 => ?_) (fun q25 => ?_)
    · have h := h.1 q25
      refine K_p (pc2 := 35) (lv2 := [(0, vR 77), (1, vI _)]) (st2 := [vI _]) (fun ad S Q _ k => V_iconst (x := 0) (pc2 := 35) (dk D_X5_readIf 17 rfl) (by decide) rfl k) ?_
      exact K_ret (r := .inl (some (vI _))) (fun ad S Q _ k => V_zreturn (dk D_X5_readIf 18 rfl) rfl (Or.inl rfl) k) h
    · have h := h.2 q25
      refine K_p (pc2 := 37) (lv2 := [(0, vR 77), (1, vI _)]) (st2 := [vR 77]) (fun ad S Q _ k => V_aload_n (pc2 := 37) (dk D_X5_readIf 19 rfl) rfl (V_lg 0 rfl) rfl k) ?_
      refine K_getF kc5 (h' := 72) (pc2 := 40) 0 (by decide) (dk D_X5_readIf 20 rfl) fl_5_9 (by decide) (fun _ _ => rfl) rfl (fixH 77 5 (by decide) rfl) (by decide) ?_
      refine K_getI kc9 (pc2 := 43) 7 (dk D_X5_readIf 21 rfl) fl_5_41 (by decide) (fun _ _ => rfl) rfl (fixH 72 9 (by decide) rfl) ?_
      refine K_p (pc2 := 46) (lv2 := [(0, vR 77), (1, vI _)]) (st2 := [vI _, vI _]) (fun ad S Q _ k => V_sipush (x := 203) (pc2 := 46) (dk D_X5_readIf 22 rfl) (by decide) rfl k) ?_
      refine K_if (pa := 49) (pb := 93) (lv2 := [(0, vR 77), (1, vI _)]) (st2 := []) (fun ad S Q _ k1 k2 => V_cmpne (tgt := 93) (pc2 := 49) (dk D_X5_readIf 23 rfl) (by decide) rfl (fun q => k2 q) (fun q => k1 q)) (fun q26 => ?_) (fun q26 => ?_)
      · have h := h.1 q26
        refine K_p (pc2 := 50) (lv2 := [(0, vR 77), (1, vI _)]) (st2 := [vR 77]) (fun ad S Q _ k => V_aload_n (pc2 := 50) (dk D_X5_readIf 24 rfl) rfl (V_lg 0 rfl) rfl k) ?_
        refine K_getF kc5 (h' := 72) (pc2 := 53) 0 (by decide) (dk D_X5_readIf 25 rfl) fl_5_9 (by decide) (fun _ _ => rfl) rfl (fixH 77 5 (by decide) rfl) (by decide) ?_
        obtain ⟨e27, he28, hc29⟩ := h
        refine K_call (as := [vR 72]) (st := []) (pc2 := 56) (okL.all _ ⟨(Or.inr ⟨Or.inl ⟨by decide, by decide⟩, by decide⟩), trivial, trivial⟩) (okS.all _ trivial) (fun ad S Q Qc hC hc k => V_callV (as := []) (st := []) (M' := MX9_next) (ci := 9) (pc2 := 56) (dk D_X5_readIf 26 rfl) ml_5_77 mv_X9_next rfl rfl (by decide) rfl (Nat.le_of_ble_eq_true rfl) rfl he28 (hC.k' (fixH 72 9 (by decide) rfl)) hc k) hc29 (kRV.k fun  κ30 h mo31 => ?_)
        refine K_p (pc2 := 57) (lv2 := [(0, vR 77), (1, vI _)]) (st2 := [vR 77]) (fun ad S Q _ k => V_aload_n (pc2 := 57) (dk D_X5_readIf 27 rfl) rfl (V_lg 0 rfl) rfl k) ?_
        refine K_getF kc5 (h' := 68) (pc2 := 60) 2 (by decide) (dk D_X5_readIf 28 rfl) fl_5_25 (by decide) (fun _ _ => rfl) rfl (fixH 77 5 (by decide) rfl) (by decide) ?_
        refine K_p (pc2 := 62) (lv2 := [(0, vR 77), (1, vI _)]) (st2 := [vI _, vR 68]) (fun ad S Q _ k => V_bipush (x := 15) (pc2 := 62) (dk D_X5_readIf 29 rfl) (by decide) rfl k) ?_
        refine K_p (pc2 := 63) (lv2 := [(0, vR 77), (1, vI _)]) (st2 := [vI _, vI _, vR 68]) (fun ad S Q _ k => V_iconst (x := 0) (pc2 := 63) (dk D_X5_readIf 30 rfl) (by decide) rfl k) ?_
        obtain ⟨e32, he33, hc34⟩ := h
        refine K_call (as := [vR 68, vI _, vI _]) (st := []) (pc2 := 66) (okL.all _ ⟨(Or.inr ⟨Or.inl ⟨by decide, by decide⟩, by decide⟩), trivial, trivial⟩) (okS.all _ trivial) (fun ad S Q Qc hC hc k => V_callV (as := [_, _]) (st := []) (M' := MX1_add) (ci := 1) (pc2 := 66) (dk D_X5_readIf 31 rfl) ml_5_57 mv_X1_add rfl rfl (by decide) rfl (Nat.le_of_ble_eq_true rfl) rfl he33 (hC.k' (fixH 68 1 (by decide) rfl)) hc k) hc34 (kRI.k fun y35 κ36 h mo37 => ?_)
        refine K_p (pc2 := 67) (lv2 := [(0, vR 77), (1, vI _), (2, vI _)]) (st2 := []) (fun ad S Q _ k => V_istore_n (pc2 := 67) (lv2 := [(0, _), (1, _), (2, _)]) (dk D_X5_readIf 32 rfl) rfl (by decide) rfl rfl k) ?_
        refine K_p (pc2 := 68) (lv2 := [(0, vR 77), (1, vI _), (2, vI _)]) (st2 := [vR 77]) (fun ad S Q _ k => V_aload_n (pc2 := 68) (dk D_X5_readIf 33 rfl) rfl (V_lg 0 rfl) rfl k) ?_
        refine K_getF kc5 (h' := 68) (pc2 := 71) 2 (by decide) (dk D_X5_readIf 34 rfl) fl_5_25 (by decide) (fun _ _ => rfl) rfl (fixH 77 5 (by decide) rfl) (by decide) ?_
        refine K_p (pc2 := 72) (lv2 := [(0, vR 77), (1, vI _), (2, vI _)]) (st2 := [vI _, vR 68]) (fun ad S Q _ k => V_iload_n (pc2 := 72) (dk D_X5_readIf 35 rfl) rfl (V_lg 1 rfl) rfl k) ?_
        refine K_p (pc2 := 73) (lv2 := [(0, vR 77), (1, vI _), (2, vI _)]) (st2 := [vR 77, vI _, vR 68]) (fun ad S Q _ k => V_aload_n (pc2 := 73) (dk D_X5_readIf 36 rfl) rfl (V_lg 0 rfl) rfl k) ?_
        refine K_getF kc5 (h' := 68) (pc2 := 76) 2 (by decide) (dk D_X5_readIf 37 rfl) fl_5_25 (by decide) (fun _ _ => rfl) rfl (fixH 77 5 (by decide) rfl) (by decide) ?_
        obtain ⟨e38, he39, hc40⟩ := h
        refine K_call (as := [vR 68]) (st := [vI _, vR 68]) (pc2 := 79) (okL.all _ ⟨(Or.inr ⟨Or.inl ⟨by decide, by decide⟩, by decide⟩), trivial, trivial, trivial⟩) (okS.all _ ⟨trivial, (Or.inr ⟨Or.inl ⟨by decide, by decide⟩, by decide⟩), trivial⟩) (fun ad S Q Qc hC hc k => V_callV (as := []) (st := [_, _]) (M' := MX1_size) (ci := 1) (pc2 := 79) (dk D_X5_readIf 38 rfl) ml_5_61 mv_X1_size rfl rfl (by decide) rfl (Nat.le_of_ble_eq_true rfl) rfl he39 (hC.k' (fixH 68 1 (by decide) rfl)) hc k) hc40 (kRI.k fun y41 κ42 h mo43 => ?_)
        obtain ⟨e44, he45, hc46⟩ := h
        refine K_call (as := [vR 68, vI _, vI _]) (st := []) (pc2 := 82) (okL.all _ ⟨(Or.inr ⟨Or.inl ⟨by decide, by decide⟩, by decide⟩), trivial, trivial, trivial⟩) (okS.all _ trivial) (fun ad S Q Qc hC hc k => V_callV (as := [_, _]) (st := []) (M' := MX1_patch) (ci := 1) (pc2 := 82) (dk D_X5_readIf 39 rfl) ml_5_168 mv_X1_patch rfl rfl (by decide) rfl (Nat.le_of_ble_eq_true rfl) rfl he45 (hC.k' (fixH 68 1 (by decide) rfl)) hc k) hc46 (kRV.k fun  κ47 h mo48 => ?_)
        refine K_p (pc2 := 83) (lv2 := [(0, vR 77), (1, vI _), (2, vI _)]) (st2 := [vI _]) (fun ad S Q _ k => V_iload_n (pc2 := 83) (dk D_X5_readIf 40 rfl) rfl (V_lg 2 rfl) rfl k) ?_
        refine K_p (pc2 := 84) (lv2 := [(0, vR 77), (1, vI _), (2, vI _)]) (st2 := []) (fun ad S Q _ k => V_istore_n (pc2 := 84) (lv2 := [(0, _), (1, _), (2, _)]) (dk D_X5_readIf 41 rfl) rfl (by decide) rfl rfl k) ?_
        refine K_p (pc2 := 85) (lv2 := [(0, vR 77), (1, vI _), (2, vI _)]) (st2 := [vR 77]) (fun ad S Q _ k => V_aload_n (pc2 := 85) (dk D_X5_readIf 42 rfl) rfl (V_lg 0 rfl) rfl k) ?_
        obtain ⟨e49, he50, hc51⟩ := h
        refine K_call (as := [vR 77]) (st := []) (pc2 := 88) (okL.all _ ⟨(Or.inr ⟨Or.inl ⟨by decide, by decide⟩, by decide⟩), trivial, trivial, trivial⟩) (okS.all _ trivial) (fun ad S Q Qc hC hc k => V_callV (as := []) (st := []) (M' := MX5_readBlock) (ci := 5) (pc2 := 88) (dk D_X5_readIf 43 rfl) ml_5_48 mv_X5_readBlock rfl rfl (by decide) rfl (Nat.le_of_ble_eq_true rfl) rfl he50 (hC.k' (fixH 77 5 (by decide) rfl)) hc k) hc51 (kRI.k fun y52 κ53 h mo54 => ?_)
        refine K_if (pa := 91) (pb := 93) (lv2 := [(0, vR 77), (1, vI _), (2, vI _)]) (st2 := []) (fun ad S Q _ k1 k2 => V_ifne (tgt := 93) (pc2 := 91) (dk D_X5_readIf 44 rfl) (by decide) rfl (fun q => k2 q) (fun q => k1 q)) (fun q55 => ?_) (fun q55 => ?_)
        · have h := h.1 q55
          refine K_p (pc2 := 92) (lv2 := [(0, vR 77), (1, vI _), (2, vI _)]) (st2 := [vI _]) (fun ad S Q _ k => V_iconst (x := 0) (pc2 := 92) (dk D_X5_readIf 45 rfl) (by decide) rfl k) ?_
          exact K_ret (r := .inl (some (vI _))) (fun ad S Q _ k => V_zreturn (dk D_X5_readIf 46 rfl) rfl (Or.inl rfl) k) h
        · have h := h.2 q55
          refine K_p (pc2 := 93) (lv2 := [(0, vR 77), (1, vI _)]) (st2 := []) (fun ad S Q _ k => V_pick [0, 1] (lv2 := [(0, _), (1, _)]) rfl k) ?_
          exact h
      · have h := h.2 q26
        exact h
theorem k_5_readIf_93 {X : Cx} {d : Nat} {κ : Km} {Q : Res → Km → Prop} (x1 : Int32) (h : ∃ e1 : Nat, e1 + 1 ≤ d ∧ KC' X e1 MX1_size [vR 68] κ (kRI fun y4 κ5 => ∃ e7 : Nat, e7 + 1 ≤ d ∧ KC' X e7 MX1_patch [vR 68, vI x1, vI y4] κ5 (kRV fun  κ10 => Q (.inl (some (vI 1))) κ10))) : K X d MX5_readIf 93 [(0, vR 77), (1, vI x1)] [] κ Q := by
  refine K_p (pc2 := 94) (lv2 := [(0, vR 77), (1, vI _)]) (st2 := [vR 77]) (fun ad S Q _ k => V_aload_n (pc2 := 94) (dk D_X5_readIf 47 rfl) rfl (V_lg 0 rfl) rfl k) ?_
  refine K_getF kc5 (h' := 68) (pc2 := 97) 2 (by decide) (dk D_X5_readIf 48 rfl) fl_5_25 (by decide) (fun _ _ => rfl) rfl (fixH 77 5 (by decide) rfl) (by decide) ?_
  refine K_p (pc2 := 98) (lv2 := [(0, vR 77), (1, vI _)]) (st2 := [vI _, vR 68]) (fun ad S Q _ k => V_iload_n (pc2 := 98) (dk D_X5_readIf 49 rfl) rfl (V_lg 1 rfl) rfl k) ?_
  refine K_p (pc2 := 99) (lv2 := [(0, vR 77), (1, vI _)]) (st2 := [vR 77, vI _, vR 68]) (fun ad S Q _ k => V_aload_n (pc2 := 99) (dk D_X5_readIf 50 rfl) rfl (V_lg 0 rfl) rfl k) ?_
  refine K_getF kc5 (h' := 68) (pc2 := 102) 2 (by decide) (dk D_X5_readIf 51 rfl) fl_5_25 (by decide) (fun _ _ => rfl) rfl (fixH 77 5 (by decide) rfl) (by decide) ?_
  obtain ⟨e1, he2, hc3⟩ := h
  refine K_call (as := [vR 68]) (st := [vI _, vR 68]) (pc2 := 105) (okL.all _ ⟨(Or.inr ⟨Or.inl ⟨by decide, by decide⟩, by decide⟩), trivial, trivial⟩) (okS.all _ ⟨trivial, (Or.inr ⟨Or.inl ⟨by decide, by decide⟩, by decide⟩), trivial⟩) (fun ad S Q Qc hC hc k => V_callV (as := []) (st := [_, _]) (M' := MX1_size) (ci := 1) (pc2 := 105) (dk D_X5_readIf 52 rfl) ml_5_61 mv_X1_size rfl rfl (by decide) rfl (Nat.le_of_ble_eq_true rfl) rfl he2 (hC.k' (fixH 68 1 (by decide) rfl)) hc k) hc3 (kRI.k fun y4 κ5 h mo6 => ?_)
  obtain ⟨e7, he8, hc9⟩ := h
  refine K_call (as := [vR 68, vI _, vI _]) (st := []) (pc2 := 108) (okL.all _ ⟨(Or.inr ⟨Or.inl ⟨by decide, by decide⟩, by decide⟩), trivial, trivial⟩) (okS.all _ trivial) (fun ad S Q Qc hC hc k => V_callV (as := [_, _]) (st := []) (M' := MX1_patch) (ci := 1) (pc2 := 108) (dk D_X5_readIf 53 rfl) ml_5_168 mv_X1_patch rfl rfl (by decide) rfl (Nat.le_of_ble_eq_true rfl) rfl he8 (hC.k' (fixH 68 1 (by decide) rfl)) hc k) hc9 (kRV.k fun  κ10 h mo11 => ?_)
  refine K_p (pc2 := 109) (lv2 := [(0, vR 77), (1, vI _)]) (st2 := [vI _]) (fun ad S Q _ k => V_iconst (x := 1) (pc2 := 109) (dk D_X5_readIf 54 rfl) (by decide) rfl k) ?_
  exact K_ret (r := .inl (some (vI _))) (fun ad S Q _ k => V_zreturn (dk D_X5_readIf 55 rfl) rfl (Or.inr rfl) k) h
theorem k_5_readWhile_0 {X : Cx} {d : Nat} {κ : Km} {Q : Res → Km → Prop} (x1 : Int32) (h : ∃ e1 : Nat, e1 + 1 ≤ d ∧ KC' X e1 MX9_next [vR 72] κ (kRV fun  κ4 => ∃ e6 : Nat, e6 + 1 ≤ d ∧ KC' X e6 MX1_size [vR 68] κ4 (kRI fun y9 κ10 => ∃ e12 : Nat, e12 + 1 ≤ d ∧ KC' X e12 MX5_readCondition [vR 77] κ10 (kRI fun y15 κ16 => ((y15 = 0 → Q (.inl (some (vI 0))) κ16) ∧ (¬ y15 = 0 → ∃ e19 : Nat, e19 + 1 ≤ d ∧ KC' X e19 MX1_add [vR 68, vI 16, vI 0] κ16 (kRI fun y22 κ23 => ∃ e25 : Nat, e25 + 1 ≤ d ∧ KC' X e25 MX5_readBlock [vR 77] κ23 (kRI fun y28 κ29 => ((y28 = 0 → Q (.inl (some (vI 0))) κ29) ∧ (¬ y28 = 0 → ∃ e32 : Nat, e32 + 1 ≤ d ∧ KC' X e32 MX1_add [vR 68, vI 20, vI x1] κ29 (kRI fun y35 κ36 => ∃ e38 : Nat, e38 + 1 ≤ d ∧ KC' X e38 MX1_add [vR 68, vI 15, vI y9] κ36 (kRI fun y41 κ42 => ∃ e44 : Nat, e44 + 1 ≤ d ∧ KC' X e44 MX1_size [vR 68] κ42 (kRI fun y47 κ48 => ∃ e50 : Nat, e50 + 1 ≤ d ∧ KC' X e50 MX1_patch [vR 68, vI y22, vI y47] κ48 (kRV fun  κ53 => Q (.inl (some (vI 1))) κ53)))))))))))))) : K X d MX5_readWhile 0 [(0, vR 77), (1, vI x1)] [] κ Q := by
  refine K_p (pc2 := 1) (lv2 := [(0, vR 77), (1, vI _)]) (st2 := [vR 77]) (fun ad S Q _ k => V_aload_n (pc2 := 1) (dk D_X5_readWhile 0 rfl) rfl (V_lg 0 rfl) rfl k) ?_
  refine K_getF kc5 (h' := 72) (pc2 := 4) 0 (by decide) (dk D_X5_readWhile 1 rfl) fl_5_9 (by decide) (fun _ _ => rfl) rfl (fixH 77 5 (by decide) rfl) (by decide) ?_
  obtain ⟨e1, he2, hc3⟩ := h
  refine K_call (as := [vR 72]) (st := []) (pc2 := 7) (okL.all _ ⟨(Or.inr ⟨Or.inl ⟨by decide, by decide⟩, by decide⟩), trivial, trivial⟩) (okS.all _ trivial) (fun ad S Q Qc hC hc k => V_callV (as := []) (st := []) (M' := MX9_next) (ci := 9) (pc2 := 7) (dk D_X5_readWhile 2 rfl) ml_5_77 mv_X9_next rfl rfl (by decide) rfl (Nat.le_of_ble_eq_true rfl) rfl he2 (hC.k' (fixH 72 9 (by decide) rfl)) hc k) hc3 (kRV.k fun  κ4 h mo5 => ?_)
  refine K_p (pc2 := 8) (lv2 := [(0, vR 77), (1, vI _)]) (st2 := [vR 77]) (fun ad S Q _ k => V_aload_n (pc2 := 8) (dk D_X5_readWhile 3 rfl) rfl (V_lg 0 rfl) rfl k) ?_
  refine K_getF kc5 (h' := 68) (pc2 := 11) 2 (by decide) (dk D_X5_readWhile 4 rfl) fl_5_25 (by decide) (fun _ _ => rfl) rfl (fixH 77 5 (by decide) rfl) (by decide) ?_
  obtain ⟨e6, he7, hc8⟩ := h
  refine K_call (as := [vR 68]) (st := []) (pc2 := 14) (okL.all _ ⟨(Or.inr ⟨Or.inl ⟨by decide, by decide⟩, by decide⟩), trivial, trivial⟩) (okS.all _ trivial) (fun ad S Q Qc hC hc k => V_callV (as := []) (st := []) (M' := MX1_size) (ci := 1) (pc2 := 14) (dk D_X5_readWhile 5 rfl) ml_5_61 mv_X1_size rfl rfl (by decide) rfl (Nat.le_of_ble_eq_true rfl) rfl he7 (hC.k' (fixH 68 1 (by decide) rfl)) hc k) hc8 (kRI.k fun y9 κ10 h mo11 => ?_)
  refine K_p (pc2 := 15) (lv2 := [(0, vR 77), (1, vI _), (2, vI _)]) (st2 := []) (fun ad S Q _ k => V_istore_n (pc2 := 15) (lv2 := [(0, _), (1, _), (2, _)]) (dk D_X5_readWhile 6 rfl) rfl (by decide) rfl rfl k) ?_
  refine K_p (pc2 := 16) (lv2 := [(0, vR 77), (1, vI _), (2, vI _)]) (st2 := [vR 77]) (fun ad S Q _ k => V_aload_n (pc2 := 16) (dk D_X5_readWhile 7 rfl) rfl (V_lg 0 rfl) rfl k) ?_
  obtain ⟨e12, he13, hc14⟩ := h
  refine K_call (as := [vR 77]) (st := []) (pc2 := 19) (okL.all _ ⟨(Or.inr ⟨Or.inl ⟨by decide, by decide⟩, by decide⟩), trivial, trivial, trivial⟩) (okS.all _ trivial) (fun ad S Q Qc hC hc k => V_callV (as := []) (st := []) (M' := MX5_readCondition) (ci := 5) (pc2 := 19) (dk D_X5_readWhile 8 rfl) ml_5_165 mv_X5_readCondition rfl rfl (by decide) rfl (Nat.le_of_ble_eq_true rfl) rfl he13 (hC.k' (fixH 77 5 (by decide) rfl)) hc k) hc14 (kRI.k fun y15 κ16 h mo17 => ?_)
  refine K_if (pa := 22) (pb := 24) (lv2 := [(0, vR 77), (1, vI _), (2, vI _)]) (st2 := []) (fun ad S Q _ k1 k2 => V_ifne (tgt := 24) (pc2 := 22) (dk D_X5_readWhile 9 rfl) (by decide) rfl (fun q => k2 q) (fun q => k1 q)) (fun q18 => ?_) (fun q18 => ?_)
  · have h := h.1 q18
    refine K_p (pc2 := 23) (lv2 := [(0, vR 77), (1, vI _), (2, vI _)]) (st2 := [vI _]) (fun ad S Q _ k => V_iconst (x := 0) (pc2 := 23) (dk D_X5_readWhile 10 rfl) (by decide) rfl k) ?_
    exact K_ret (r := .inl (some (vI _))) (fun ad S Q _ k => V_zreturn (dk D_X5_readWhile 11 rfl) rfl (Or.inl rfl) k) h
  · have h := h.2 q18
    refine K_p (pc2 := 25) (lv2 := [(0, vR 77), (1, vI _), (2, vI _)]) (st2 := [vR 77]) (fun ad S Q _ k => V_aload_n (pc2 := 25) (dk D_X5_readWhile 12 rfl) rfl (V_lg 0 rfl) rfl k) ?_
    refine K_getF kc5 (h' := 68) (pc2 := 28) 2 (by decide) (dk D_X5_readWhile 13 rfl) fl_5_25 (by decide) (fun _ _ => rfl) rfl (fixH 77 5 (by decide) rfl) (by decide) ?_
    refine K_p (pc2 := 30) (lv2 := [(0, vR 77), (1, vI _), (2, vI _)]) (st2 := [vI _, vR 68]) (fun ad S Q _ k => V_bipush (x := 16) (pc2 := 30) (dk D_X5_readWhile 14 rfl) (by decide) rfl k) ?_
    refine K_p (pc2 := 31) (lv2 := [(0, vR 77), (1, vI _), (2, vI _)]) (st2 := [vI _, vI _, vR 68]) (fun ad S Q _ k => V_iconst (x := 0) (pc2 := 31) (dk D_X5_readWhile 15 rfl) (by decide) rfl k) ?_
    obtain ⟨e19, he20, hc21⟩ := h
    refine K_call (as := [vR 68, vI _, vI _]) (st := []) (pc2 := 34) (okL.all _ ⟨(Or.inr ⟨Or.inl ⟨by decide, by decide⟩, by decide⟩), trivial, trivial, trivial⟩) (okS.all _ trivial) (fun ad S Q Qc hC hc k => V_callV (as := [_, _]) (st := []) (M' := MX1_add) (ci := 1) (pc2 := 34) (dk D_X5_readWhile 16 rfl) ml_5_57 mv_X1_add rfl rfl (by decide) rfl (Nat.le_of_ble_eq_true rfl) rfl he20 (hC.k' (fixH 68 1 (by decide) rfl)) hc k) hc21 (kRI.k fun y22 κ23 h mo24 => ?_)
    refine K_p (pc2 := 35) (lv2 := [(0, vR 77), (1, vI _), (2, vI _), (3, vI _)]) (st2 := []) (fun ad S Q _ k => V_istore_n (pc2 := 35) (lv2 := [(0, _), (1, _), (2, _), (3, _)]) (dk D_X5_readWhile 17 rfl) rfl (by decide) rfl rfl k) ?_
    refine K_p (pc2 := 36) (lv2 := [(0, vR 77), (1, vI _), (2, vI _), (3, vI _)]) (st2 := [vR 77]) (fun ad S Q _ k => V_aload_n (pc2 := 36) (dk D_X5_readWhile 18 rfl) rfl (V_lg 0 rfl) rfl k) ?_
    obtain ⟨e25, he26, hc27⟩ := h
    refine K_call (as := [vR 77]) (st := []) (pc2 := 39) (okL.all _ ⟨(Or.inr ⟨Or.inl ⟨by decide, by decide⟩, by decide⟩), trivial, trivial, trivial, trivial⟩) (okS.all _ trivial) (fun ad S Q Qc hC hc k => V_callV (as := []) (st := []) (M' := MX5_readBlock) (ci := 5) (pc2 := 39) (dk D_X5_readWhile 19 rfl) ml_5_48 mv_X5_readBlock rfl rfl (by decide) rfl (Nat.le_of_ble_eq_true rfl) rfl he26 (hC.k' (fixH 77 5 (by decide) rfl)) hc k) hc27 (kRI.k fun y28 κ29 h mo30 => ?_)
    refine K_if (pa := 42) (pb := 44) (lv2 := [(0, vR 77), (1, vI _), (2, vI _), (3, vI _)]) (st2 := []) (fun ad S Q _ k1 k2 => V_ifne (tgt := 44) (pc2 := 42) (dk D_X5_readWhile 20 rfl) (by decide) rfl (fun q => k2 q) (fun q => k1 q)) (fun q31 => ?_) (fun q31 => ?_)
    · have h := h.1 q31
      refine K_p (pc2 := 43) (lv2 := [(0, vR 77), (1, vI _), (2, vI _), (3, vI _)]) (st2 := [vI _]) (fun ad S Q _ k => V_iconst (x := 0) (pc2 := 43) (dk D_X5_readWhile 21 rfl) (by decide) rfl k) ?_
      exact K_ret (r := .inl (some (vI _))) (fun ad S Q _ k => V_zreturn (dk D_X5_readWhile 22 rfl) rfl (Or.inl rfl) k) h
    · have h := h.2 q31
      refine K_p (pc2 := 45) (lv2 := [(0, vR 77), (1, vI _), (2, vI _), (3, vI _)]) (st2 := [vR 77]) (fun ad S Q _ k => V_aload_n (pc2 := 45) (dk D_X5_readWhile 23 rfl) rfl (V_lg 0 rfl) rfl k) ?_
      refine K_getF kc5 (h' := 68) (pc2 := 48) 2 (by decide) (dk D_X5_readWhile 24 rfl) fl_5_25 (by decide) (fun _ _ => rfl) rfl (fixH 77 5 (by decide) rfl) (by decide) ?_
      refine K_p (pc2 := 50) (lv2 := [(0, vR 77), (1, vI _), (2, vI _), (3, vI _)]) (st2 := [vI _, vR 68]) (fun ad S Q _ k => V_bipush (x := 20) (pc2 := 50) (dk D_X5_readWhile 25 rfl) (by decide) rfl k) ?_
      refine K_p (pc2 := 51) (lv2 := [(0, vR 77), (1, vI _), (2, vI _), (3, vI _)]) (st2 := [vI _, vI _, vR 68]) (fun ad S Q _ k => V_iload_n (pc2 := 51) (dk D_X5_readWhile 26 rfl) rfl (V_lg 1 rfl) rfl k) ?_
      obtain ⟨e32, he33, hc34⟩ := h
      refine K_call (as := [vR 68, vI _, vI _]) (st := []) (pc2 := 54) (okL.all _ ⟨(Or.inr ⟨Or.inl ⟨by decide, by decide⟩, by decide⟩), trivial, trivial, trivial, trivial⟩) (okS.all _ trivial) (fun ad S Q Qc hC hc k => V_callV (as := [_, _]) (st := []) (M' := MX1_add) (ci := 1) (pc2 := 54) (dk D_X5_readWhile 27 rfl) ml_5_57 mv_X1_add rfl rfl (by decide) rfl (Nat.le_of_ble_eq_true rfl) rfl he33 (hC.k' (fixH 68 1 (by decide) rfl)) hc k) hc34 (kRI.k fun y35 κ36 h mo37 => ?_)
      refine K_p (pc2 := 55) (lv2 := [(0, vR 77), (1, vI _), (2, vI _), (3, vI _)]) (st2 := []) (fun ad S Q _ k => V_pop (pc2 := 55) (dk D_X5_readWhile 28 rfl) rfl rfl k) ?_
      refine K_p (pc2 := 56) (lv2 := [(0, vR 77), (1, vI _), (2, vI _), (3, vI _)]) (st2 := [vR 77]) (fun ad S Q _ k => V_aload_n (pc2 := 56) (dk D_X5_readWhile 29 rfl) rfl (V_lg 0 rfl) rfl k) ?_
      refine K_getF kc5 (h' := 68) (pc2 := 59) 2 (by decide) (dk D_X5_readWhile 30 rfl) fl_5_25 (by decide) (fun _ _ => rfl) rfl (fixH 77 5 (by decide) rfl) (by decide) ?_
      refine K_p (pc2 := 61) (lv2 := [(0, vR 77), (1, vI _), (2, vI _), (3, vI _)]) (st2 := [vI _, vR 68]) (fun ad S Q _ k => V_bipush (x := 15) (pc2 := 61) (dk D_X5_readWhile 31 rfl) (by decide) rfl k) ?_
      refine K_p (pc2 := 62) (lv2 := [(0, vR 77), (1, vI _), (2, vI _), (3, vI _)]) (st2 := [vI _, vI _, vR 68]) (fun ad S Q _ k => V_iload_n (pc2 := 62) (dk D_X5_readWhile 32 rfl) rfl (V_lg 2 rfl) rfl k) ?_
      obtain ⟨e38, he39, hc40⟩ := h
      refine K_call (as := [vR 68, vI _, vI _]) (st := []) (pc2 := 65) (okL.all _ ⟨(Or.inr ⟨Or.inl ⟨by decide, by decide⟩, by decide⟩), trivial, trivial, trivial, trivial⟩) (okS.all _ trivial) (fun ad S Q Qc hC hc k => V_callV (as := [_, _]) (st := []) (M' := MX1_add) (ci := 1) (pc2 := 65) (dk D_X5_readWhile 33 rfl) ml_5_57 mv_X1_add rfl rfl (by decide) rfl (Nat.le_of_ble_eq_true rfl) rfl he39 (hC.k' (fixH 68 1 (by decide) rfl)) hc k) hc40 (kRI.k fun y41 κ42 h mo43 => ?_)
      refine K_p (pc2 := 66) (lv2 := [(0, vR 77), (1, vI _), (2, vI _), (3, vI _)]) (st2 := []) (fun ad S Q _ k => V_pop (pc2 := 66) (dk D_X5_readWhile 34 rfl) rfl rfl k) ?_
      refine K_p (pc2 := 67) (lv2 := [(0, vR 77), (1, vI _), (2, vI _), (3, vI _)]) (st2 := [vR 77]) (fun ad S Q _ k => V_aload_n (pc2 := 67) (dk D_X5_readWhile 35 rfl) rfl (V_lg 0 rfl) rfl k) ?_
      refine K_getF kc5 (h' := 68) (pc2 := 70) 2 (by decide) (dk D_X5_readWhile 36 rfl) fl_5_25 (by decide) (fun _ _ => rfl) rfl (fixH 77 5 (by decide) rfl) (by decide) ?_
      refine K_p (pc2 := 71) (lv2 := [(0, vR 77), (1, vI _), (2, vI _), (3, vI _)]) (st2 := [vI _, vR 68]) (fun ad S Q _ k => V_iload_n (pc2 := 71) (dk D_X5_readWhile 37 rfl) rfl (V_lg 3 rfl) rfl k) ?_
      refine K_p (pc2 := 72) (lv2 := [(0, vR 77), (1, vI _), (2, vI _), (3, vI _)]) (st2 := [vR 77, vI _, vR 68]) (fun ad S Q _ k => V_aload_n (pc2 := 72) (dk D_X5_readWhile 38 rfl) rfl (V_lg 0 rfl) rfl k) ?_
      refine K_getF kc5 (h' := 68) (pc2 := 75) 2 (by decide) (dk D_X5_readWhile 39 rfl) fl_5_25 (by decide) (fun _ _ => rfl) rfl (fixH 77 5 (by decide) rfl) (by decide) ?_
      obtain ⟨e44, he45, hc46⟩ := h
      refine K_call (as := [vR 68]) (st := [vI _, vR 68]) (pc2 := 78) (okL.all _ ⟨(Or.inr ⟨Or.inl ⟨by decide, by decide⟩, by decide⟩), trivial, trivial, trivial, trivial⟩) (okS.all _ ⟨trivial, (Or.inr ⟨Or.inl ⟨by decide, by decide⟩, by decide⟩), trivial⟩) (fun ad S Q Qc hC hc k => V_callV (as := []) (st := [_, _]) (M' := MX1_size) (ci := 1) (pc2 := 78) (dk D_X5_readWhile 40 rfl) ml_5_61 mv_X1_size rfl rfl (by decide) rfl (Nat.le_of_ble_eq_true rfl) rfl he45 (hC.k' (fixH 68 1 (by decide) rfl)) hc k) hc46 (kRI.k fun y47 κ48 h mo49 => ?_)
      obtain ⟨e50, he51, hc52⟩ := h
      refine K_call (as := [vR 68, vI _, vI _]) (st := []) (pc2 := 81) (okL.all _ ⟨(Or.inr ⟨Or.inl ⟨by decide, by decide⟩, by decide⟩), trivial, trivial, trivial, trivial⟩) (okS.all _ trivial) (fun ad S Q Qc hC hc k => V_callV (as := [_, _]) (st := []) (M' := MX1_patch) (ci := 1) (pc2 := 81) (dk D_X5_readWhile 41 rfl) ml_5_168 mv_X1_patch rfl rfl (by decide) rfl (Nat.le_of_ble_eq_true rfl) rfl he51 (hC.k' (fixH 68 1 (by decide) rfl)) hc k) hc52 (kRV.k fun  κ53 h mo54 => ?_)
      refine K_p (pc2 := 82) (lv2 := [(0, vR 77), (1, vI _), (2, vI _), (3, vI _)]) (st2 := [vI _]) (fun ad S Q _ k => V_iconst (x := 1) (pc2 := 82) (dk D_X5_readWhile 42 rfl) (by decide) rfl k) ?_
      exact K_ret (r := .inl (some (vI _))) (fun ad S Q _ k => V_zreturn (dk D_X5_readWhile 43 rfl) rfl (Or.inr rfl) k) h
theorem k_5_readEach_0 {X : Cx} {d : Nat} {κ : Km} {Q : Res → Km → Prop} (x1 : Int32) (h : ∃ e1 : Nat, e1 + 1 ≤ d ∧ KC' X e1 MX9_next [vR 72] κ (kRV fun  κ4 => ∃ e6 : Nat, e6 + 1 ≤ d ∧ KC' X e6 MX5_isName [vR 77] κ4 (kRI fun y9 κ10 => ((y9 = 0 → Q (.inl (some (vI 0))) κ10) ∧ (¬ y9 = 0 → ∃ e13 : Nat, e13 + 1 ≤ d ∧ KC' X e13 MX5_declareHere [vR 77] κ10 (kRI fun y16 κ17 => ∃ e19 : Nat, e19 + 1 ≤ d ∧ KC' X e19 MX9_next [vR 72] κ17 (kRV fun  κ22 => ∃ e24 : Nat, e24 + 1 ≤ d ∧ KC' X e24 MX5_take [vR 77, vI 222] κ22 (kRI fun y27 κ28 => ((y27 = 0 → K X d MX5_readEach 45 [(0, vR 77), (1, vI x1), (2, vI y16)] [] κ28 Q) ∧ (¬ y27 = 0 → ∃ e31 : Nat, e31 + 1 ≤ d ∧ KC' X e31 MX5_readComparison [vR 77] κ28 (kRI fun y34 κ35 => ((y34 = 0 → K X d MX5_readEach 45 [(0, vR 77), (1, vI x1), (2, vI y16)] [] κ35 Q) ∧ (¬ y34 = 0 → ∃ e38 : Nat, e38 + 1 ≤ d ∧ KC' X e38 MX1_add [vR 68, vI 30, vI 0] κ35 (kRI fun y41 κ42 => ∃ e44 : Nat, e44 + 1 ≤ d ∧ KC' X e44 MX1_add [vR 68, vI 3, vI y16] κ42 (kRI fun y47 κ48 => ∃ e50 : Nat, e50 + 1 ≤ d ∧ KC' X e50 MX5_readBlock [vR 77] κ48 (kRI fun y53 κ54 => ((y53 = 0 → Q (.inl (some (vI 0))) κ54) ∧ (¬ y53 = 0 → ∃ e57 : Nat, e57 + 1 ≤ d ∧ KC' X e57 MX1_add [vR 68, vI 20, vI x1] κ54 (kRI fun y60 κ61 => ∃ e63 : Nat, e63 + 1 ≤ d ∧ KC' X e63 MX1_add [vR 68, vI 15, vI y41] κ61 (kRI fun y66 κ67 => ∃ e69 : Nat, e69 + 1 ≤ d ∧ KC' X e69 MX1_size [vR 68] κ67 (kRI fun y72 κ73 => ∃ e75 : Nat, e75 + 1 ≤ d ∧ KC' X e75 MX1_patch [vR 68, vI y41, vI y72] κ73 (kRV fun  κ78 => Q (.inl (some (vI 1))) κ78)))))))))))))))))))))) : K X d MX5_readEach 0 [(0, vR 77), (1, vI x1)] [] κ Q := by
  refine K_p (pc2 := 1) (lv2 := [(0, vR 77), (1, vI _)]) (st2 := [vR 77]) (fun ad S Q _ k => V_aload_n (pc2 := 1) (dk D_X5_readEach 0 rfl) rfl (V_lg 0 rfl) rfl k) ?_
  refine K_getF kc5 (h' := 72) (pc2 := 4) 0 (by decide) (dk D_X5_readEach 1 rfl) fl_5_9 (by decide) (fun _ _ => rfl) rfl (fixH 77 5 (by decide) rfl) (by decide) ?_
  obtain ⟨e1, he2, hc3⟩ := h
  refine K_call (as := [vR 72]) (st := []) (pc2 := 7) (okL.all _ ⟨(Or.inr ⟨Or.inl ⟨by decide, by decide⟩, by decide⟩), trivial, trivial⟩) (okS.all _ trivial) (fun ad S Q Qc hC hc k => V_callV (as := []) (st := []) (M' := MX9_next) (ci := 9) (pc2 := 7) (dk D_X5_readEach 2 rfl) ml_5_77 mv_X9_next rfl rfl (by decide) rfl (Nat.le_of_ble_eq_true rfl) rfl he2 (hC.k' (fixH 72 9 (by decide) rfl)) hc k) hc3 (kRV.k fun  κ4 h mo5 => ?_)
  refine K_p (pc2 := 8) (lv2 := [(0, vR 77), (1, vI _)]) (st2 := [vR 77]) (fun ad S Q _ k => V_aload_n (pc2 := 8) (dk D_X5_readEach 3 rfl) rfl (V_lg 0 rfl) rfl k) ?_
  obtain ⟨e6, he7, hc8⟩ := h
  refine K_call (as := [vR 77]) (st := []) (pc2 := 11) (okL.all _ ⟨(Or.inr ⟨Or.inl ⟨by decide, by decide⟩, by decide⟩), trivial, trivial⟩) (okS.all _ trivial) (fun ad S Q Qc hC hc k => V_callV (as := []) (st := []) (M' := MX5_isName) (ci := 5) (pc2 := 11) (dk D_X5_readEach 4 rfl) ml_5_90 mv_X5_isName rfl rfl (by decide) rfl (Nat.le_of_ble_eq_true rfl) rfl he7 (hC.k' (fixH 77 5 (by decide) rfl)) hc k) hc8 (kRI.k fun y9 κ10 h mo11 => ?_)
  refine K_if (pa := 14) (pb := 16) (lv2 := [(0, vR 77), (1, vI _)]) (st2 := []) (fun ad S Q _ k1 k2 => V_ifne (tgt := 16) (pc2 := 14) (dk D_X5_readEach 5 rfl) (by decide) rfl (fun q => k2 q) (fun q => k1 q)) (fun q12 => ?_) (fun q12 => ?_)
  · have h := h.1 q12
    refine K_p (pc2 := 15) (lv2 := [(0, vR 77), (1, vI _)]) (st2 := [vI _]) (fun ad S Q _ k => V_iconst (x := 0) (pc2 := 15) (dk D_X5_readEach 6 rfl) (by decide) rfl k) ?_
    exact K_ret (r := .inl (some (vI _))) (fun ad S Q _ k => V_zreturn (dk D_X5_readEach 7 rfl) rfl (Or.inl rfl) k) h
  · have h := h.2 q12
    refine K_p (pc2 := 17) (lv2 := [(0, vR 77), (1, vI _)]) (st2 := [vR 77]) (fun ad S Q _ k => V_aload_n (pc2 := 17) (dk D_X5_readEach 8 rfl) rfl (V_lg 0 rfl) rfl k) ?_
    obtain ⟨e13, he14, hc15⟩ := h
    refine K_call (as := [vR 77]) (st := []) (pc2 := 20) (okL.all _ ⟨(Or.inr ⟨Or.inl ⟨by decide, by decide⟩, by decide⟩), trivial, trivial⟩) (okS.all _ trivial) (fun ad S Q Qc hC hc k => V_callV (as := []) (st := []) (M' := MX5_declareHere) (ci := 5) (pc2 := 20) (dk D_X5_readEach 9 rfl) ml_5_150 mv_X5_declareHere rfl rfl (by decide) rfl (Nat.le_of_ble_eq_true rfl) rfl he14 (hC.k' (fixH 77 5 (by decide) rfl)) hc k) hc15 (kRI.k fun y16 κ17 h mo18 => ?_)
    refine K_p (pc2 := 21) (lv2 := [(0, vR 77), (1, vI _), (2, vI _)]) (st2 := []) (fun ad S Q _ k => V_istore_n (pc2 := 21) (lv2 := [(0, _), (1, _), (2, _)]) (dk D_X5_readEach 10 rfl) rfl (by decide) rfl rfl k) ?_
    refine K_p (pc2 := 22) (lv2 := [(0, vR 77), (1, vI _), (2, vI _)]) (st2 := [vR 77]) (fun ad S Q _ k => V_aload_n (pc2 := 22) (dk D_X5_readEach 11 rfl) rfl (V_lg 0 rfl) rfl k) ?_
    refine K_getF kc5 (h' := 72) (pc2 := 25) 0 (by decide) (dk D_X5_readEach 12 rfl) fl_5_9 (by decide) (fun _ _ => rfl) rfl (fixH 77 5 (by decide) rfl) (by decide) ?_
    obtain ⟨e19, he20, hc21⟩ := h
    refine K_call (as := [vR 72]) (st := []) (pc2 := 28) (okL.all _ ⟨(Or.inr ⟨Or.inl ⟨by decide, by decide⟩, by decide⟩), trivial, trivial, trivial⟩) (okS.all _ trivial) (fun ad S Q Qc hC hc k => V_callV (as := []) (st := []) (M' := MX9_next) (ci := 9) (pc2 := 28) (dk D_X5_readEach 13 rfl) ml_5_77 mv_X9_next rfl rfl (by decide) rfl (Nat.le_of_ble_eq_true rfl) rfl he20 (hC.k' (fixH 72 9 (by decide) rfl)) hc k) hc21 (kRV.k fun  κ22 h mo23 => ?_)
    refine K_p (pc2 := 29) (lv2 := [(0, vR 77), (1, vI _), (2, vI _)]) (st2 := [vR 77]) (fun ad S Q _ k => V_aload_n (pc2 := 29) (dk D_X5_readEach 14 rfl) rfl (V_lg 0 rfl) rfl k) ?_
    refine K_p (pc2 := 32) (lv2 := [(0, vR 77), (1, vI _), (2, vI _)]) (st2 := [vI _, vR 77]) (fun ad S Q _ k => V_sipush (x := 222) (pc2 := 32) (dk D_X5_readEach 15 rfl) (by decide) rfl k) ?_
    obtain ⟨e24, he25, hc26⟩ := h
    refine K_call (as := [vR 77, vI _]) (st := []) (pc2 := 35) (okL.all _ ⟨(Or.inr ⟨Or.inl ⟨by decide, by decide⟩, by decide⟩), trivial, trivial, trivial⟩) (okS.all _ trivial) (fun ad S Q Qc hC hc k => V_callV (as := [_]) (st := []) (M' := MX5_take) (ci := 5) (pc2 := 35) (dk D_X5_readEach 16 rfl) ml_5_156 mv_X5_take rfl rfl (by decide) rfl (Nat.le_of_ble_eq_true rfl) rfl he25 (hC.k' (fixH 77 5 (by decide) rfl)) hc k) hc26 (kRI.k fun y27 κ28 h mo29 => ?_)
    refine K_if (pa := 45) (pb := 38) (lv2 := [(0, vR 77), (1, vI _), (2, vI _)]) (st2 := []) (fun ad S Q _ k1 k2 => V_ifeq (tgt := 45) (pc2 := 38) (dk D_X5_readEach 17 rfl) (by decide) rfl (fun q => k1 q) (fun q => k2 q)) (fun q30 => ?_) (fun q30 => ?_)
    · have h := h.1 q30
      exact h
    · have h := h.2 q30
      refine K_p (pc2 := 39) (lv2 := [(0, vR 77), (1, vI _), (2, vI _)]) (st2 := [vR 77]) (fun ad S Q _ k => V_aload_n (pc2 := 39) (dk D_X5_readEach 18 rfl) rfl (V_lg 0 rfl) rfl k) ?_
      obtain ⟨e31, he32, hc33⟩ := h
      refine K_call (as := [vR 77]) (st := []) (pc2 := 42) (okL.all _ ⟨(Or.inr ⟨Or.inl ⟨by decide, by decide⟩, by decide⟩), trivial, trivial, trivial⟩) (okS.all _ trivial) (fun ad S Q Qc hC hc k => V_callV (as := []) (st := []) (M' := MX5_readComparison) (ci := 5) (pc2 := 42) (dk D_X5_readEach 19 rfl) ml_5_153 mv_X5_readComparison rfl rfl (by decide) rfl (Nat.le_of_ble_eq_true rfl) rfl he32 (hC.k' (fixH 77 5 (by decide) rfl)) hc k) hc33 (kRI.k fun y34 κ35 h mo36 => ?_)
      refine K_if (pa := 45) (pb := 47) (lv2 := [(0, vR 77), (1, vI _), (2, vI _)]) (st2 := []) (fun ad S Q _ k1 k2 => V_ifne (tgt := 47) (pc2 := 45) (dk D_X5_readEach 20 rfl) (by decide) rfl (fun q => k2 q) (fun q => k1 q)) (fun q37 => ?_) (fun q37 => ?_)
      · have h := h.1 q37
        exact h
      · have h := h.2 q37
        refine K_p (pc2 := 48) (lv2 := [(0, vR 77), (1, vI _), (2, vI _)]) (st2 := [vR 77]) (fun ad S Q _ k => V_aload_n (pc2 := 48) (dk D_X5_readEach 23 rfl) rfl (V_lg 0 rfl) rfl k) ?_
        refine K_getF kc5 (h' := 68) (pc2 := 51) 2 (by decide) (dk D_X5_readEach 24 rfl) fl_5_25 (by decide) (fun _ _ => rfl) rfl (fixH 77 5 (by decide) rfl) (by decide) ?_
        refine K_p (pc2 := 53) (lv2 := [(0, vR 77), (1, vI _), (2, vI _)]) (st2 := [vI _, vR 68]) (fun ad S Q _ k => V_bipush (x := 30) (pc2 := 53) (dk D_X5_readEach 25 rfl) (by decide) rfl k) ?_
        refine K_p (pc2 := 54) (lv2 := [(0, vR 77), (1, vI _), (2, vI _)]) (st2 := [vI _, vI _, vR 68]) (fun ad S Q _ k => V_iconst (x := 0) (pc2 := 54) (dk D_X5_readEach 26 rfl) (by decide) rfl k) ?_
        obtain ⟨e38, he39, hc40⟩ := h
        refine K_call (as := [vR 68, vI _, vI _]) (st := []) (pc2 := 57) (okL.all _ ⟨(Or.inr ⟨Or.inl ⟨by decide, by decide⟩, by decide⟩), trivial, trivial, trivial⟩) (okS.all _ trivial) (fun ad S Q Qc hC hc k => V_callV (as := [_, _]) (st := []) (M' := MX1_add) (ci := 1) (pc2 := 57) (dk D_X5_readEach 27 rfl) ml_5_57 mv_X1_add rfl rfl (by decide) rfl (Nat.le_of_ble_eq_true rfl) rfl he39 (hC.k' (fixH 68 1 (by decide) rfl)) hc k) hc40 (kRI.k fun y41 κ42 h mo43 => ?_)
        refine K_p (pc2 := 58) (lv2 := [(0, vR 77), (1, vI _), (2, vI _), (3, vI _)]) (st2 := []) (fun ad S Q _ k => V_istore_n (pc2 := 58) (lv2 := [(0, _), (1, _), (2, _), (3, _)]) (dk D_X5_readEach 28 rfl) rfl (by decide) rfl rfl k) ?_
        refine K_p (pc2 := 59) (lv2 := [(0, vR 77), (1, vI _), (2, vI _), (3, vI _)]) (st2 := [vR 77]) (fun ad S Q _ k => V_aload_n (pc2 := 59) (dk D_X5_readEach 29 rfl) rfl (V_lg 0 rfl) rfl k) ?_
        refine K_getF kc5 (h' := 68) (pc2 := 62) 2 (by decide) (dk D_X5_readEach 30 rfl) fl_5_25 (by decide) (fun _ _ => rfl) rfl (fixH 77 5 (by decide) rfl) (by decide) ?_
        refine K_p (pc2 := 63) (lv2 := [(0, vR 77), (1, vI _), (2, vI _), (3, vI _)]) (st2 := [vI _, vR 68]) (fun ad S Q _ k => V_iconst (x := 3) (pc2 := 63) (dk D_X5_readEach 31 rfl) (by decide) rfl k) ?_
        refine K_p (pc2 := 64) (lv2 := [(0, vR 77), (1, vI _), (2, vI _), (3, vI _)]) (st2 := [vI _, vI _, vR 68]) (fun ad S Q _ k => V_iload_n (pc2 := 64) (dk D_X5_readEach 32 rfl) rfl (V_lg 2 rfl) rfl k) ?_
        obtain ⟨e44, he45, hc46⟩ := h
        refine K_call (as := [vR 68, vI _, vI _]) (st := []) (pc2 := 67) (okL.all _ ⟨(Or.inr ⟨Or.inl ⟨by decide, by decide⟩, by decide⟩), trivial, trivial, trivial, trivial⟩) (okS.all _ trivial) (fun ad S Q Qc hC hc k => V_callV (as := [_, _]) (st := []) (M' := MX1_add) (ci := 1) (pc2 := 67) (dk D_X5_readEach 33 rfl) ml_5_57 mv_X1_add rfl rfl (by decide) rfl (Nat.le_of_ble_eq_true rfl) rfl he45 (hC.k' (fixH 68 1 (by decide) rfl)) hc k) hc46 (kRI.k fun y47 κ48 h mo49 => ?_)
        refine K_p (pc2 := 68) (lv2 := [(0, vR 77), (1, vI _), (2, vI _), (3, vI _)]) (st2 := []) (fun ad S Q _ k => V_pop (pc2 := 68) (dk D_X5_readEach 34 rfl) rfl rfl k) ?_
        refine K_p (pc2 := 69) (lv2 := [(0, vR 77), (1, vI _), (2, vI _), (3, vI _)]) (st2 := [vR 77]) (fun ad S Q _ k => V_aload_n (pc2 := 69) (dk D_X5_readEach 35 rfl) rfl (V_lg 0 rfl) rfl k) ?_
        obtain ⟨e50, he51, hc52⟩ := h
        refine K_call (as := [vR 77]) (st := []) (pc2 := 72) (okL.all _ ⟨(Or.inr ⟨Or.inl ⟨by decide, by decide⟩, by decide⟩), trivial, trivial, trivial, trivial⟩) (okS.all _ trivial) (fun ad S Q Qc hC hc k => V_callV (as := []) (st := []) (M' := MX5_readBlock) (ci := 5) (pc2 := 72) (dk D_X5_readEach 36 rfl) ml_5_48 mv_X5_readBlock rfl rfl (by decide) rfl (Nat.le_of_ble_eq_true rfl) rfl he51 (hC.k' (fixH 77 5 (by decide) rfl)) hc k) hc52 (kRI.k fun y53 κ54 h mo55 => ?_)
        refine K_if (pa := 75) (pb := 77) (lv2 := [(0, vR 77), (1, vI _), (2, vI _), (3, vI _)]) (st2 := []) (fun ad S Q _ k1 k2 => V_ifne (tgt := 77) (pc2 := 75) (dk D_X5_readEach 37 rfl) (by decide) rfl (fun q => k2 q) (fun q => k1 q)) (fun q56 => ?_) (fun q56 => ?_)
        · have h := h.1 q56
          refine K_p (pc2 := 76) (lv2 := [(0, vR 77), (1, vI _), (2, vI _), (3, vI _)]) (st2 := [vI _]) (fun ad S Q _ k => V_iconst (x := 0) (pc2 := 76) (dk D_X5_readEach 38 rfl) (by decide) rfl k) ?_
          exact K_ret (r := .inl (some (vI _))) (fun ad S Q _ k => V_zreturn (dk D_X5_readEach 39 rfl) rfl (Or.inl rfl) k) h
        · have h := h.2 q56
          refine K_p (pc2 := 78) (lv2 := [(0, vR 77), (1, vI _), (2, vI _), (3, vI _)]) (st2 := [vR 77]) (fun ad S Q _ k => V_aload_n (pc2 := 78) (dk D_X5_readEach 40 rfl) rfl (V_lg 0 rfl) rfl k) ?_
          refine K_getF kc5 (h' := 68) (pc2 := 81) 2 (by decide) (dk D_X5_readEach 41 rfl) fl_5_25 (by decide) (fun _ _ => rfl) rfl (fixH 77 5 (by decide) rfl) (by decide) ?_
          refine K_p (pc2 := 83) (lv2 := [(0, vR 77), (1, vI _), (2, vI _), (3, vI _)]) (st2 := [vI _, vR 68]) (fun ad S Q _ k => V_bipush (x := 20) (pc2 := 83) (dk D_X5_readEach 42 rfl) (by decide) rfl k) ?_
          refine K_p (pc2 := 84) (lv2 := [(0, vR 77), (1, vI _), (2, vI _), (3, vI _)]) (st2 := [vI _, vI _, vR 68]) (fun ad S Q _ k => V_iload_n (pc2 := 84) (dk D_X5_readEach 43 rfl) rfl (V_lg 1 rfl) rfl k) ?_
          obtain ⟨e57, he58, hc59⟩ := h
          refine K_call (as := [vR 68, vI _, vI _]) (st := []) (pc2 := 87) (okL.all _ ⟨(Or.inr ⟨Or.inl ⟨by decide, by decide⟩, by decide⟩), trivial, trivial, trivial, trivial⟩) (okS.all _ trivial) (fun ad S Q Qc hC hc k => V_callV (as := [_, _]) (st := []) (M' := MX1_add) (ci := 1) (pc2 := 87) (dk D_X5_readEach 44 rfl) ml_5_57 mv_X1_add rfl rfl (by decide) rfl (Nat.le_of_ble_eq_true rfl) rfl he58 (hC.k' (fixH 68 1 (by decide) rfl)) hc k) hc59 (kRI.k fun y60 κ61 h mo62 => ?_)
          refine K_p (pc2 := 88) (lv2 := [(0, vR 77), (1, vI _), (2, vI _), (3, vI _)]) (st2 := []) (fun ad S Q _ k => V_pop (pc2 := 88) (dk D_X5_readEach 45 rfl) rfl rfl k) ?_
          refine K_p (pc2 := 89) (lv2 := [(0, vR 77), (1, vI _), (2, vI _), (3, vI _)]) (st2 := [vR 77]) (fun ad S Q _ k => V_aload_n (pc2 := 89) (dk D_X5_readEach 46 rfl) rfl (V_lg 0 rfl) rfl k) ?_
          refine K_getF kc5 (h' := 68) (pc2 := 92) 2 (by decide) (dk D_X5_readEach 47 rfl) fl_5_25 (by decide) (fun _ _ => rfl) rfl (fixH 77 5 (by decide) rfl) (by decide) ?_
          refine K_p (pc2 := 94) (lv2 := [(0, vR 77), (1, vI _), (2, vI _), (3, vI _)]) (st2 := [vI _, vR 68]) (fun ad S Q _ k => V_bipush (x := 15) (pc2 := 94) (dk D_X5_readEach 48 rfl) (by decide) rfl k) ?_
          refine K_p (pc2 := 95) (lv2 := [(0, vR 77), (1, vI _), (2, vI _), (3, vI _)]) (st2 := [vI _, vI _, vR 68]) (fun ad S Q _ k => V_iload_n (pc2 := 95) (dk D_X5_readEach 49 rfl) rfl (V_lg 3 rfl) rfl k) ?_
          obtain ⟨e63, he64, hc65⟩ := h
          refine K_call (as := [vR 68, vI _, vI _]) (st := []) (pc2 := 98) (okL.all _ ⟨(Or.inr ⟨Or.inl ⟨by decide, by decide⟩, by decide⟩), trivial, trivial, trivial, trivial⟩) (okS.all _ trivial) (fun ad S Q Qc hC hc k => V_callV (as := [_, _]) (st := []) (M' := MX1_add) (ci := 1) (pc2 := 98) (dk D_X5_readEach 50 rfl) ml_5_57 mv_X1_add rfl rfl (by decide) rfl (Nat.le_of_ble_eq_true rfl) rfl he64 (hC.k' (fixH 68 1 (by decide) rfl)) hc k) hc65 (kRI.k fun y66 κ67 h mo68 => ?_)
          refine K_p (pc2 := 99) (lv2 := [(0, vR 77), (1, vI _), (2, vI _), (3, vI _)]) (st2 := []) (fun ad S Q _ k => V_pop (pc2 := 99) (dk D_X5_readEach 51 rfl) rfl rfl k) ?_
          refine K_p (pc2 := 100) (lv2 := [(0, vR 77), (1, vI _), (2, vI _), (3, vI _)]) (st2 := [vR 77]) (fun ad S Q _ k => V_aload_n (pc2 := 100) (dk D_X5_readEach 52 rfl) rfl (V_lg 0 rfl) rfl k) ?_
          refine K_getF kc5 (h' := 68) (pc2 := 103) 2 (by decide) (dk D_X5_readEach 53 rfl) fl_5_25 (by decide) (fun _ _ => rfl) rfl (fixH 77 5 (by decide) rfl) (by decide) ?_
          refine K_p (pc2 := 104) (lv2 := [(0, vR 77), (1, vI _), (2, vI _), (3, vI _)]) (st2 := [vI _, vR 68]) (fun ad S Q _ k => V_iload_n (pc2 := 104) (dk D_X5_readEach 54 rfl) rfl (V_lg 3 rfl) rfl k) ?_
          refine K_p (pc2 := 105) (lv2 := [(0, vR 77), (1, vI _), (2, vI _), (3, vI _)]) (st2 := [vR 77, vI _, vR 68]) (fun ad S Q _ k => V_aload_n (pc2 := 105) (dk D_X5_readEach 55 rfl) rfl (V_lg 0 rfl) rfl k) ?_
          refine K_getF kc5 (h' := 68) (pc2 := 108) 2 (by decide) (dk D_X5_readEach 56 rfl) fl_5_25 (by decide) (fun _ _ => rfl) rfl (fixH 77 5 (by decide) rfl) (by decide) ?_
          obtain ⟨e69, he70, hc71⟩ := h
          refine K_call (as := [vR 68]) (st := [vI _, vR 68]) (pc2 := 111) (okL.all _ ⟨(Or.inr ⟨Or.inl ⟨by decide, by decide⟩, by decide⟩), trivial, trivial, trivial, trivial⟩) (okS.all _ ⟨trivial, (Or.inr ⟨Or.inl ⟨by decide, by decide⟩, by decide⟩), trivial⟩) (fun ad S Q Qc hC hc k => V_callV (as := []) (st := [_, _]) (M' := MX1_size) (ci := 1) (pc2 := 111) (dk D_X5_readEach 57 rfl) ml_5_61 mv_X1_size rfl rfl (by decide) rfl (Nat.le_of_ble_eq_true rfl) rfl he70 (hC.k' (fixH 68 1 (by decide) rfl)) hc k) hc71 (kRI.k fun y72 κ73 h mo74 => ?_)
          obtain ⟨e75, he76, hc77⟩ := h
          refine K_call (as := [vR 68, vI _, vI _]) (st := []) (pc2 := 114) (okL.all _ ⟨(Or.inr ⟨Or.inl ⟨by decide, by decide⟩, by decide⟩), trivial, trivial, trivial, trivial⟩) (okS.all _ trivial) (fun ad S Q Qc hC hc k => V_callV (as := [_, _]) (st := []) (M' := MX1_patch) (ci := 1) (pc2 := 114) (dk D_X5_readEach 58 rfl) ml_5_168 mv_X1_patch rfl rfl (by decide) rfl (Nat.le_of_ble_eq_true rfl) rfl he76 (hC.k' (fixH 68 1 (by decide) rfl)) hc k) hc77 (kRV.k fun  κ78 h mo79 => ?_)
          refine K_p (pc2 := 115) (lv2 := [(0, vR 77), (1, vI _), (2, vI _), (3, vI _)]) (st2 := [vI _]) (fun ad S Q _ k => V_iconst (x := 1) (pc2 := 115) (dk D_X5_readEach 59 rfl) (by decide) rfl k) ?_
          exact K_ret (r := .inl (some (vI _))) (fun ad S Q _ k => V_zreturn (dk D_X5_readEach 60 rfl) rfl (Or.inr rfl) k) h
theorem k_5_readEach_45 {X : Cx} {d : Nat} {κ : Km} {Q : Res → Km → Prop} (x1 : Int32) (x2 : Int32) (h : Q (.inl (some (vI 0))) κ) : K X d MX5_readEach 45 [(0, vR 77), (1, vI x1), (2, vI x2)] [] κ Q := by
  refine K_p (pc2 := 46) (lv2 := [(0, vR 77), (1, vI _), (2, vI _)]) (st2 := [vI _]) (fun ad S Q _ k => V_iconst (x := 0) (pc2 := 46) (dk D_X5_readEach 21 rfl) (by decide) rfl k) ?_
  exact K_ret (r := .inl (some (vI _))) (fun ad S Q _ k => V_zreturn (dk D_X5_readEach 22 rfl) rfl (Or.inl rfl) k) h
theorem k_5_readTry_0 {X : Cx} {d : Nat} {κ : Km} {Q : Res → Km → Prop}  (h : ∃ e1 : Nat, e1 + 1 ≤ d ∧ KC' X e1 MX9_next [vR 72] κ (kRV fun  κ4 => ∃ e6 : Nat, e6 + 1 ≤ d ∧ KC' X e6 MX1_add [vR 68, vI 40, vI 0] κ4 (kRI fun y9 κ10 => ∃ e12 : Nat, e12 + 1 ≤ d ∧ KC' X e12 MX5_readBlock [vR 77] κ10 (kRI fun y15 κ16 => ((y15 = 0 → Q (.inl (some (vI 0))) κ16) ∧ (¬ y15 = 0 → (((kI κ16 72 7) = 206 → K X d MX5_readTry 65 [(0, vR 77), (1, vI y9)] [] κ16 Q) ∧ (¬ (kI κ16 72 7) = 206 → (((kI κ16 72 7) = 207 → K X d MX5_readTry 65 [(0, vR 77), (1, vI y9)] [] κ16 Q) ∧ (¬ (kI κ16 72 7) = 207 → ∃ e21 : Nat, e21 + 1 ≤ d ∧ KC' X e21 MX5_refuse [vR 77, vI (kI κ16 72 8)] κ16 (kRI fun y24 κ25 => (y24 = 0 ∨ y24 = 1) ∧ Q (.inl (some (vI y24))) κ25))))))))))) : K X d MX5_readTry 0 [(0, vR 77)] [] κ Q := by
  refine K_p (pc2 := 1) (lv2 := [(0, vR 77)]) (st2 := [vR 77]) (fun ad S Q _ k => V_aload_n (pc2 := 1) (dk D_X5_readTry 0 rfl) rfl (V_lg 0 rfl) rfl k) ?_
  refine K_getF kc5 (h' := 72) (pc2 := 4) 0 (by decide) (dk D_X5_readTry 1 rfl) fl_5_9 (by decide) (fun _ _ => rfl) rfl (fixH 77 5 (by decide) rfl) (by decide) ?_
  obtain ⟨e1, he2, hc3⟩ := h
  refine K_call (as := [vR 72]) (st := []) (pc2 := 7) (okL.all _ ⟨(Or.inr ⟨Or.inl ⟨by decide, by decide⟩, by decide⟩), trivial⟩) (okS.all _ trivial) (fun ad S Q Qc hC hc k => V_callV (as := []) (st := []) (M' := MX9_next) (ci := 9) (pc2 := 7) (dk D_X5_readTry 2 rfl) ml_5_77 mv_X9_next rfl rfl (by decide) rfl (Nat.le_of_ble_eq_true rfl) rfl he2 (hC.k' (fixH 72 9 (by decide) rfl)) hc k) hc3 (kRV.k fun  κ4 h mo5 => ?_)
  refine K_p (pc2 := 8) (lv2 := [(0, vR 77)]) (st2 := [vR 77]) (fun ad S Q _ k => V_aload_n (pc2 := 8) (dk D_X5_readTry 3 rfl) rfl (V_lg 0 rfl) rfl k) ?_
  refine K_getF kc5 (h' := 68) (pc2 := 11) 2 (by decide) (dk D_X5_readTry 4 rfl) fl_5_25 (by decide) (fun _ _ => rfl) rfl (fixH 77 5 (by decide) rfl) (by decide) ?_
  refine K_p (pc2 := 13) (lv2 := [(0, vR 77)]) (st2 := [vI _, vR 68]) (fun ad S Q _ k => V_bipush (x := 40) (pc2 := 13) (dk D_X5_readTry 5 rfl) (by decide) rfl k) ?_
  refine K_p (pc2 := 14) (lv2 := [(0, vR 77)]) (st2 := [vI _, vI _, vR 68]) (fun ad S Q _ k => V_iconst (x := 0) (pc2 := 14) (dk D_X5_readTry 6 rfl) (by decide) rfl k) ?_
  obtain ⟨e6, he7, hc8⟩ := h
  refine K_call (as := [vR 68, vI _, vI _]) (st := []) (pc2 := 17) (okL.all _ ⟨(Or.inr ⟨Or.inl ⟨by decide, by decide⟩, by decide⟩), trivial⟩) (okS.all _ trivial) (fun ad S Q Qc hC hc k => V_callV (as := [_, _]) (st := []) (M' := MX1_add) (ci := 1) (pc2 := 17) (dk D_X5_readTry 7 rfl) ml_5_57 mv_X1_add rfl rfl (by decide) rfl (Nat.le_of_ble_eq_true rfl) rfl he7 (hC.k' (fixH 68 1 (by decide) rfl)) hc k) hc8 (kRI.k fun y9 κ10 h mo11 => ?_)
  refine K_p (pc2 := 18) (lv2 := [(0, vR 77), (1, vI _)]) (st2 := []) (fun ad S Q _ k => V_istore_n (pc2 := 18) (lv2 := [(0, _), (1, _)]) (dk D_X5_readTry 8 rfl) rfl (by decide) rfl rfl k) ?_
  refine K_p (pc2 := 19) (lv2 := [(0, vR 77), (1, vI _)]) (st2 := [vR 77]) (fun ad S Q _ k => V_aload_n (pc2 := 19) (dk D_X5_readTry 9 rfl) rfl (V_lg 0 rfl) rfl k) ?_
  obtain ⟨e12, he13, hc14⟩ := h
  refine K_call (as := [vR 77]) (st := []) (pc2 := 22) (okL.all _ ⟨(Or.inr ⟨Or.inl ⟨by decide, by decide⟩, by decide⟩), trivial, trivial⟩) (okS.all _ trivial) (fun ad S Q Qc hC hc k => V_callV (as := []) (st := []) (M' := MX5_readBlock) (ci := 5) (pc2 := 22) (dk D_X5_readTry 10 rfl) ml_5_48 mv_X5_readBlock rfl rfl (by decide) rfl (Nat.le_of_ble_eq_true rfl) rfl he13 (hC.k' (fixH 77 5 (by decide) rfl)) hc k) hc14 (kRI.k fun y15 κ16 h mo17 => ?_)
  refine K_if (pa := 25) (pb := 27) (lv2 := [(0, vR 77), (1, vI _)]) (st2 := []) (fun ad S Q _ k1 k2 => V_ifne (tgt := 27) (pc2 := 25) (dk D_X5_readTry 11 rfl) (by decide) rfl (fun q => k2 q) (fun q => k1 q)) (fun q18 => ?_) (fun q18 => ?_)
  · have h := h.1 q18
    refine K_p (pc2 := 26) (lv2 := [(0, vR 77), (1, vI _)]) (st2 := [vI _]) (fun ad S Q _ k => V_iconst (x := 0) (pc2 := 26) (dk D_X5_readTry 12 rfl) (by decide) rfl k) ?_
    exact K_ret (r := .inl (some (vI _))) (fun ad S Q _ k => V_zreturn (dk D_X5_readTry 13 rfl) rfl (Or.inl rfl) k) h
  · have h := h.2 q18
    refine K_p (pc2 := 28) (lv2 := [(0, vR 77), (1, vI _)]) (st2 := [vR 77]) (fun ad S Q _ k => V_aload_n (pc2 := 28) (dk D_X5_readTry 14 rfl) rfl (V_lg 0 rfl) rfl k) ?_
    refine K_getF kc5 (h' := 72) (pc2 := 31) 0 (by decide) (dk D_X5_readTry 15 rfl) fl_5_9 (by decide) (fun _ _ => rfl) rfl (fixH 77 5 (by decide) rfl) (by decide) ?_
    refine K_getI kc9 (pc2 := 34) 7 (dk D_X5_readTry 16 rfl) fl_5_41 (by decide) (fun _ _ => rfl) rfl (fixH 72 9 (by decide) rfl) ?_
    refine K_p (pc2 := 37) (lv2 := [(0, vR 77), (1, vI _)]) (st2 := [vI _, vI _]) (fun ad S Q _ k => V_sipush (x := 206) (pc2 := 37) (dk D_X5_readTry 17 rfl) (by decide) rfl k) ?_
    refine K_if (pa := 65) (pb := 40) (lv2 := [(0, vR 77), (1, vI _)]) (st2 := []) (fun ad S Q _ k1 k2 => V_cmpeq (tgt := 65) (pc2 := 40) (dk D_X5_readTry 18 rfl) (by decide) rfl (fun q => k1 q) (fun q => k2 q)) (fun q19 => ?_) (fun q19 => ?_)
    · have h := h.1 q19
      exact h
    · have h := h.2 q19
      refine K_p (pc2 := 41) (lv2 := [(0, vR 77), (1, vI _)]) (st2 := [vR 77]) (fun ad S Q _ k => V_aload_n (pc2 := 41) (dk D_X5_readTry 19 rfl) rfl (V_lg 0 rfl) rfl k) ?_
      refine K_getF kc5 (h' := 72) (pc2 := 44) 0 (by decide) (dk D_X5_readTry 20 rfl) fl_5_9 (by decide) (fun _ _ => rfl) rfl (fixH 77 5 (by decide) rfl) (by decide) ?_
      refine K_getI kc9 (pc2 := 47) 7 (dk D_X5_readTry 21 rfl) fl_5_41 (by decide) (fun _ _ => rfl) rfl (fixH 72 9 (by decide) rfl) ?_
      refine K_p (pc2 := 50) (lv2 := [(0, vR 77), (1, vI _)]) (st2 := [vI _, vI _]) (fun ad S Q _ k => V_sipush (x := 207) (pc2 := 50) (dk D_X5_readTry 22 rfl) (by decide) rfl k) ?_
      refine K_if (pa := 65) (pb := 53) (lv2 := [(0, vR 77), (1, vI _)]) (st2 := []) (fun ad S Q _ k1 k2 => V_cmpeq (tgt := 65) (pc2 := 53) (dk D_X5_readTry 23 rfl) (by decide) rfl (fun q => k1 q) (fun q => k2 q)) (fun q20 => ?_) (fun q20 => ?_)
      · have h := h.1 q20
        exact h
      · have h := h.2 q20
        refine K_p (pc2 := 54) (lv2 := [(0, vR 77), (1, vI _)]) (st2 := [vR 77]) (fun ad S Q _ k => V_aload_n (pc2 := 54) (dk D_X5_readTry 24 rfl) rfl (V_lg 0 rfl) rfl k) ?_
        refine K_p (pc2 := 55) (lv2 := [(0, vR 77), (1, vI _)]) (st2 := [vR 77, vR 77]) (fun ad S Q _ k => V_aload_n (pc2 := 55) (dk D_X5_readTry 25 rfl) rfl (V_lg 0 rfl) rfl k) ?_
        refine K_getF kc5 (h' := 72) (pc2 := 58) 0 (by decide) (dk D_X5_readTry 26 rfl) fl_5_9 (by decide) (fun _ _ => rfl) rfl (fixH 77 5 (by decide) rfl) (by decide) ?_
        refine K_getI kc9 (pc2 := 61) 8 (dk D_X5_readTry 27 rfl) fl_5_70 (by decide) (fun _ _ => rfl) rfl (fixH 72 9 (by decide) rfl) ?_
        obtain ⟨e21, he22, hc23⟩ := h
        refine K_call (as := [vR 77, vI _]) (st := []) (pc2 := 64) (okL.all _ ⟨(Or.inr ⟨Or.inl ⟨by decide, by decide⟩, by decide⟩), trivial, trivial⟩) (okS.all _ trivial) (fun ad S Q Qc hC hc k => V_callV (as := [_]) (st := []) (M' := MX5_refuse) (ci := 5) (pc2 := 64) (dk D_X5_readTry 28 rfl) ml_5_73 mv_X5_refuse rfl rfl (by decide) rfl (Nat.le_of_ble_eq_true rfl) rfl he22 (hC.k' (fixH 77 5 (by decide) rfl)) hc k) hc23 (kRI.k fun y24 κ25 h mo26 => ?_)
        obtain ⟨h27, h⟩ := h
        exact K_ret (r := .inl (some (vI _))) (fun ad S Q _ k => V_zreturn (dk D_X5_readTry 29 rfl) rfl h27 k) h
theorem k_5_readTry_65 {X : Cx} {d : Nat} {κ : Km} {Q : Res → Km → Prop} (x1 : Int32) (h : ∃ e1 : Nat, e1 + 1 ≤ d ∧ KC' X e1 MX1_add [vR 68, vI 15, vI (-9)] κ (kRI fun y4 κ5 => ∃ e7 : Nat, e7 + 1 ≤ d ∧ KC' X e7 MX1_size [vR 68] κ5 (kRI fun y10 κ11 => ∃ e13 : Nat, e13 + 1 ≤ d ∧ KC' X e13 MX1_patch [vR 68, vI x1, vI y10] κ11 (kRV fun  κ16 => K X d MX5_readTry 94 [(0, vR 77), (1, vI x1), (2, vI y4), (3, vI 0)] [] κ16 Q)))) : K X d MX5_readTry 65 [(0, vR 77), (1, vI x1)] [] κ Q := by
  refine K_p (pc2 := 66) (lv2 := [(0, vR 77), (1, vI _)]) (st2 := [vR 77]) (fun ad S Q _ k => V_aload_n (pc2 := 66) (dk D_X5_readTry 30 rfl) rfl (V_lg 0 rfl) rfl k) ?_
  refine K_getF kc5 (h' := 68) (pc2 := 69) 2 (by decide) (dk D_X5_readTry 31 rfl) fl_5_25 (by decide) (fun _ _ => rfl) rfl (fixH 77 5 (by decide) rfl) (by decide) ?_
  refine K_p (pc2 := 71) (lv2 := [(0, vR 77), (1, vI _)]) (st2 := [vI _, vR 68]) (fun ad S Q _ k => V_bipush (x := 15) (pc2 := 71) (dk D_X5_readTry 32 rfl) (by decide) rfl k) ?_
  refine K_p (pc2 := 73) (lv2 := [(0, vR 77), (1, vI _)]) (st2 := [vI _, vI _, vR 68]) (fun ad S Q _ k => V_bipush (x := (-9)) (pc2 := 73) (dk D_X5_readTry 33 rfl) (by decide) rfl k) ?_
  obtain ⟨e1, he2, hc3⟩ := h
  refine K_call (as := [vR 68, vI _, vI _]) (st := []) (pc2 := 76) (okL.all _ ⟨(Or.inr ⟨Or.inl ⟨by decide, by decide⟩, by decide⟩), trivial, trivial⟩) (okS.all _ trivial) (fun ad S Q Qc hC hc k => V_callV (as := [_, _]) (st := []) (M' := MX1_add) (ci := 1) (pc2 := 76) (dk D_X5_readTry 34 rfl) ml_5_57 mv_X1_add rfl rfl (by decide) rfl (Nat.le_of_ble_eq_true rfl) rfl he2 (hC.k' (fixH 68 1 (by decide) rfl)) hc k) hc3 (kRI.k fun y4 κ5 h mo6 => ?_)
  refine K_p (pc2 := 77) (lv2 := [(0, vR 77), (1, vI _), (2, vI _)]) (st2 := []) (fun ad S Q _ k => V_istore_n (pc2 := 77) (lv2 := [(0, _), (1, _), (2, _)]) (dk D_X5_readTry 35 rfl) rfl (by decide) rfl rfl k) ?_
  refine K_p (pc2 := 78) (lv2 := [(0, vR 77), (1, vI _), (2, vI _)]) (st2 := [vR 77]) (fun ad S Q _ k => V_aload_n (pc2 := 78) (dk D_X5_readTry 36 rfl) rfl (V_lg 0 rfl) rfl k) ?_
  refine K_getF kc5 (h' := 68) (pc2 := 81) 2 (by decide) (dk D_X5_readTry 37 rfl) fl_5_25 (by decide) (fun _ _ => rfl) rfl (fixH 77 5 (by decide) rfl) (by decide) ?_
  refine K_p (pc2 := 82) (lv2 := [(0, vR 77), (1, vI _), (2, vI _)]) (st2 := [vI _, vR 68]) (fun ad S Q _ k => V_iload_n (pc2 := 82) (dk D_X5_readTry 38 rfl) rfl (V_lg 1 rfl) rfl k) ?_
  refine K_p (pc2 := 83) (lv2 := [(0, vR 77), (1, vI _), (2, vI _)]) (st2 := [vR 77, vI _, vR 68]) (fun ad S Q _ k => V_aload_n (pc2 := 83) (dk D_X5_readTry 39 rfl) rfl (V_lg 0 rfl) rfl k) ?_
  refine K_getF kc5 (h' := 68) (pc2 := 86) 2 (by decide) (dk D_X5_readTry 40 rfl) fl_5_25 (by decide) (fun _ _ => rfl) rfl (fixH 77 5 (by decide) rfl) (by decide) ?_
  obtain ⟨e7, he8, hc9⟩ := h
  refine K_call (as := [vR 68]) (st := [vI _, vR 68]) (pc2 := 89) (okL.all _ ⟨(Or.inr ⟨Or.inl ⟨by decide, by decide⟩, by decide⟩), trivial, trivial, trivial⟩) (okS.all _ ⟨trivial, (Or.inr ⟨Or.inl ⟨by decide, by decide⟩, by decide⟩), trivial⟩) (fun ad S Q Qc hC hc k => V_callV (as := []) (st := [_, _]) (M' := MX1_size) (ci := 1) (pc2 := 89) (dk D_X5_readTry 41 rfl) ml_5_61 mv_X1_size rfl rfl (by decide) rfl (Nat.le_of_ble_eq_true rfl) rfl he8 (hC.k' (fixH 68 1 (by decide) rfl)) hc k) hc9 (kRI.k fun y10 κ11 h mo12 => ?_)
  obtain ⟨e13, he14, hc15⟩ := h
  refine K_call (as := [vR 68, vI _, vI _]) (st := []) (pc2 := 92) (okL.all _ ⟨(Or.inr ⟨Or.inl ⟨by decide, by decide⟩, by decide⟩), trivial, trivial, trivial⟩) (okS.all _ trivial) (fun ad S Q Qc hC hc k => V_callV (as := [_, _]) (st := []) (M' := MX1_patch) (ci := 1) (pc2 := 92) (dk D_X5_readTry 42 rfl) ml_5_168 mv_X1_patch rfl rfl (by decide) rfl (Nat.le_of_ble_eq_true rfl) rfl he14 (hC.k' (fixH 68 1 (by decide) rfl)) hc k) hc15 (kRV.k fun  κ16 h mo17 => ?_)
  refine K_p (pc2 := 93) (lv2 := [(0, vR 77), (1, vI _), (2, vI _)]) (st2 := [vI _]) (fun ad S Q _ k => V_iconst (x := 0) (pc2 := 93) (dk D_X5_readTry 43 rfl) (by decide) rfl k) ?_
  refine K_p (pc2 := 94) (lv2 := [(0, vR 77), (1, vI _), (2, vI _), (3, vI _)]) (st2 := []) (fun ad S Q _ k => V_istore_n (pc2 := 94) (lv2 := [(0, _), (1, _), (2, _), (3, _)]) (dk D_X5_readTry 44 rfl) rfl (by decide) rfl rfl k) ?_
  exact h
theorem k_5_readTry_94 {X : Cx} {d : Nat} {κ : Km} {Q : Res → Km → Prop} (x1 : Int32) (x2 : Int32) (x3 : Int32) (h : ((3001 ≤ x3 → K X d MX5_readTry 169 [(0, vR 77), (1, vI x1), (2, vI x2), (3, vI x3)] [] κ Q) ∧ (¬ 3001 ≤ x3 → (((kI κ 72 7) = 206 → ∃ e3 : Nat, e3 + 1 ≤ d ∧ KC' X e3 MX5_readCatchHead [vR 77] κ (kRI fun y6 κ7 => ((y6 = (-9) → K X d MX5_readTry 134 [(0, vR 77), (1, vI x1), (2, vI x2), (3, vI x3), (4, vI y6)] [] κ7 Q) ∧ (¬ y6 = (-9) → ∃ e10 : Nat, e10 + 1 ≤ d ∧ KC' X e10 MX5_readBlock [vR 77] κ7 (kRI fun y13 κ14 => ((y13 = 0 → K X d MX5_readTry 134 [(0, vR 77), (1, vI x1), (2, vI x2), (3, vI x3), (4, vI y6)] [] κ14 Q) ∧ (¬ y13 = 0 → ∃ e17 : Nat, e17 + 1 ≤ d ∧ KC' X e17 MX1_add [vR 68, vI 15, vI x2] κ14 (kRI fun y20 κ21 => ∃ e23 : Nat, e23 + 1 ≤ d ∧ KC' X e23 MX1_size [vR 68] κ21 (kRI fun y26 κ27 => ∃ e29 : Nat, e29 + 1 ≤ d ∧ KC' X e29 MX1_patch [vR 68, vI y6, vI y26] κ27 (kRV fun  κ32 => K X d MX5_readTry 94 [(0, vR 77), (1, vI x1), (2, vI y20), (3, vI (x3 + 1))] [] κ32 Q)))))))))) ∧ (¬ (kI κ 72 7) = 206 → K X d MX5_readTry 169 [(0, vR 77), (1, vI x1), (2, vI x2), (3, vI x3)] [] κ Q))))) : K X d MX5_readTry 94 [(0, vR 77), (1, vI x1), (2, vI x2), (3, vI x3)] [] κ Q := by
  refine K_p (pc2 := 95) (lv2 := [(0, vR 77), (1, vI _), (2, vI _), (3, vI _)]) (st2 := [vI _]) (fun ad S Q _ k => V_iload_n (pc2 := 95) (dk D_X5_readTry 45 rfl) rfl (V_lg 3 rfl) rfl k) ?_
  refine K_p (pc2 := 98) (lv2 := [(0, vR 77), (1, vI _), (2, vI _), (3, vI _)]) (st2 := [vI _, vI _]) (fun ad S Q _ k => V_sipush (x := 3001) (pc2 := 98) (dk D_X5_readTry 46 rfl) (by decide) rfl k) ?_
  refine K_if (pa := 169) (pb := 101) (lv2 := [(0, vR 77), (1, vI _), (2, vI _), (3, vI _)]) (st2 := []) (fun ad S Q _ k1 k2 => V_cmpge (tgt := 169) (pc2 := 101) (dk D_X5_readTry 47 rfl) (by decide) rfl (fun q => k1 q) (fun q => k2 q)) (fun q1 => ?_) (fun q1 => ?_)
  · have h := h.1 q1
    exact h
  · have h := h.2 q1
    refine K_p (pc2 := 102) (lv2 := [(0, vR 77), (1, vI _), (2, vI _), (3, vI _)]) (st2 := [vR 77]) (fun ad S Q _ k => V_aload_n (pc2 := 102) (dk D_X5_readTry 48 rfl) rfl (V_lg 0 rfl) rfl k) ?_
    refine K_getF kc5 (h' := 72) (pc2 := 105) 0 (by decide) (dk D_X5_readTry 49 rfl) fl_5_9 (by decide) (fun _ _ => rfl) rfl (fixH 77 5 (by decide) rfl) (by decide) ?_
    refine K_getI kc9 (pc2 := 108) 7 (dk D_X5_readTry 50 rfl) fl_5_41 (by decide) (fun _ _ => rfl) rfl (fixH 72 9 (by decide) rfl) ?_
    refine K_p (pc2 := 111) (lv2 := [(0, vR 77), (1, vI _), (2, vI _), (3, vI _)]) (st2 := [vI _, vI _]) (fun ad S Q _ k => V_sipush (x := 206) (pc2 := 111) (dk D_X5_readTry 51 rfl) (by decide) rfl k) ?_
    refine K_if (pa := 114) (pb := 169) (lv2 := [(0, vR 77), (1, vI _), (2, vI _), (3, vI _)]) (st2 := []) (fun ad S Q _ k1 k2 => V_cmpne (tgt := 169) (pc2 := 114) (dk D_X5_readTry 52 rfl) (by decide) rfl (fun q => k2 q) (fun q => k1 q)) (fun q2 => ?_) (fun q2 => ?_)
    · have h := h.1 q2
      refine K_p (pc2 := 115) (lv2 := [(0, vR 77), (1, vI _), (2, vI _), (3, vI _)]) (st2 := [vR 77]) (fun ad S Q _ k => V_aload_n (pc2 := 115) (dk D_X5_readTry 53 rfl) rfl (V_lg 0 rfl) rfl k) ?_
      obtain ⟨e3, he4, hc5⟩ := h
      refine K_call (as := [vR 77]) (st := []) (pc2 := 118) (okL.all _ ⟨(Or.inr ⟨Or.inl ⟨by decide, by decide⟩, by decide⟩), trivial, trivial, trivial, trivial⟩) (okS.all _ trivial) (fun ad S Q Qc hC hc k => V_callV (as := []) (st := []) (M' := MX5_readCatchHead) (ci := 5) (pc2 := 118) (dk D_X5_readTry 54 rfl) ml_5_172 mv_X5_readCatchHead rfl rfl (by decide) rfl (Nat.le_of_ble_eq_true rfl) rfl he4 (hC.k' (fixH 77 5 (by decide) rfl)) hc k) hc5 (kRI.k fun y6 κ7 h mo8 => ?_)
      refine K_p (pc2 := 120) (lv2 := [(0, vR 77), (1, vI _), (2, vI _), (3, vI _), (4, vI _)]) (st2 := []) (fun ad S Q _ k => V_istore (pc2 := 120) (lv2 := [(0, _), (1, _), (2, _), (3, _), (4, _)]) (dk D_X5_readTry 55 rfl) (by decide) rfl rfl k) ?_
      refine K_p (pc2 := 122) (lv2 := [(0, vR 77), (1, vI _), (2, vI _), (3, vI _), (4, vI _)]) (st2 := [vI _]) (fun ad S Q _ k => V_iload (pc2 := 122) (dk D_X5_readTry 56 rfl) (V_lg 4 rfl) rfl k) ?_
      refine K_p (pc2 := 124) (lv2 := [(0, vR 77), (1, vI _), (2, vI _), (3, vI _), (4, vI _)]) (st2 := [vI _, vI _]) (fun ad S Q _ k => V_bipush (x := (-9)) (pc2 := 124) (dk D_X5_readTry 57 rfl) (by decide) rfl k) ?_
      refine K_if (pa := 134) (pb := 127) (lv2 := [(0, vR 77), (1, vI _), (2, vI _), (3, vI _), (4, vI _)]) (st2 := []) (fun ad S Q _ k1 k2 => V_cmpeq (tgt := 134) (pc2 := 127) (dk D_X5_readTry 58 rfl) (by decide) rfl (fun q => k1 q) (fun q => k2 q)) (fun q9 => ?_) (fun q9 => ?_)
      · have h := h.1 q9
        exact h
      · have h := h.2 q9
        refine K_p (pc2 := 128) (lv2 := [(0, vR 77), (1, vI _), (2, vI _), (3, vI _), (4, vI _)]) (st2 := [vR 77]) (fun ad S Q _ k => V_aload_n (pc2 := 128) (dk D_X5_readTry 59 rfl) rfl (V_lg 0 rfl) rfl k) ?_
        obtain ⟨e10, he11, hc12⟩ := h
        refine K_call (as := [vR 77]) (st := []) (pc2 := 131) (okL.all _ ⟨(Or.inr ⟨Or.inl ⟨by decide, by decide⟩, by decide⟩), trivial, trivial, trivial, trivial, trivial⟩) (okS.all _ trivial) (fun ad S Q Qc hC hc k => V_callV (as := []) (st := []) (M' := MX5_readBlock) (ci := 5) (pc2 := 131) (dk D_X5_readTry 60 rfl) ml_5_48 mv_X5_readBlock rfl rfl (by decide) rfl (Nat.le_of_ble_eq_true rfl) rfl he11 (hC.k' (fixH 77 5 (by decide) rfl)) hc k) hc12 (kRI.k fun y13 κ14 h mo15 => ?_)
        refine K_if (pa := 134) (pb := 136) (lv2 := [(0, vR 77), (1, vI _), (2, vI _), (3, vI _), (4, vI _)]) (st2 := []) (fun ad S Q _ k1 k2 => V_ifne (tgt := 136) (pc2 := 134) (dk D_X5_readTry 61 rfl) (by decide) rfl (fun q => k2 q) (fun q => k1 q)) (fun q16 => ?_) (fun q16 => ?_)
        · have h := h.1 q16
          exact h
        · have h := h.2 q16
          refine K_p (pc2 := 137) (lv2 := [(0, vR 77), (1, vI _), (2, vI _), (3, vI _), (4, vI _)]) (st2 := [vR 77]) (fun ad S Q _ k => V_aload_n (pc2 := 137) (dk D_X5_readTry 64 rfl) rfl (V_lg 0 rfl) rfl k) ?_
          refine K_getF kc5 (h' := 68) (pc2 := 140) 2 (by decide) (dk D_X5_readTry 65 rfl) fl_5_25 (by decide) (fun _ _ => rfl) rfl (fixH 77 5 (by decide) rfl) (by decide) ?_
          refine K_p (pc2 := 142) (lv2 := [(0, vR 77), (1, vI _), (2, vI _), (3, vI _), (4, vI _)]) (st2 := [vI _, vR 68]) (fun ad S Q _ k => V_bipush (x := 15) (pc2 := 142) (dk D_X5_readTry 66 rfl) (by decide) rfl k) ?_
          refine K_p (pc2 := 143) (lv2 := [(0, vR 77), (1, vI _), (2, vI _), (3, vI _), (4, vI _)]) (st2 := [vI _, vI _, vR 68]) (fun ad S Q _ k => V_iload_n (pc2 := 143) (dk D_X5_readTry 67 rfl) rfl (V_lg 2 rfl) rfl k) ?_
          obtain ⟨e17, he18, hc19⟩ := h
          refine K_call (as := [vR 68, vI _, vI _]) (st := []) (pc2 := 146) (okL.all _ ⟨(Or.inr ⟨Or.inl ⟨by decide, by decide⟩, by decide⟩), trivial, trivial, trivial, trivial, trivial⟩) (okS.all _ trivial) (fun ad S Q Qc hC hc k => V_callV (as := [_, _]) (st := []) (M' := MX1_add) (ci := 1) (pc2 := 146) (dk D_X5_readTry 68 rfl) ml_5_57 mv_X1_add rfl rfl (by decide) rfl (Nat.le_of_ble_eq_true rfl) rfl he18 (hC.k' (fixH 68 1 (by decide) rfl)) hc k) hc19 (kRI.k fun y20 κ21 h mo22 => ?_)
          refine K_p (pc2 := 147) (lv2 := [(0, vR 77), (1, vI _), (2, vI _), (3, vI _), (4, vI _)]) (st2 := []) (fun ad S Q _ k => V_istore_n (pc2 := 147) (lv2 := [(0, _), (1, _), (2, _), (3, _), (4, _)]) (dk D_X5_readTry 69 rfl) rfl (by decide) rfl rfl k) ?_
          refine K_p (pc2 := 148) (lv2 := [(0, vR 77), (1, vI _), (2, vI _), (3, vI _), (4, vI _)]) (st2 := [vR 77]) (fun ad S Q _ k => V_aload_n (pc2 := 148) (dk D_X5_readTry 70 rfl) rfl (V_lg 0 rfl) rfl k) ?_
          refine K_getF kc5 (h' := 68) (pc2 := 151) 2 (by decide) (dk D_X5_readTry 71 rfl) fl_5_25 (by decide) (fun _ _ => rfl) rfl (fixH 77 5 (by decide) rfl) (by decide) ?_
          refine K_p (pc2 := 153) (lv2 := [(0, vR 77), (1, vI _), (2, vI _), (3, vI _), (4, vI _)]) (st2 := [vI _, vR 68]) (fun ad S Q _ k => V_iload (pc2 := 153) (dk D_X5_readTry 72 rfl) (V_lg 4 rfl) rfl k) ?_
          refine K_p (pc2 := 154) (lv2 := [(0, vR 77), (1, vI _), (2, vI _), (3, vI _), (4, vI _)]) (st2 := [vR 77, vI _, vR 68]) (fun ad S Q _ k => V_aload_n (pc2 := 154) (dk D_X5_readTry 73 rfl) rfl (V_lg 0 rfl) rfl k) ?_
          refine K_getF kc5 (h' := 68) (pc2 := 157) 2 (by decide) (dk D_X5_readTry 74 rfl) fl_5_25 (by decide) (fun _ _ => rfl) rfl (fixH 77 5 (by decide) rfl) (by decide) ?_
          obtain ⟨e23, he24, hc25⟩ := h
          refine K_call (as := [vR 68]) (st := [vI _, vR 68]) (pc2 := 160) (okL.all _ ⟨(Or.inr ⟨Or.inl ⟨by decide, by decide⟩, by decide⟩), trivial, trivial, trivial, trivial, trivial⟩) (okS.all _ ⟨trivial, (Or.inr ⟨Or.inl ⟨by decide, by decide⟩, by decide⟩), trivial⟩) (fun ad S Q Qc hC hc k => V_callV (as := []) (st := [_, _]) (M' := MX1_size) (ci := 1) (pc2 := 160) (dk D_X5_readTry 75 rfl) ml_5_61 mv_X1_size rfl rfl (by decide) rfl (Nat.le_of_ble_eq_true rfl) rfl he24 (hC.k' (fixH 68 1 (by decide) rfl)) hc k) hc25 (kRI.k fun y26 κ27 h mo28 => ?_)
          obtain ⟨e29, he30, hc31⟩ := h
          refine K_call (as := [vR 68, vI _, vI _]) (st := []) (pc2 := 163) (okL.all _ ⟨(Or.inr ⟨Or.inl ⟨by decide, by decide⟩, by decide⟩), trivial, trivial, trivial, trivial, trivial⟩) (okS.all _ trivial) (fun ad S Q Qc hC hc k => V_callV (as := [_, _]) (st := []) (M' := MX1_patch) (ci := 1) (pc2 := 163) (dk D_X5_readTry 76 rfl) ml_5_168 mv_X1_patch rfl rfl (by decide) rfl (Nat.le_of_ble_eq_true rfl) rfl he30 (hC.k' (fixH 68 1 (by decide) rfl)) hc k) hc31 (kRV.k fun  κ32 h mo33 => ?_)
          refine K_p (pc2 := 166) (lv2 := [(0, vR 77), (1, vI _), (2, vI _), (3, vI _), (4, vI _)]) (st2 := []) (fun ad S Q _ k => V_iinc (y := _ + 1) (pc2 := 166) (lv2 := [(0, _), (1, _), (2, _), (3, _), (4, _)]) (dk D_X5_readTry 77 rfl) (V_lg 3 rfl) rfl (by decide) rfl rfl k) ?_
          refine K_p (pc2 := 94) (lv2 := [(0, vR 77), (1, vI _), (2, vI _), (3, vI _), (4, vI _)]) (st2 := []) (fun ad S Q _ k => V_goto (tgt := 94) (dk D_X5_readTry 78 rfl) (by decide) k) ?_
          refine K_p (pc2 := 94) (lv2 := [(0, vR 77), (1, vI _), (2, vI _), (3, vI _)]) (st2 := []) (fun ad S Q _ k => V_pick [0, 1, 2, 3] (lv2 := [(0, _), (1, _), (2, _), (3, _)]) rfl k) ?_
          exact h
    · have h := h.2 q2
      exact h
theorem k_5_readTry_134 {X : Cx} {d : Nat} {κ : Km} {Q : Res → Km → Prop} (x1 : Int32) (x2 : Int32) (x3 : Int32) (x4 : Int32) (h : Q (.inl (some (vI 0))) κ) : K X d MX5_readTry 134 [(0, vR 77), (1, vI x1), (2, vI x2), (3, vI x3), (4, vI x4)] [] κ Q := by
  refine K_p (pc2 := 135) (lv2 := [(0, vR 77), (1, vI _), (2, vI _), (3, vI _), (4, vI _)]) (st2 := [vI _]) (fun ad S Q _ k => V_iconst (x := 0) (pc2 := 135) (dk D_X5_readTry 62 rfl) (by decide) rfl k) ?_
  exact K_ret (r := .inl (some (vI _))) (fun ad S Q _ k => V_zreturn (dk D_X5_readTry 63 rfl) rfl (Or.inl rfl) k) h
theorem k_5_readTry_169 {X : Cx} {d : Nat} {κ : Km} {Q : Res → Km → Prop} (x1 : Int32) (x2 : Int32) (x3 : Int32) (h : K X d MX5_readTry 171 [(0, vR 77), (1, vI x1), (2, vI x2), (3, vI 0)] [] κ Q) : K X d MX5_readTry 169 [(0, vR 77), (1, vI x1), (2, vI x2), (3, vI x3)] [] κ Q := by
  refine K_p (pc2 := 170) (lv2 := [(0, vR 77), (1, vI _), (2, vI _), (3, vI _)]) (st2 := [vI _]) (fun ad S Q _ k => V_iconst (x := 0) (pc2 := 170) (dk D_X5_readTry 79 rfl) (by decide) rfl k) ?_
  refine K_p (pc2 := 171) (lv2 := [(0, vR 77), (1, vI _), (2, vI _), (3, vI _)]) (st2 := []) (fun ad S Q _ k => V_istore_n (pc2 := 171) (lv2 := [(0, _), (1, _), (2, _), (3, _)]) (dk D_X5_readTry 80 rfl) rfl (by decide) rfl rfl k) ?_
  exact h
theorem k_5_readTry_171 {X : Cx} {d : Nat} {κ : Km} {Q : Res → Km → Prop} (x1 : Int32) (x2 : Int32) (x3 : Int32) (h : ((3001 ≤ x3 → K X d MX5_readTry 218 [(0, vR 77), (1, vI x1), (2, vI x2), (3, vI x3)] [] κ Q) ∧ (¬ 3001 ≤ x3 → ((x2 = (-9) → K X d MX5_readTry 218 [(0, vR 77), (1, vI x1), (2, vI x2), (3, vI x3)] [] κ Q) ∧ (¬ x2 = (-9) → ∃ e3 : Nat, e3 + 1 ≤ d ∧ KC' X e3 MX1_argument [vR 68, vI x2] κ (kRI fun y6 κ7 => ∃ e9 : Nat, e9 + 1 ≤ d ∧ KC' X e9 MX1_size [vR 68] κ7 (kRI fun y12 κ13 => ∃ e15 : Nat, e15 + 1 ≤ d ∧ KC' X e15 MX1_patch [vR 68, vI x2, vI y12] κ13 (kRV fun  κ18 => K X d MX5_readTry 171 [(0, vR 77), (1, vI x1), (2, vI y6), (3, vI (x3 + 1))] [] κ18 Q)))))))) : K X d MX5_readTry 171 [(0, vR 77), (1, vI x1), (2, vI x2), (3, vI x3)] [] κ Q := by
  refine K_p (pc2 := 172) (lv2 := [(0, vR 77), (1, vI _), (2, vI _), (3, vI _)]) (st2 := [vI _]) (fun ad S Q _ k => V_iload_n (pc2 := 172) (dk D_X5_readTry 81 rfl) rfl (V_lg 3 rfl) rfl k) ?_
  refine K_p (pc2 := 175) (lv2 := [(0, vR 77), (1, vI _), (2, vI _), (3, vI _)]) (st2 := [vI _, vI _]) (fun ad S Q _ k => V_sipush (x := 3001) (pc2 := 175) (dk D_X5_readTry 82 rfl) (by decide) rfl k) ?_
  refine K_if (pa := 218) (pb := 178) (lv2 := [(0, vR 77), (1, vI _), (2, vI _), (3, vI _)]) (st2 := []) (fun ad S Q _ k1 k2 => V_cmpge (tgt := 218) (pc2 := 178) (dk D_X5_readTry 83 rfl) (by decide) rfl (fun q => k1 q) (fun q => k2 q)) (fun q1 => ?_) (fun q1 => ?_)
  · have h := h.1 q1
    exact h
  · have h := h.2 q1
    refine K_p (pc2 := 179) (lv2 := [(0, vR 77), (1, vI _), (2, vI _), (3, vI _)]) (st2 := [vI _]) (fun ad S Q _ k => V_iload_n (pc2 := 179) (dk D_X5_readTry 84 rfl) rfl (V_lg 2 rfl) rfl k) ?_
    refine K_p (pc2 := 181) (lv2 := [(0, vR 77), (1, vI _), (2, vI _), (3, vI _)]) (st2 := [vI _, vI _]) (fun ad S Q _ k => V_bipush (x := (-9)) (pc2 := 181) (dk D_X5_readTry 85 rfl) (by decide) rfl k) ?_
    refine K_if (pa := 218) (pb := 184) (lv2 := [(0, vR 77), (1, vI _), (2, vI _), (3, vI _)]) (st2 := []) (fun ad S Q _ k1 k2 => V_cmpeq (tgt := 218) (pc2 := 184) (dk D_X5_readTry 86 rfl) (by decide) rfl (fun q => k1 q) (fun q => k2 q)) (fun q2 => ?_) (fun q2 => ?_)
    · have h := h.1 q2
      exact h
    · have h := h.2 q2
      refine K_p (pc2 := 185) (lv2 := [(0, vR 77), (1, vI _), (2, vI _), (3, vI _)]) (st2 := [vR 77]) (fun ad S Q _ k => V_aload_n (pc2 := 185) (dk D_X5_readTry 87 rfl) rfl (V_lg 0 rfl) rfl k) ?_
      refine K_getF kc5 (h' := 68) (pc2 := 188) 2 (by decide) (dk D_X5_readTry 88 rfl) fl_5_25 (by decide) (fun _ _ => rfl) rfl (fixH 77 5 (by decide) rfl) (by decide) ?_
      refine K_p (pc2 := 189) (lv2 := [(0, vR 77), (1, vI _), (2, vI _), (3, vI _)]) (st2 := [vI _, vR 68]) (fun ad S Q _ k => V_iload_n (pc2 := 189) (dk D_X5_readTry 89 rfl) rfl (V_lg 2 rfl) rfl k) ?_
      obtain ⟨e3, he4, hc5⟩ := h
      refine K_call (as := [vR 68, vI _]) (st := []) (pc2 := 192) (okL.all _ ⟨(Or.inr ⟨Or.inl ⟨by decide, by decide⟩, by decide⟩), trivial, trivial, trivial, trivial⟩) (okS.all _ trivial) (fun ad S Q Qc hC hc k => V_callV (as := [_]) (st := []) (M' := MX1_argument) (ci := 1) (pc2 := 192) (dk D_X5_readTry 90 rfl) ml_5_175 mv_X1_argument rfl rfl (by decide) rfl (Nat.le_of_ble_eq_true rfl) rfl he4 (hC.k' (fixH 68 1 (by decide) rfl)) hc k) hc5 (kRI.k fun y6 κ7 h mo8 => ?_)
      refine K_p (pc2 := 194) (lv2 := [(0, vR 77), (1, vI _), (2, vI _), (3, vI _), (4, vI _)]) (st2 := []) (fun ad S Q _ k => V_istore (pc2 := 194) (lv2 := [(0, _), (1, _), (2, _), (3, _), (4, _)]) (dk D_X5_readTry 91 rfl) (by decide) rfl rfl k) ?_
      refine K_p (pc2 := 195) (lv2 := [(0, vR 77), (1, vI _), (2, vI _), (3, vI _), (4, vI _)]) (st2 := [vR 77]) (fun ad S Q _ k => V_aload_n (pc2 := 195) (dk D_X5_readTry 92 rfl) rfl (V_lg 0 rfl) rfl k) ?_
      refine K_getF kc5 (h' := 68) (pc2 := 198) 2 (by decide) (dk D_X5_readTry 93 rfl) fl_5_25 (by decide) (fun _ _ => rfl) rfl (fixH 77 5 (by decide) rfl) (by decide) ?_
      refine K_p (pc2 := 199) (lv2 := [(0, vR 77), (1, vI _), (2, vI _), (3, vI _), (4, vI _)]) (st2 := [vI _, vR 68]) (fun ad S Q _ k => V_iload_n (pc2 := 199) (dk D_X5_readTry 94 rfl) rfl (V_lg 2 rfl) rfl k) ?_
      refine K_p (pc2 := 200) (lv2 := [(0, vR 77), (1, vI _), (2, vI _), (3, vI _), (4, vI _)]) (st2 := [vR 77, vI _, vR 68]) (fun ad S Q _ k => V_aload_n (pc2 := 200) (dk D_X5_readTry 95 rfl) rfl (V_lg 0 rfl) rfl k) ?_
      refine K_getF kc5 (h' := 68) (pc2 := 203) 2 (by decide) (dk D_X5_readTry 96 rfl) fl_5_25 (by decide) (fun _ _ => rfl) rfl (fixH 77 5 (by decide) rfl) (by decide) ?_
      obtain ⟨e9, he10, hc11⟩ := h
      refine K_call (as := [vR 68]) (st := [vI _, vR 68]) (pc2 := 206) (okL.all _ ⟨(Or.inr ⟨Or.inl ⟨by decide, by decide⟩, by decide⟩), trivial, trivial, trivial, trivial, trivial⟩) (okS.all _ ⟨trivial, (Or.inr ⟨Or.inl ⟨by decide, by decide⟩, by decide⟩), trivial⟩) (fun ad S Q Qc hC hc k => V_callV (as := []) (st := [_, _]) (M' := MX1_size) (ci := 1) (pc2 := 206) (dk D_X5_readTry 97 rfl) ml_5_61 mv_X1_size rfl rfl (by decide) rfl (Nat.le_of_ble_eq_true rfl) rfl he10 (hC.k' (fixH 68 1 (by decide) rfl)) hc k) hc11 (kRI.k fun y12 κ13 h mo14 => ?_)
      obtain ⟨e15, he16, hc17⟩ := h
      refine K_call (as := [vR 68, vI _, vI _]) (st := []) (pc2 := 209) (okL.all _ ⟨(Or.inr ⟨Or.inl ⟨by decide, by decide⟩, by decide⟩), trivial, trivial, trivial, trivial, trivial⟩) (okS.all _ trivial) (fun ad S Q Qc hC hc k => V_callV (as := [_, _]) (st := []) (M' := MX1_patch) (ci := 1) (pc2 := 209) (dk D_X5_readTry 98 rfl) ml_5_168 mv_X1_patch rfl rfl (by decide) rfl (Nat.le_of_ble_eq_true rfl) rfl he16 (hC.k' (fixH 68 1 (by decide) rfl)) hc k) hc17 (kRV.k fun  κ18 h mo19 => ?_)
      refine K_p (pc2 := 211) (lv2 := [(0, vR 77), (1, vI _), (2, vI _), (3, vI _), (4, vI _)]) (st2 := [vI _]) (fun ad S Q _ k => V_iload (pc2 := 211) (dk D_X5_readTry 99 rfl) (V_lg 4 rfl) rfl k) ?_
      refine K_p (pc2 := 212) (lv2 := [(0, vR 77), (1, vI _), (2, vI _), (3, vI _), (4, vI _)]) (st2 := []) (fun ad S Q _ k => V_istore_n (pc2 := 212) (lv2 := [(0, _), (1, _), (2, _), (3, _), (4, _)]) (dk D_X5_readTry 100 rfl) rfl (by decide) rfl rfl k) ?_
      refine K_p (pc2 := 215) (lv2 := [(0, vR 77), (1, vI _), (2, vI _), (3, vI _), (4, vI _)]) (st2 := []) (fun ad S Q _ k => V_iinc (y := _ + 1) (pc2 := 215) (lv2 := [(0, _), (1, _), (2, _), (3, _), (4, _)]) (dk D_X5_readTry 101 rfl) (V_lg 3 rfl) rfl (by decide) rfl rfl k) ?_
      refine K_p (pc2 := 171) (lv2 := [(0, vR 77), (1, vI _), (2, vI _), (3, vI _), (4, vI _)]) (st2 := []) (fun ad S Q _ k => V_goto (tgt := 171) (dk D_X5_readTry 102 rfl) (by decide) k) ?_
      refine K_p (pc2 := 171) (lv2 := [(0, vR 77), (1, vI _), (2, vI _), (3, vI _)]) (st2 := []) (fun ad S Q _ k => V_pick [0, 1, 2, 3] (lv2 := [(0, _), (1, _), (2, _), (3, _)]) rfl k) ?_
      exact h
theorem k_5_readTry_218 {X : Cx} {d : Nat} {κ : Km} {Q : Res → Km → Prop} (x1 : Int32) (x2 : Int32) (x3 : Int32) (h : ∃ e1 : Nat, e1 + 1 ≤ d ∧ KC' X e1 MX5_readFinally [vR 77] κ (kRI fun y4 κ5 => (y4 = 0 ∨ y4 = 1) ∧ Q (.inl (some (vI y4))) κ5)) : K X d MX5_readTry 218 [(0, vR 77), (1, vI x1), (2, vI x2), (3, vI x3)] [] κ Q := by
  refine K_p (pc2 := 219) (lv2 := [(0, vR 77), (1, vI _), (2, vI _), (3, vI _)]) (st2 := [vR 77]) (fun ad S Q _ k => V_aload_n (pc2 := 219) (dk D_X5_readTry 103 rfl) rfl (V_lg 0 rfl) rfl k) ?_
  obtain ⟨e1, he2, hc3⟩ := h
  refine K_call (as := [vR 77]) (st := []) (pc2 := 222) (okL.all _ ⟨(Or.inr ⟨Or.inl ⟨by decide, by decide⟩, by decide⟩), trivial, trivial, trivial, trivial⟩) (okS.all _ trivial) (fun ad S Q Qc hC hc k => V_callV (as := []) (st := []) (M' := MX5_readFinally) (ci := 5) (pc2 := 222) (dk D_X5_readTry 104 rfl) ml_5_179 mv_X5_readFinally rfl rfl (by decide) rfl (Nat.le_of_ble_eq_true rfl) rfl he2 (hC.k' (fixH 77 5 (by decide) rfl)) hc k) hc3 (kRI.k fun y4 κ5 h mo6 => ?_)
  obtain ⟨h7, h⟩ := h
  exact K_ret (r := .inl (some (vI _))) (fun ad S Q _ k => V_zreturn (dk D_X5_readTry 105 rfl) rfl h7 k) h
theorem k_5_readCatchHead_0 {X : Cx} {d : Nat} {κ : Km} {Q : Res → Km → Prop}  (h : ∃ e1 : Nat, e1 + 1 ≤ d ∧ KC' X e1 MX9_next [vR 72] κ (kRV fun  κ4 => (((kI κ4 72 7) = 3 → K X d MX5_readCatchHead 32 [(0, vR 77), (1, vI (-1))] [] κ4 Q) ∧ (¬ (kI κ4 72 7) = 3 → (((kI κ4 72 7) = 6 → K X d MX5_readCatchHead 32 [(0, vR 77), (1, vI (-1))] [] κ4 Q) ∧ (¬ (kI κ4 72 7) = 6 → K X d MX5_readCatchHead 54 [(0, vR 77), (1, vI (-1))] [] κ4 Q)))))) : K X d MX5_readCatchHead 0 [(0, vR 77)] [] κ Q := by
  refine K_p (pc2 := 1) (lv2 := [(0, vR 77)]) (st2 := [vR 77]) (fun ad S Q _ k => V_aload_n (pc2 := 1) (dk D_X5_readCatchHead 0 rfl) rfl (V_lg 0 rfl) rfl k) ?_
  refine K_getF kc5 (h' := 72) (pc2 := 4) 0 (by decide) (dk D_X5_readCatchHead 1 rfl) fl_5_9 (by decide) (fun _ _ => rfl) rfl (fixH 77 5 (by decide) rfl) (by decide) ?_
  obtain ⟨e1, he2, hc3⟩ := h
  refine K_call (as := [vR 72]) (st := []) (pc2 := 7) (okL.all _ ⟨(Or.inr ⟨Or.inl ⟨by decide, by decide⟩, by decide⟩), trivial⟩) (okS.all _ trivial) (fun ad S Q Qc hC hc k => V_callV (as := []) (st := []) (M' := MX9_next) (ci := 9) (pc2 := 7) (dk D_X5_readCatchHead 2 rfl) ml_5_77 mv_X9_next rfl rfl (by decide) rfl (Nat.le_of_ble_eq_true rfl) rfl he2 (hC.k' (fixH 72 9 (by decide) rfl)) hc k) hc3 (kRV.k fun  κ4 h mo5 => ?_)
  refine K_p (pc2 := 8) (lv2 := [(0, vR 77)]) (st2 := [vI _]) (fun ad S Q _ k => V_iconst (x := (-1)) (pc2 := 8) (dk D_X5_readCatchHead 3 rfl) (by decide) rfl k) ?_
  refine K_p (pc2 := 9) (lv2 := [(0, vR 77), (1, vI _)]) (st2 := []) (fun ad S Q _ k => V_istore_n (pc2 := 9) (lv2 := [(0, _), (1, _)]) (dk D_X5_readCatchHead 4 rfl) rfl (by decide) rfl rfl k) ?_
  refine K_p (pc2 := 10) (lv2 := [(0, vR 77), (1, vI _)]) (st2 := [vR 77]) (fun ad S Q _ k => V_aload_n (pc2 := 10) (dk D_X5_readCatchHead 5 rfl) rfl (V_lg 0 rfl) rfl k) ?_
  refine K_getF kc5 (h' := 72) (pc2 := 13) 0 (by decide) (dk D_X5_readCatchHead 6 rfl) fl_5_9 (by decide) (fun _ _ => rfl) rfl (fixH 77 5 (by decide) rfl) (by decide) ?_
  refine K_getI kc9 (pc2 := 16) 7 (dk D_X5_readCatchHead 7 rfl) fl_5_41 (by decide) (fun _ _ => rfl) rfl (fixH 72 9 (by decide) rfl) ?_
  refine K_p (pc2 := 17) (lv2 := [(0, vR 77), (1, vI _)]) (st2 := [vI _, vI _]) (fun ad S Q _ k => V_iconst (x := 3) (pc2 := 17) (dk D_X5_readCatchHead 8 rfl) (by decide) rfl k) ?_
  refine K_if (pa := 32) (pb := 20) (lv2 := [(0, vR 77), (1, vI _)]) (st2 := []) (fun ad S Q _ k1 k2 => V_cmpeq (tgt := 32) (pc2 := 20) (dk D_X5_readCatchHead 9 rfl) (by decide) rfl (fun q => k1 q) (fun q => k2 q)) (fun q6 => ?_) (fun q6 => ?_)
  · have h := h.1 q6
    exact h
  · have h := h.2 q6
    refine K_p (pc2 := 21) (lv2 := [(0, vR 77), (1, vI _)]) (st2 := [vR 77]) (fun ad S Q _ k => V_aload_n (pc2 := 21) (dk D_X5_readCatchHead 10 rfl) rfl (V_lg 0 rfl) rfl k) ?_
    refine K_getF kc5 (h' := 72) (pc2 := 24) 0 (by decide) (dk D_X5_readCatchHead 11 rfl) fl_5_9 (by decide) (fun _ _ => rfl) rfl (fixH 77 5 (by decide) rfl) (by decide) ?_
    refine K_getI kc9 (pc2 := 27) 7 (dk D_X5_readCatchHead 12 rfl) fl_5_41 (by decide) (fun _ _ => rfl) rfl (fixH 72 9 (by decide) rfl) ?_
    refine K_p (pc2 := 29) (lv2 := [(0, vR 77), (1, vI _)]) (st2 := [vI _, vI _]) (fun ad S Q _ k => V_bipush (x := 6) (pc2 := 29) (dk D_X5_readCatchHead 13 rfl) (by decide) rfl k) ?_
    refine K_if (pa := 32) (pb := 54) (lv2 := [(0, vR 77), (1, vI _)]) (st2 := []) (fun ad S Q _ k1 k2 => V_cmpne (tgt := 54) (pc2 := 32) (dk D_X5_readCatchHead 14 rfl) (by decide) rfl (fun q => k2 q) (fun q => k1 q)) (fun q7 => ?_) (fun q7 => ?_)
    · have h := h.1 q7
      exact h
    · have h := h.2 q7
      exact h
theorem k_5_readCatchHead_32 {X : Cx} {d : Nat} {κ : Km} {Q : Res → Km → Prop} (x1 : Int32) (h : ∃ e1 : Nat, e1 + 1 ≤ d ∧ KC' X e1 MX5_isNumber [vR 77] κ (kRI fun y4 κ5 => ((y4 = 0 → Q (.inl (some (vI (-9)))) κ5) ∧ (¬ y4 = 0 → ∃ e8 : Nat, e8 + 1 ≤ d ∧ KC' X e8 MX5_numberHere [vR 77] κ5 (kRI fun y11 κ12 => ∃ e14 : Nat, e14 + 1 ≤ d ∧ KC' X e14 MX9_next [vR 72] κ12 (kRV fun  κ17 => K X d MX5_readCatchHead 54 [(0, vR 77), (1, vI y11)] [] κ17 Q)))))) : K X d MX5_readCatchHead 32 [(0, vR 77), (1, vI x1)] [] κ Q := by
  refine K_p (pc2 := 33) (lv2 := [(0, vR 77), (1, vI _)]) (st2 := [vR 77]) (fun ad S Q _ k => V_aload_n (pc2 := 33) (dk D_X5_readCatchHead 15 rfl) rfl (V_lg 0 rfl) rfl k) ?_
  obtain ⟨e1, he2, hc3⟩ := h
  refine K_call (as := [vR 77]) (st := []) (pc2 := 36) (okL.all _ ⟨(Or.inr ⟨Or.inl ⟨by decide, by decide⟩, by decide⟩), trivial, trivial⟩) (okS.all _ trivial) (fun ad S Q Qc hC hc k => V_callV (as := []) (st := []) (M' := MX5_isNumber) (ci := 5) (pc2 := 36) (dk D_X5_readCatchHead 16 rfl) ml_5_159 mv_X5_isNumber rfl rfl (by decide) rfl (Nat.le_of_ble_eq_true rfl) rfl he2 (hC.k' (fixH 77 5 (by decide) rfl)) hc k) hc3 (kRI.k fun y4 κ5 h mo6 => ?_)
  refine K_if (pa := 39) (pb := 42) (lv2 := [(0, vR 77), (1, vI _)]) (st2 := []) (fun ad S Q _ k1 k2 => V_ifne (tgt := 42) (pc2 := 39) (dk D_X5_readCatchHead 17 rfl) (by decide) rfl (fun q => k2 q) (fun q => k1 q)) (fun q7 => ?_) (fun q7 => ?_)
  · have h := h.1 q7
    refine K_p (pc2 := 41) (lv2 := [(0, vR 77), (1, vI _)]) (st2 := [vI _]) (fun ad S Q _ k => V_bipush (x := (-9)) (pc2 := 41) (dk D_X5_readCatchHead 18 rfl) (by decide) rfl k) ?_
    exact K_ret (r := .inl (some (vI _))) (fun ad S Q _ k => V_ireturn (dk D_X5_readCatchHead 19 rfl) rfl k) h
  · have h := h.2 q7
    refine K_p (pc2 := 43) (lv2 := [(0, vR 77), (1, vI _)]) (st2 := [vR 77]) (fun ad S Q _ k => V_aload_n (pc2 := 43) (dk D_X5_readCatchHead 20 rfl) rfl (V_lg 0 rfl) rfl k) ?_
    obtain ⟨e8, he9, hc10⟩ := h
    refine K_call (as := [vR 77]) (st := []) (pc2 := 46) (okL.all _ ⟨(Or.inr ⟨Or.inl ⟨by decide, by decide⟩, by decide⟩), trivial, trivial⟩) (okS.all _ trivial) (fun ad S Q Qc hC hc k => V_callV (as := []) (st := []) (M' := MX5_numberHere) (ci := 5) (pc2 := 46) (dk D_X5_readCatchHead 21 rfl) ml_5_162 mv_X5_numberHere rfl rfl (by decide) rfl (Nat.le_of_ble_eq_true rfl) rfl he9 (hC.k' (fixH 77 5 (by decide) rfl)) hc k) hc10 (kRI.k fun y11 κ12 h mo13 => ?_)
    refine K_p (pc2 := 47) (lv2 := [(0, vR 77), (1, vI _)]) (st2 := []) (fun ad S Q _ k => V_istore_n (pc2 := 47) (lv2 := [(0, _), (1, _)]) (dk D_X5_readCatchHead 22 rfl) rfl (by decide) rfl rfl k) ?_
    refine K_p (pc2 := 48) (lv2 := [(0, vR 77), (1, vI _)]) (st2 := [vR 77]) (fun ad S Q _ k => V_aload_n (pc2 := 48) (dk D_X5_readCatchHead 23 rfl) rfl (V_lg 0 rfl) rfl k) ?_
    refine K_getF kc5 (h' := 72) (pc2 := 51) 0 (by decide) (dk D_X5_readCatchHead 24 rfl) fl_5_9 (by decide) (fun _ _ => rfl) rfl (fixH 77 5 (by decide) rfl) (by decide) ?_
    obtain ⟨e14, he15, hc16⟩ := h
    refine K_call (as := [vR 72]) (st := []) (pc2 := 54) (okL.all _ ⟨(Or.inr ⟨Or.inl ⟨by decide, by decide⟩, by decide⟩), trivial, trivial⟩) (okS.all _ trivial) (fun ad S Q Qc hC hc k => V_callV (as := []) (st := []) (M' := MX9_next) (ci := 9) (pc2 := 54) (dk D_X5_readCatchHead 25 rfl) ml_5_77 mv_X9_next rfl rfl (by decide) rfl (Nat.le_of_ble_eq_true rfl) rfl he15 (hC.k' (fixH 72 9 (by decide) rfl)) hc k) hc16 (kRV.k fun  κ17 h mo18 => ?_)
    exact h
theorem k_5_readCatchHead_54 {X : Cx} {d : Nat} {κ : Km} {Q : Res → Km → Prop} (x1 : Int32) (h : ∃ e1 : Nat, e1 + 1 ≤ d ∧ KC' X e1 MX5_isName [vR 77] κ (kRI fun y4 κ5 => ((y4 = 0 → Q (.inl (some (vI (-9)))) κ5) ∧ (¬ y4 = 0 → ∃ e8 : Nat, e8 + 1 ≤ d ∧ KC' X e8 MX1_add [vR 68, vI 41, vI x1] κ5 (kRI fun y11 κ12 => ∃ e14 : Nat, e14 + 1 ≤ d ∧ KC' X e14 MX1_add [vR 68, vI 42, vI 0] κ12 (kRI fun y17 κ18 => ∃ e20 : Nat, e20 + 1 ≤ d ∧ KC' X e20 MX5_declareHere [vR 77] κ18 (kRI fun y23 κ24 => ∃ e26 : Nat, e26 + 1 ≤ d ∧ KC' X e26 MX1_add [vR 68, vI 3, vI y23] κ24 (kRI fun y29 κ30 => ∃ e32 : Nat, e32 + 1 ≤ d ∧ KC' X e32 MX9_next [vR 72] κ30 (kRV fun  κ35 => Q (.inl (some (vI y17))) κ35))))))))) : K X d MX5_readCatchHead 54 [(0, vR 77), (1, vI x1)] [] κ Q := by
  refine K_p (pc2 := 55) (lv2 := [(0, vR 77), (1, vI _)]) (st2 := [vR 77]) (fun ad S Q _ k => V_aload_n (pc2 := 55) (dk D_X5_readCatchHead 26 rfl) rfl (V_lg 0 rfl) rfl k) ?_
  obtain ⟨e1, he2, hc3⟩ := h
  refine K_call (as := [vR 77]) (st := []) (pc2 := 58) (okL.all _ ⟨(Or.inr ⟨Or.inl ⟨by decide, by decide⟩, by decide⟩), trivial, trivial⟩) (okS.all _ trivial) (fun ad S Q Qc hC hc k => V_callV (as := []) (st := []) (M' := MX5_isName) (ci := 5) (pc2 := 58) (dk D_X5_readCatchHead 27 rfl) ml_5_90 mv_X5_isName rfl rfl (by decide) rfl (Nat.le_of_ble_eq_true rfl) rfl he2 (hC.k' (fixH 77 5 (by decide) rfl)) hc k) hc3 (kRI.k fun y4 κ5 h mo6 => ?_)
  refine K_if (pa := 61) (pb := 64) (lv2 := [(0, vR 77), (1, vI _)]) (st2 := []) (fun ad S Q _ k1 k2 => V_ifne (tgt := 64) (pc2 := 61) (dk D_X5_readCatchHead 28 rfl) (by decide) rfl (fun q => k2 q) (fun q => k1 q)) (fun q7 => ?_) (fun q7 => ?_)
  · have h := h.1 q7
    refine K_p (pc2 := 63) (lv2 := [(0, vR 77), (1, vI _)]) (st2 := [vI _]) (fun ad S Q _ k => V_bipush (x := (-9)) (pc2 := 63) (dk D_X5_readCatchHead 29 rfl) (by decide) rfl k) ?_
    exact K_ret (r := .inl (some (vI _))) (fun ad S Q _ k => V_ireturn (dk D_X5_readCatchHead 30 rfl) rfl k) h
  · have h := h.2 q7
    refine K_p (pc2 := 65) (lv2 := [(0, vR 77), (1, vI _)]) (st2 := [vR 77]) (fun ad S Q _ k => V_aload_n (pc2 := 65) (dk D_X5_readCatchHead 31 rfl) rfl (V_lg 0 rfl) rfl k) ?_
    refine K_getF kc5 (h' := 68) (pc2 := 68) 2 (by decide) (dk D_X5_readCatchHead 32 rfl) fl_5_25 (by decide) (fun _ _ => rfl) rfl (fixH 77 5 (by decide) rfl) (by decide) ?_
    refine K_p (pc2 := 70) (lv2 := [(0, vR 77), (1, vI _)]) (st2 := [vI _, vR 68]) (fun ad S Q _ k => V_bipush (x := 41) (pc2 := 70) (dk D_X5_readCatchHead 33 rfl) (by decide) rfl k) ?_
    refine K_p (pc2 := 71) (lv2 := [(0, vR 77), (1, vI _)]) (st2 := [vI _, vI _, vR 68]) (fun ad S Q _ k => V_iload_n (pc2 := 71) (dk D_X5_readCatchHead 34 rfl) rfl (V_lg 1 rfl) rfl k) ?_
    obtain ⟨e8, he9, hc10⟩ := h
    refine K_call (as := [vR 68, vI _, vI _]) (st := []) (pc2 := 74) (okL.all _ ⟨(Or.inr ⟨Or.inl ⟨by decide, by decide⟩, by decide⟩), trivial, trivial⟩) (okS.all _ trivial) (fun ad S Q Qc hC hc k => V_callV (as := [_, _]) (st := []) (M' := MX1_add) (ci := 1) (pc2 := 74) (dk D_X5_readCatchHead 35 rfl) ml_5_57 mv_X1_add rfl rfl (by decide) rfl (Nat.le_of_ble_eq_true rfl) rfl he9 (hC.k' (fixH 68 1 (by decide) rfl)) hc k) hc10 (kRI.k fun y11 κ12 h mo13 => ?_)
    refine K_p (pc2 := 75) (lv2 := [(0, vR 77), (1, vI _)]) (st2 := []) (fun ad S Q _ k => V_pop (pc2 := 75) (dk D_X5_readCatchHead 36 rfl) rfl rfl k) ?_
    refine K_p (pc2 := 76) (lv2 := [(0, vR 77), (1, vI _)]) (st2 := [vR 77]) (fun ad S Q _ k => V_aload_n (pc2 := 76) (dk D_X5_readCatchHead 37 rfl) rfl (V_lg 0 rfl) rfl k) ?_
    refine K_getF kc5 (h' := 68) (pc2 := 79) 2 (by decide) (dk D_X5_readCatchHead 38 rfl) fl_5_25 (by decide) (fun _ _ => rfl) rfl (fixH 77 5 (by decide) rfl) (by decide) ?_
    refine K_p (pc2 := 81) (lv2 := [(0, vR 77), (1, vI _)]) (st2 := [vI _, vR 68]) (fun ad S Q _ k => V_bipush (x := 42) (pc2 := 81) (dk D_X5_readCatchHead 39 rfl) (by decide) rfl k) ?_
    refine K_p (pc2 := 82) (lv2 := [(0, vR 77), (1, vI _)]) (st2 := [vI _, vI _, vR 68]) (fun ad S Q _ k => V_iconst (x := 0) (pc2 := 82) (dk D_X5_readCatchHead 40 rfl) (by decide) rfl k) ?_
    obtain ⟨e14, he15, hc16⟩ := h
    refine K_call (as := [vR 68, vI _, vI _]) (st := []) (pc2 := 85) (okL.all _ ⟨(Or.inr ⟨Or.inl ⟨by decide, by decide⟩, by decide⟩), trivial, trivial⟩) (okS.all _ trivial) (fun ad S Q Qc hC hc k => V_callV (as := [_, _]) (st := []) (M' := MX1_add) (ci := 1) (pc2 := 85) (dk D_X5_readCatchHead 41 rfl) ml_5_57 mv_X1_add rfl rfl (by decide) rfl (Nat.le_of_ble_eq_true rfl) rfl he15 (hC.k' (fixH 68 1 (by decide) rfl)) hc k) hc16 (kRI.k fun y17 κ18 h mo19 => ?_)
    refine K_p (pc2 := 86) (lv2 := [(0, vR 77), (1, vI _), (2, vI _)]) (st2 := []) (fun ad S Q _ k => V_istore_n (pc2 := 86) (lv2 := [(0, _), (1, _), (2, _)]) (dk D_X5_readCatchHead 42 rfl) rfl (by decide) rfl rfl k) ?_
    refine K_p (pc2 := 87) (lv2 := [(0, vR 77), (1, vI _), (2, vI _)]) (st2 := [vR 77]) (fun ad S Q _ k => V_aload_n (pc2 := 87) (dk D_X5_readCatchHead 43 rfl) rfl (V_lg 0 rfl) rfl k) ?_
    refine K_getF kc5 (h' := 68) (pc2 := 90) 2 (by decide) (dk D_X5_readCatchHead 44 rfl) fl_5_25 (by decide) (fun _ _ => rfl) rfl (fixH 77 5 (by decide) rfl) (by decide) ?_
    refine K_p (pc2 := 91) (lv2 := [(0, vR 77), (1, vI _), (2, vI _)]) (st2 := [vI _, vR 68]) (fun ad S Q _ k => V_iconst (x := 3) (pc2 := 91) (dk D_X5_readCatchHead 45 rfl) (by decide) rfl k) ?_
    refine K_p (pc2 := 92) (lv2 := [(0, vR 77), (1, vI _), (2, vI _)]) (st2 := [vR 77, vI _, vR 68]) (fun ad S Q _ k => V_aload_n (pc2 := 92) (dk D_X5_readCatchHead 46 rfl) rfl (V_lg 0 rfl) rfl k) ?_
    obtain ⟨e20, he21, hc22⟩ := h
    refine K_call (as := [vR 77]) (st := [vI _, vR 68]) (pc2 := 95) (okL.all _ ⟨(Or.inr ⟨Or.inl ⟨by decide, by decide⟩, by decide⟩), trivial, trivial, trivial⟩) (okS.all _ ⟨trivial, (Or.inr ⟨Or.inl ⟨by decide, by decide⟩, by decide⟩), trivial⟩) (fun ad S Q Qc hC hc k => V_callV (as := []) (st := [_, _]) (M' := MX5_declareHere) (ci := 5) (pc2 := 95) (dk D_X5_readCatchHead 47 rfl) ml_5_150 mv_X5_declareHere rfl rfl (by decide) rfl (Nat.le_of_ble_eq_true rfl) rfl he21 (hC.k' (fixH 77 5 (by decide) rfl)) hc k) hc22 (kRI.k fun y23 κ24 h mo25 => ?_)
    obtain ⟨e26, he27, hc28⟩ := h
    refine K_call (as := [vR 68, vI _, vI _]) (st := []) (pc2 := 98) (okL.all _ ⟨(Or.inr ⟨Or.inl ⟨by decide, by decide⟩, by decide⟩), trivial, trivial, trivial⟩) (okS.all _ trivial) (fun ad S Q Qc hC hc k => V_callV (as := [_, _]) (st := []) (M' := MX1_add) (ci := 1) (pc2 := 98) (dk D_X5_readCatchHead 48 rfl) ml_5_57 mv_X1_add rfl rfl (by decide) rfl (Nat.le_of_ble_eq_true rfl) rfl he27 (hC.k' (fixH 68 1 (by decide) rfl)) hc k) hc28 (kRI.k fun y29 κ30 h mo31 => ?_)
    refine K_p (pc2 := 99) (lv2 := [(0, vR 77), (1, vI _), (2, vI _)]) (st2 := []) (fun ad S Q _ k => V_pop (pc2 := 99) (dk D_X5_readCatchHead 49 rfl) rfl rfl k) ?_
    refine K_p (pc2 := 100) (lv2 := [(0, vR 77), (1, vI _), (2, vI _)]) (st2 := [vR 77]) (fun ad S Q _ k => V_aload_n (pc2 := 100) (dk D_X5_readCatchHead 50 rfl) rfl (V_lg 0 rfl) rfl k) ?_
    refine K_getF kc5 (h' := 72) (pc2 := 103) 0 (by decide) (dk D_X5_readCatchHead 51 rfl) fl_5_9 (by decide) (fun _ _ => rfl) rfl (fixH 77 5 (by decide) rfl) (by decide) ?_
    obtain ⟨e32, he33, hc34⟩ := h
    refine K_call (as := [vR 72]) (st := []) (pc2 := 106) (okL.all _ ⟨(Or.inr ⟨Or.inl ⟨by decide, by decide⟩, by decide⟩), trivial, trivial, trivial⟩) (okS.all _ trivial) (fun ad S Q Qc hC hc k => V_callV (as := []) (st := []) (M' := MX9_next) (ci := 9) (pc2 := 106) (dk D_X5_readCatchHead 52 rfl) ml_5_77 mv_X9_next rfl rfl (by decide) rfl (Nat.le_of_ble_eq_true rfl) rfl he33 (hC.k' (fixH 72 9 (by decide) rfl)) hc k) hc34 (kRV.k fun  κ35 h mo36 => ?_)
    refine K_p (pc2 := 107) (lv2 := [(0, vR 77), (1, vI _), (2, vI _)]) (st2 := [vI _]) (fun ad S Q _ k => V_iload_n (pc2 := 107) (dk D_X5_readCatchHead 53 rfl) rfl (V_lg 2 rfl) rfl k) ?_
    exact K_ret (r := .inl (some (vI _))) (fun ad S Q _ k => V_ireturn (dk D_X5_readCatchHead 54 rfl) rfl k) h
theorem k_5_readFinally_0 {X : Cx} {d : Nat} {κ : Km} {Q : Res → Km → Prop}  (h : (((kI κ 72 7) = 207 → ∃ e2 : Nat, e2 + 1 ≤ d ∧ KC' X e2 MX9_next [vR 72] κ (kRV fun  κ5 => ∃ e7 : Nat, e7 + 1 ≤ d ∧ KC' X e7 MX1_add [vR 68, vI 43, vI 0] κ5 (kRI fun y10 κ11 => ∃ e13 : Nat, e13 + 1 ≤ d ∧ KC' X e13 MX5_readBlock [vR 77] κ11 (kRI fun y16 κ17 => ((y16 = 0 → Q (.inl (some (vI 0))) κ17) ∧ (¬ y16 = 0 → ∃ e20 : Nat, e20 + 1 ≤ d ∧ KC' X e20 MX1_add [vR 68, vI 45, vI 0] κ17 (kRI fun y23 κ24 => Q (.inl (some (vI 1))) κ24))))))) ∧ (¬ (kI κ 72 7) = 207 → ∃ e26 : Nat, e26 + 1 ≤ d ∧ KC' X e26 MX1_add [vR 68, vI 44, vI 0] κ (kRI fun y29 κ30 => Q (.inl (some (vI 1))) κ30)))) : K X d MX5_readFinally 0 [(0, vR 77)] [] κ Q := by
  refine K_p (pc2 := 1) (lv2 := [(0, vR 77)]) (st2 := [vR 77]) (fun ad S Q _ k => V_aload_n (pc2 := 1) (dk D_X5_readFinally 0 rfl) rfl (V_lg 0 rfl) rfl k) ?_
  refine K_getF kc5 (h' := 72) (pc2 := 4) 0 (by decide) (dk D_X5_readFinally 1 rfl) fl_5_9 (by decide) (fun _ _ => rfl) rfl (fixH 77 5 (by decide) rfl) (by decide) ?_
  refine K_getI kc9 (pc2 := 7) 7 (dk D_X5_readFinally 2 rfl) fl_5_41 (by decide) (fun _ _ => rfl) rfl (fixH 72 9 (by decide) rfl) ?_
  refine K_p (pc2 := 10) (lv2 := [(0, vR 77)]) (st2 := [vI _, vI _]) (fun ad S Q _ k => V_sipush (x := 207) (pc2 := 10) (dk D_X5_readFinally 3 rfl) (by decide) rfl k) ?_
  refine K_if (pa := 26) (pb := 13) (lv2 := [(0, vR 77)]) (st2 := []) (fun ad S Q _ k1 k2 => V_cmpeq (tgt := 26) (pc2 := 13) (dk D_X5_readFinally 4 rfl) (by decide) rfl (fun q => k1 q) (fun q => k2 q)) (fun q1 => ?_) (fun q1 => ?_)
  · have h := h.1 q1
    refine K_p (pc2 := 27) (lv2 := [(0, vR 77)]) (st2 := [vR 77]) (fun ad S Q _ k => V_aload_n (pc2 := 27) (dk D_X5_readFinally 13 rfl) rfl (V_lg 0 rfl) rfl k) ?_
    refine K_getF kc5 (h' := 72) (pc2 := 30) 0 (by decide) (dk D_X5_readFinally 14 rfl) fl_5_9 (by decide) (fun _ _ => rfl) rfl (fixH 77 5 (by decide) rfl) (by decide) ?_
    obtain ⟨e2, he3, hc4⟩ := h
    refine K_call (as := [vR 72]) (st := []) (pc2 := 33) (okL.all _ ⟨(Or.inr ⟨Or.inl ⟨by decide, by decide⟩, by decide⟩), trivial⟩) (okS.all _ trivial) (fun ad S Q Qc hC hc k => V_callV (as := []) (st := []) (M' := MX9_next) (ci := 9) (pc2 := 33) (dk D_X5_readFinally 15 rfl) ml_5_77 mv_X9_next rfl rfl (by decide) rfl (Nat.le_of_ble_eq_true rfl) rfl he3 (hC.k' (fixH 72 9 (by decide) rfl)) hc k) hc4 (kRV.k fun  κ5 h mo6 => ?_)
    refine K_p (pc2 := 34) (lv2 := [(0, vR 77)]) (st2 := [vR 77]) (fun ad S Q _ k => V_aload_n (pc2 := 34) (dk D_X5_readFinally 16 rfl) rfl (V_lg 0 rfl) rfl k) ?_
    refine K_getF kc5 (h' := 68) (pc2 := 37) 2 (by decide) (dk D_X5_readFinally 17 rfl) fl_5_25 (by decide) (fun _ _ => rfl) rfl (fixH 77 5 (by decide) rfl) (by decide) ?_
    refine K_p (pc2 := 39) (lv2 := [(0, vR 77)]) (st2 := [vI _, vR 68]) (fun ad S Q _ k => V_bipush (x := 43) (pc2 := 39) (dk D_X5_readFinally 18 rfl) (by decide) rfl k) ?_
    refine K_p (pc2 := 40) (lv2 := [(0, vR 77)]) (st2 := [vI _, vI _, vR 68]) (fun ad S Q _ k => V_iconst (x := 0) (pc2 := 40) (dk D_X5_readFinally 19 rfl) (by decide) rfl k) ?_
    obtain ⟨e7, he8, hc9⟩ := h
    refine K_call (as := [vR 68, vI _, vI _]) (st := []) (pc2 := 43) (okL.all _ ⟨(Or.inr ⟨Or.inl ⟨by decide, by decide⟩, by decide⟩), trivial⟩) (okS.all _ trivial) (fun ad S Q Qc hC hc k => V_callV (as := [_, _]) (st := []) (M' := MX1_add) (ci := 1) (pc2 := 43) (dk D_X5_readFinally 20 rfl) ml_5_57 mv_X1_add rfl rfl (by decide) rfl (Nat.le_of_ble_eq_true rfl) rfl he8 (hC.k' (fixH 68 1 (by decide) rfl)) hc k) hc9 (kRI.k fun y10 κ11 h mo12 => ?_)
    refine K_p (pc2 := 44) (lv2 := [(0, vR 77)]) (st2 := []) (fun ad S Q _ k => V_pop (pc2 := 44) (dk D_X5_readFinally 21 rfl) rfl rfl k) ?_
    refine K_p (pc2 := 45) (lv2 := [(0, vR 77)]) (st2 := [vR 77]) (fun ad S Q _ k => V_aload_n (pc2 := 45) (dk D_X5_readFinally 22 rfl) rfl (V_lg 0 rfl) rfl k) ?_
    obtain ⟨e13, he14, hc15⟩ := h
    refine K_call (as := [vR 77]) (st := []) (pc2 := 48) (okL.all _ ⟨(Or.inr ⟨Or.inl ⟨by decide, by decide⟩, by decide⟩), trivial⟩) (okS.all _ trivial) (fun ad S Q Qc hC hc k => V_callV (as := []) (st := []) (M' := MX5_readBlock) (ci := 5) (pc2 := 48) (dk D_X5_readFinally 23 rfl) ml_5_48 mv_X5_readBlock rfl rfl (by decide) rfl (Nat.le_of_ble_eq_true rfl) rfl he14 (hC.k' (fixH 77 5 (by decide) rfl)) hc k) hc15 (kRI.k fun y16 κ17 h mo18 => ?_)
    refine K_if (pa := 51) (pb := 53) (lv2 := [(0, vR 77)]) (st2 := []) (fun ad S Q _ k1 k2 => V_ifne (tgt := 53) (pc2 := 51) (dk D_X5_readFinally 24 rfl) (by decide) rfl (fun q => k2 q) (fun q => k1 q)) (fun q19 => ?_) (fun q19 => ?_)
    · have h := h.1 q19
      refine K_p (pc2 := 52) (lv2 := [(0, vR 77)]) (st2 := [vI _]) (fun ad S Q _ k => V_iconst (x := 0) (pc2 := 52) (dk D_X5_readFinally 25 rfl) (by decide) rfl k) ?_
      exact K_ret (r := .inl (some (vI _))) (fun ad S Q _ k => V_zreturn (dk D_X5_readFinally 26 rfl) rfl (Or.inl rfl) k) h
    · have h := h.2 q19
      refine K_p (pc2 := 54) (lv2 := [(0, vR 77)]) (st2 := [vR 77]) (fun ad S Q _ k => V_aload_n (pc2 := 54) (dk D_X5_readFinally 27 rfl) rfl (V_lg 0 rfl) rfl k) ?_
      refine K_getF kc5 (h' := 68) (pc2 := 57) 2 (by decide) (dk D_X5_readFinally 28 rfl) fl_5_25 (by decide) (fun _ _ => rfl) rfl (fixH 77 5 (by decide) rfl) (by decide) ?_
      refine K_p (pc2 := 59) (lv2 := [(0, vR 77)]) (st2 := [vI _, vR 68]) (fun ad S Q _ k => V_bipush (x := 45) (pc2 := 59) (dk D_X5_readFinally 29 rfl) (by decide) rfl k) ?_
      refine K_p (pc2 := 60) (lv2 := [(0, vR 77)]) (st2 := [vI _, vI _, vR 68]) (fun ad S Q _ k => V_iconst (x := 0) (pc2 := 60) (dk D_X5_readFinally 30 rfl) (by decide) rfl k) ?_
      obtain ⟨e20, he21, hc22⟩ := h
      refine K_call (as := [vR 68, vI _, vI _]) (st := []) (pc2 := 63) (okL.all _ ⟨(Or.inr ⟨Or.inl ⟨by decide, by decide⟩, by decide⟩), trivial⟩) (okS.all _ trivial) (fun ad S Q Qc hC hc k => V_callV (as := [_, _]) (st := []) (M' := MX1_add) (ci := 1) (pc2 := 63) (dk D_X5_readFinally 31 rfl) ml_5_57 mv_X1_add rfl rfl (by decide) rfl (Nat.le_of_ble_eq_true rfl) rfl he21 (hC.k' (fixH 68 1 (by decide) rfl)) hc k) hc22 (kRI.k fun y23 κ24 h mo25 => ?_)
      refine K_p (pc2 := 64) (lv2 := [(0, vR 77)]) (st2 := []) (fun ad S Q _ k => V_pop (pc2 := 64) (dk D_X5_readFinally 32 rfl) rfl rfl k) ?_
      refine K_p (pc2 := 65) (lv2 := [(0, vR 77)]) (st2 := [vI _]) (fun ad S Q _ k => V_iconst (x := 1) (pc2 := 65) (dk D_X5_readFinally 33 rfl) (by decide) rfl k) ?_
      exact K_ret (r := .inl (some (vI _))) (fun ad S Q _ k => V_zreturn (dk D_X5_readFinally 34 rfl) rfl (Or.inr rfl) k) h
  · have h := h.2 q1
    refine K_p (pc2 := 14) (lv2 := [(0, vR 77)]) (st2 := [vR 77]) (fun ad S Q _ k => V_aload_n (pc2 := 14) (dk D_X5_readFinally 5 rfl) rfl (V_lg 0 rfl) rfl k) ?_
    refine K_getF kc5 (h' := 68) (pc2 := 17) 2 (by decide) (dk D_X5_readFinally 6 rfl) fl_5_25 (by decide) (fun _ _ => rfl) rfl (fixH 77 5 (by decide) rfl) (by decide) ?_
    refine K_p (pc2 := 19) (lv2 := [(0, vR 77)]) (st2 := [vI _, vR 68]) (fun ad S Q _ k => V_bipush (x := 44) (pc2 := 19) (dk D_X5_readFinally 7 rfl) (by decide) rfl k) ?_
    refine K_p (pc2 := 20) (lv2 := [(0, vR 77)]) (st2 := [vI _, vI _, vR 68]) (fun ad S Q _ k => V_iconst (x := 0) (pc2 := 20) (dk D_X5_readFinally 8 rfl) (by decide) rfl k) ?_
    obtain ⟨e26, he27, hc28⟩ := h
    refine K_call (as := [vR 68, vI _, vI _]) (st := []) (pc2 := 23) (okL.all _ ⟨(Or.inr ⟨Or.inl ⟨by decide, by decide⟩, by decide⟩), trivial⟩) (okS.all _ trivial) (fun ad S Q Qc hC hc k => V_callV (as := [_, _]) (st := []) (M' := MX1_add) (ci := 1) (pc2 := 23) (dk D_X5_readFinally 9 rfl) ml_5_57 mv_X1_add rfl rfl (by decide) rfl (Nat.le_of_ble_eq_true rfl) rfl he27 (hC.k' (fixH 68 1 (by decide) rfl)) hc k) hc28 (kRI.k fun y29 κ30 h mo31 => ?_)
    refine K_p (pc2 := 24) (lv2 := [(0, vR 77)]) (st2 := []) (fun ad S Q _ k => V_pop (pc2 := 24) (dk D_X5_readFinally 10 rfl) rfl rfl k) ?_
    refine K_p (pc2 := 25) (lv2 := [(0, vR 77)]) (st2 := [vI _]) (fun ad S Q _ k => V_iconst (x := 1) (pc2 := 25) (dk D_X5_readFinally 11 rfl) (by decide) rfl k) ?_
    exact K_ret (r := .inl (some (vI _))) (fun ad S Q _ k => V_zreturn (dk D_X5_readFinally 12 rfl) rfl (Or.inr rfl) k) h
theorem k_5_readComparison_0 {X : Cx} {d : Nat} {κ : Km} {Q : Res → Km → Prop}  (h : ∃ e1 : Nat, e1 + 1 ≤ d ∧ KC' X e1 MX5_readSum [vR 77] κ (kRI fun y4 κ5 => ((y4 = 0 → Q (.inl (some (vI 0))) κ5) ∧ (¬ y4 = 0 → (((kI κ5 72 7) = 60 → K X d MX5_readComparison 30 [(0, vR 77), (1, vI (kI κ5 72 7))] [] κ5 Q) ∧ (¬ (kI κ5 72 7) = 60 → (((kI κ5 72 7) = 4 → K X d MX5_readComparison 30 [(0, vR 77), (1, vI (kI κ5 72 7))] [] κ5 Q) ∧ (¬ (kI κ5 72 7) = 4 → Q (.inl (some (vI 1))) κ5)))))))) : K X d MX5_readComparison 0 [(0, vR 77)] [] κ Q := by
  refine K_p (pc2 := 1) (lv2 := [(0, vR 77)]) (st2 := [vR 77]) (fun ad S Q _ k => V_aload_n (pc2 := 1) (dk D_X5_readComparison 0 rfl) rfl (V_lg 0 rfl) rfl k) ?_
  obtain ⟨e1, he2, hc3⟩ := h
  refine K_call (as := [vR 77]) (st := []) (pc2 := 4) (okL.all _ ⟨(Or.inr ⟨Or.inl ⟨by decide, by decide⟩, by decide⟩), trivial⟩) (okS.all _ trivial) (fun ad S Q Qc hC hc k => V_callV (as := []) (st := []) (M' := MX5_readSum) (ci := 5) (pc2 := 4) (dk D_X5_readComparison 1 rfl) ml_5_184 mv_X5_readSum rfl rfl (by decide) rfl (Nat.le_of_ble_eq_true rfl) rfl he2 (hC.k' (fixH 77 5 (by decide) rfl)) hc k) hc3 (kRI.k fun y4 κ5 h mo6 => ?_)
  refine K_if (pa := 7) (pb := 9) (lv2 := [(0, vR 77)]) (st2 := []) (fun ad S Q _ k1 k2 => V_ifne (tgt := 9) (pc2 := 7) (dk D_X5_readComparison 2 rfl) (by decide) rfl (fun q => k2 q) (fun q => k1 q)) (fun q7 => ?_) (fun q7 => ?_)
  · have h := h.1 q7
    refine K_p (pc2 := 8) (lv2 := [(0, vR 77)]) (st2 := [vI _]) (fun ad S Q _ k => V_iconst (x := 0) (pc2 := 8) (dk D_X5_readComparison 3 rfl) (by decide) rfl k) ?_
    exact K_ret (r := .inl (some (vI _))) (fun ad S Q _ k => V_zreturn (dk D_X5_readComparison 4 rfl) rfl (Or.inl rfl) k) h
  · have h := h.2 q7
    refine K_p (pc2 := 10) (lv2 := [(0, vR 77)]) (st2 := [vR 77]) (fun ad S Q _ k => V_aload_n (pc2 := 10) (dk D_X5_readComparison 5 rfl) rfl (V_lg 0 rfl) rfl k) ?_
    refine K_getF kc5 (h' := 72) (pc2 := 13) 0 (by decide) (dk D_X5_readComparison 6 rfl) fl_5_9 (by decide) (fun _ _ => rfl) rfl (fixH 77 5 (by decide) rfl) (by decide) ?_
    refine K_getI kc9 (pc2 := 16) 7 (dk D_X5_readComparison 7 rfl) fl_5_41 (by decide) (fun _ _ => rfl) rfl (fixH 72 9 (by decide) rfl) ?_
    refine K_p (pc2 := 17) (lv2 := [(0, vR 77), (1, vI _)]) (st2 := []) (fun ad S Q _ k => V_istore_n (pc2 := 17) (lv2 := [(0, _), (1, _)]) (dk D_X5_readComparison 8 rfl) rfl (by decide) rfl rfl k) ?_
    refine K_p (pc2 := 18) (lv2 := [(0, vR 77), (1, vI _)]) (st2 := [vI _]) (fun ad S Q _ k => V_iload_n (pc2 := 18) (dk D_X5_readComparison 9 rfl) rfl (V_lg 1 rfl) rfl k) ?_
    refine K_p (pc2 := 20) (lv2 := [(0, vR 77), (1, vI _)]) (st2 := [vI _, vI _]) (fun ad S Q _ k => V_bipush (x := 60) (pc2 := 20) (dk D_X5_readComparison 10 rfl) (by decide) rfl k) ?_
    refine K_if (pa := 30) (pb := 23) (lv2 := [(0, vR 77), (1, vI _)]) (st2 := []) (fun ad S Q _ k1 k2 => V_cmpeq (tgt := 30) (pc2 := 23) (dk D_X5_readComparison 11 rfl) (by decide) rfl (fun q => k1 q) (fun q => k2 q)) (fun q8 => ?_) (fun q8 => ?_)
    · have h := h.1 q8
      exact h
    · have h := h.2 q8
      refine K_p (pc2 := 24) (lv2 := [(0, vR 77), (1, vI _)]) (st2 := [vI _]) (fun ad S Q _ k => V_iload_n (pc2 := 24) (dk D_X5_readComparison 12 rfl) rfl (V_lg 1 rfl) rfl k) ?_
      refine K_p (pc2 := 25) (lv2 := [(0, vR 77), (1, vI _)]) (st2 := [vI _, vI _]) (fun ad S Q _ k => V_iconst (x := 4) (pc2 := 25) (dk D_X5_readComparison 13 rfl) (by decide) rfl k) ?_
      refine K_if (pa := 30) (pb := 28) (lv2 := [(0, vR 77), (1, vI _)]) (st2 := []) (fun ad S Q _ k1 k2 => V_cmpeq (tgt := 30) (pc2 := 28) (dk D_X5_readComparison 14 rfl) (by decide) rfl (fun q => k1 q) (fun q => k2 q)) (fun q9 => ?_) (fun q9 => ?_)
      · have h := h.1 q9
        exact h
      · have h := h.2 q9
        refine K_p (pc2 := 29) (lv2 := [(0, vR 77), (1, vI _)]) (st2 := [vI _]) (fun ad S Q _ k => V_iconst (x := 1) (pc2 := 29) (dk D_X5_readComparison 15 rfl) (by decide) rfl k) ?_
        exact K_ret (r := .inl (some (vI _))) (fun ad S Q _ k => V_zreturn (dk D_X5_readComparison 16 rfl) rfl (Or.inr rfl) k) h
theorem k_5_readComparison_30 {X : Cx} {d : Nat} {κ : Km} {Q : Res → Km → Prop} (x1 : Int32) (h : ∃ e1 : Nat, e1 + 1 ≤ d ∧ KC' X e1 MX9_next [vR 72] κ (kRV fun  κ4 => ∃ e6 : Nat, e6 + 1 ≤ d ∧ KC' X e6 MX5_readSum [vR 77] κ4 (kRI fun y9 κ10 => ((y9 = 0 → Q (.inl (some (vI 0))) κ10) ∧ (¬ y9 = 0 → ((x1 = 60 → K X d MX5_readComparison 63 [(0, vR 77), (1, vI x1)] [vI 13, vR 68] κ10 Q) ∧ (¬ x1 = 60 → K X d MX5_readComparison 63 [(0, vR 77), (1, vI x1)] [vI 14, vR 68] κ10 Q))))))) : K X d MX5_readComparison 30 [(0, vR 77), (1, vI x1)] [] κ Q := by
  refine K_p (pc2 := 31) (lv2 := [(0, vR 77), (1, vI _)]) (st2 := [vR 77]) (fun ad S Q _ k => V_aload_n (pc2 := 31) (dk D_X5_readComparison 17 rfl) rfl (V_lg 0 rfl) rfl k) ?_
  refine K_getF kc5 (h' := 72) (pc2 := 34) 0 (by decide) (dk D_X5_readComparison 18 rfl) fl_5_9 (by decide) (fun _ _ => rfl) rfl (fixH 77 5 (by decide) rfl) (by decide) ?_
  obtain ⟨e1, he2, hc3⟩ := h
  refine K_call (as := [vR 72]) (st := []) (pc2 := 37) (okL.all _ ⟨(Or.inr ⟨Or.inl ⟨by decide, by decide⟩, by decide⟩), trivial, trivial⟩) (okS.all _ trivial) (fun ad S Q Qc hC hc k => V_callV (as := []) (st := []) (M' := MX9_next) (ci := 9) (pc2 := 37) (dk D_X5_readComparison 19 rfl) ml_5_77 mv_X9_next rfl rfl (by decide) rfl (Nat.le_of_ble_eq_true rfl) rfl he2 (hC.k' (fixH 72 9 (by decide) rfl)) hc k) hc3 (kRV.k fun  κ4 h mo5 => ?_)
  refine K_p (pc2 := 38) (lv2 := [(0, vR 77), (1, vI _)]) (st2 := [vR 77]) (fun ad S Q _ k => V_aload_n (pc2 := 38) (dk D_X5_readComparison 20 rfl) rfl (V_lg 0 rfl) rfl k) ?_
  obtain ⟨e6, he7, hc8⟩ := h
  refine K_call (as := [vR 77]) (st := []) (pc2 := 41) (okL.all _ ⟨(Or.inr ⟨Or.inl ⟨by decide, by decide⟩, by decide⟩), trivial, trivial⟩) (okS.all _ trivial) (fun ad S Q Qc hC hc k => V_callV (as := []) (st := []) (M' := MX5_readSum) (ci := 5) (pc2 := 41) (dk D_X5_readComparison 21 rfl) ml_5_184 mv_X5_readSum rfl rfl (by decide) rfl (Nat.le_of_ble_eq_true rfl) rfl he7 (hC.k' (fixH 77 5 (by decide) rfl)) hc k) hc8 (kRI.k fun y9 κ10 h mo11 => ?_)
  refine K_if (pa := 44) (pb := 46) (lv2 := [(0, vR 77), (1, vI _)]) (st2 := []) (fun ad S Q _ k1 k2 => V_ifne (tgt := 46) (pc2 := 44) (dk D_X5_readComparison 22 rfl) (by decide) rfl (fun q => k2 q) (fun q => k1 q)) (fun q12 => ?_) (fun q12 => ?_)
  · have h := h.1 q12
    refine K_p (pc2 := 45) (lv2 := [(0, vR 77), (1, vI _)]) (st2 := [vI _]) (fun ad S Q _ k => V_iconst (x := 0) (pc2 := 45) (dk D_X5_readComparison 23 rfl) (by decide) rfl k) ?_
    exact K_ret (r := .inl (some (vI _))) (fun ad S Q _ k => V_zreturn (dk D_X5_readComparison 24 rfl) rfl (Or.inl rfl) k) h
  · have h := h.2 q12
    refine K_p (pc2 := 47) (lv2 := [(0, vR 77), (1, vI _)]) (st2 := [vR 77]) (fun ad S Q _ k => V_aload_n (pc2 := 47) (dk D_X5_readComparison 25 rfl) rfl (V_lg 0 rfl) rfl k) ?_
    refine K_getF kc5 (h' := 68) (pc2 := 50) 2 (by decide) (dk D_X5_readComparison 26 rfl) fl_5_25 (by decide) (fun _ _ => rfl) rfl (fixH 77 5 (by decide) rfl) (by decide) ?_
    refine K_p (pc2 := 51) (lv2 := [(0, vR 77), (1, vI _)]) (st2 := [vI _, vR 68]) (fun ad S Q _ k => V_iload_n (pc2 := 51) (dk D_X5_readComparison 27 rfl) rfl (V_lg 1 rfl) rfl k) ?_
    refine K_p (pc2 := 53) (lv2 := [(0, vR 77), (1, vI _)]) (st2 := [vI _, vI _, vR 68]) (fun ad S Q _ k => V_bipush (x := 60) (pc2 := 53) (dk D_X5_readComparison 28 rfl) (by decide) rfl k) ?_
    refine K_if (pa := 56) (pb := 61) (lv2 := [(0, vR 77), (1, vI _)]) (st2 := [vR 68]) (fun ad S Q _ k1 k2 => V_cmpne (tgt := 61) (pc2 := 56) (dk D_X5_readComparison 29 rfl) (by decide) rfl (fun q => k2 q) (fun q => k1 q)) (fun q13 => ?_) (fun q13 => ?_)
    · have h := h.1 q13
      refine K_p (pc2 := 58) (lv2 := [(0, vR 77), (1, vI _)]) (st2 := [vI _, vR 68]) (fun ad S Q _ k => V_bipush (x := 13) (pc2 := 58) (dk D_X5_readComparison 30 rfl) (by decide) rfl k) ?_
      refine K_p (pc2 := 63) (lv2 := [(0, vR 77), (1, vI _)]) (st2 := [vI _, vR 68]) (fun ad S Q _ k => V_goto (tgt := 63) (dk D_X5_readComparison 31 rfl) (by decide) k) ?_
      exact h
    · have h := h.2 q13
      refine K_p (pc2 := 63) (lv2 := [(0, vR 77), (1, vI _)]) (st2 := [vI _, vR 68]) (fun ad S Q _ k => V_bipush (x := 14) (pc2 := 63) (dk D_X5_readComparison 32 rfl) (by decide) rfl k) ?_
      exact h
theorem k_5_readComparison_63 {X : Cx} {d : Nat} {κ : Km} {Q : Res → Km → Prop} (x1 : Int32) (t1 : Int32) (h : ∃ e1 : Nat, e1 + 1 ≤ d ∧ KC' X e1 MX1_add [vR 68, vI t1, vI 0] κ (kRI fun y4 κ5 => Q (.inl (some (vI 1))) κ5)) : K X d MX5_readComparison 63 [(0, vR 77), (1, vI x1)] [vI t1, vR 68] κ Q := by
  refine K_p (pc2 := 64) (lv2 := [(0, vR 77), (1, vI _)]) (st2 := [vI _, vI _, vR 68]) (fun ad S Q _ k => V_iconst (x := 0) (pc2 := 64) (dk D_X5_readComparison 33 rfl) (by decide) rfl k) ?_
  obtain ⟨e1, he2, hc3⟩ := h
  refine K_call (as := [vR 68, vI _, vI _]) (st := []) (pc2 := 67) (okL.all _ ⟨(Or.inr ⟨Or.inl ⟨by decide, by decide⟩, by decide⟩), trivial, trivial⟩) (okS.all _ trivial) (fun ad S Q Qc hC hc k => V_callV (as := [_, _]) (st := []) (M' := MX1_add) (ci := 1) (pc2 := 67) (dk D_X5_readComparison 34 rfl) ml_5_57 mv_X1_add rfl rfl (by decide) rfl (Nat.le_of_ble_eq_true rfl) rfl he2 (hC.k' (fixH 68 1 (by decide) rfl)) hc k) hc3 (kRI.k fun y4 κ5 h mo6 => ?_)
  refine K_p (pc2 := 68) (lv2 := [(0, vR 77), (1, vI _)]) (st2 := []) (fun ad S Q _ k => V_pop (pc2 := 68) (dk D_X5_readComparison 35 rfl) rfl rfl k) ?_
  refine K_p (pc2 := 69) (lv2 := [(0, vR 77), (1, vI _)]) (st2 := [vI _]) (fun ad S Q _ k => V_iconst (x := 1) (pc2 := 69) (dk D_X5_readComparison 36 rfl) (by decide) rfl k) ?_
  exact K_ret (r := .inl (some (vI _))) (fun ad S Q _ k => V_zreturn (dk D_X5_readComparison 37 rfl) rfl (Or.inr rfl) k) h
theorem k_5_readSum_0 {X : Cx} {d : Nat} {κ : Km} {Q : Res → Km → Prop}  (h : ∃ e1 : Nat, e1 + 1 ≤ d ∧ KC' X e1 MX5_readProduct [vR 77] κ (kRI fun y4 κ5 => K X d MX5_readSum 7 [(0, vR 77), (1, vI y4), (2, vI 0)] [] κ5 Q)) : K X d MX5_readSum 0 [(0, vR 77)] [] κ Q := by
  refine K_p (pc2 := 1) (lv2 := [(0, vR 77)]) (st2 := [vR 77]) (fun ad S Q _ k => V_aload_n (pc2 := 1) (dk D_X5_readSum 0 rfl) rfl (V_lg 0 rfl) rfl k) ?_
  obtain ⟨e1, he2, hc3⟩ := h
  refine K_call (as := [vR 77]) (st := []) (pc2 := 4) (okL.all _ ⟨(Or.inr ⟨Or.inl ⟨by decide, by decide⟩, by decide⟩), trivial⟩) (okS.all _ trivial) (fun ad S Q Qc hC hc k => V_callV (as := []) (st := []) (M' := MX5_readProduct) (ci := 5) (pc2 := 4) (dk D_X5_readSum 1 rfl) ml_5_187 mv_X5_readProduct rfl rfl (by decide) rfl (Nat.le_of_ble_eq_true rfl) rfl he2 (hC.k' (fixH 77 5 (by decide) rfl)) hc k) hc3 (kRI.k fun y4 κ5 h mo6 => ?_)
  refine K_p (pc2 := 5) (lv2 := [(0, vR 77), (1, vI _)]) (st2 := []) (fun ad S Q _ k => V_istore_n (pc2 := 5) (lv2 := [(0, _), (1, _)]) (dk D_X5_readSum 2 rfl) rfl (by decide) rfl rfl k) ?_
  refine K_p (pc2 := 6) (lv2 := [(0, vR 77), (1, vI _)]) (st2 := [vI _]) (fun ad S Q _ k => V_iconst (x := 0) (pc2 := 6) (dk D_X5_readSum 3 rfl) (by decide) rfl k) ?_
  refine K_p (pc2 := 7) (lv2 := [(0, vR 77), (1, vI _), (2, vI _)]) (st2 := []) (fun ad S Q _ k => V_istore_n (pc2 := 7) (lv2 := [(0, _), (1, _), (2, _)]) (dk D_X5_readSum 4 rfl) rfl (by decide) rfl rfl k) ?_
  exact h
theorem k_5_readSum_7 {X : Cx} {d : Nat} {κ : Km} {Q : Res → Km → Prop} (x1 : Int32) (x2 : Int32) (h : ((3001 ≤ x2 → K X d MX5_readSum 90 [(0, vR 77), (1, vI x1), (2, vI x2)] [] κ Q) ∧ (¬ 3001 ≤ x2 → ((x1 = 0 → K X d MX5_readSum 90 [(0, vR 77), (1, vI x1), (2, vI x2)] [] κ Q) ∧ (¬ x1 = 0 → (((kI κ 72 7) = 43 → K X d MX5_readSum 42 [(0, vR 77), (1, vI x1), (2, vI x2)] [] κ Q) ∧ (¬ (kI κ 72 7) = 43 → (((kI κ 72 7) = 45 → K X d MX5_readSum 42 [(0, vR 77), (1, vI x1), (2, vI x2)] [] κ Q) ∧ (¬ (kI κ 72 7) = 45 → K X d MX5_readSum 90 [(0, vR 77), (1, vI x1), (2, vI x2)] [] κ Q))))))))) : K X d MX5_readSum 7 [(0, vR 77), (1, vI x1), (2, vI x2)] [] κ Q := by
  refine K_p (pc2 := 8) (lv2 := [(0, vR 77), (1, vI _), (2, vI _)]) (st2 := [vI _]) (fun ad S Q _ k => V_iload_n (pc2 := 8) (dk D_X5_readSum 5 rfl) rfl (V_lg 2 rfl) rfl k) ?_
  refine K_p (pc2 := 11) (lv2 := [(0, vR 77), (1, vI _), (2, vI _)]) (st2 := [vI _, vI _]) (fun ad S Q _ k => V_sipush (x := 3001) (pc2 := 11) (dk D_X5_readSum 6 rfl) (by decide) rfl k) ?_
  refine K_if (pa := 90) (pb := 14) (lv2 := [(0, vR 77), (1, vI _), (2, vI _)]) (st2 := []) (fun ad S Q _ k1 k2 => V_cmpge (tgt := 90) (pc2 := 14) (dk D_X5_readSum 7 rfl) (by decide) rfl (fun q => k1 q) (fun q => k2 q)) (fun q1 => ?_) (fun q1 => ?_)
  · have h := h.1 q1
    exact h
  · have h := h.2 q1
    refine K_p (pc2 := 15) (lv2 := [(0, vR 77), (1, vI _), (2, vI _)]) (st2 := [vI _]) (fun ad S Q _ k => V_iload_n (pc2 := 15) (dk D_X5_readSum 8 rfl) rfl (V_lg 1 rfl) rfl k) ?_
    refine K_if (pa := 90) (pb := 18) (lv2 := [(0, vR 77), (1, vI _), (2, vI _)]) (st2 := []) (fun ad S Q _ k1 k2 => V_ifeq (tgt := 90) (pc2 := 18) (dk D_X5_readSum 9 rfl) (by decide) rfl (fun q => k1 q) (fun q => k2 q)) (fun q2 => ?_) (fun q2 => ?_)
    · have h := h.1 q2
      exact h
    · have h := h.2 q2
      refine K_p (pc2 := 19) (lv2 := [(0, vR 77), (1, vI _), (2, vI _)]) (st2 := [vR 77]) (fun ad S Q _ k => V_aload_n (pc2 := 19) (dk D_X5_readSum 10 rfl) rfl (V_lg 0 rfl) rfl k) ?_
      refine K_getF kc5 (h' := 72) (pc2 := 22) 0 (by decide) (dk D_X5_readSum 11 rfl) fl_5_9 (by decide) (fun _ _ => rfl) rfl (fixH 77 5 (by decide) rfl) (by decide) ?_
      refine K_getI kc9 (pc2 := 25) 7 (dk D_X5_readSum 12 rfl) fl_5_41 (by decide) (fun _ _ => rfl) rfl (fixH 72 9 (by decide) rfl) ?_
      refine K_p (pc2 := 27) (lv2 := [(0, vR 77), (1, vI _), (2, vI _)]) (st2 := [vI _, vI _]) (fun ad S Q _ k => V_bipush (x := 43) (pc2 := 27) (dk D_X5_readSum 13 rfl) (by decide) rfl k) ?_
      refine K_if (pa := 42) (pb := 30) (lv2 := [(0, vR 77), (1, vI _), (2, vI _)]) (st2 := []) (fun ad S Q _ k1 k2 => V_cmpeq (tgt := 42) (pc2 := 30) (dk D_X5_readSum 14 rfl) (by decide) rfl (fun q => k1 q) (fun q => k2 q)) (fun q3 => ?_) (fun q3 => ?_)
      · have h := h.1 q3
        exact h
      · have h := h.2 q3
        refine K_p (pc2 := 31) (lv2 := [(0, vR 77), (1, vI _), (2, vI _)]) (st2 := [vR 77]) (fun ad S Q _ k => V_aload_n (pc2 := 31) (dk D_X5_readSum 15 rfl) rfl (V_lg 0 rfl) rfl k) ?_
        refine K_getF kc5 (h' := 72) (pc2 := 34) 0 (by decide) (dk D_X5_readSum 16 rfl) fl_5_9 (by decide) (fun _ _ => rfl) rfl (fixH 77 5 (by decide) rfl) (by decide) ?_
        refine K_getI kc9 (pc2 := 37) 7 (dk D_X5_readSum 17 rfl) fl_5_41 (by decide) (fun _ _ => rfl) rfl (fixH 72 9 (by decide) rfl) ?_
        refine K_p (pc2 := 39) (lv2 := [(0, vR 77), (1, vI _), (2, vI _)]) (st2 := [vI _, vI _]) (fun ad S Q _ k => V_bipush (x := 45) (pc2 := 39) (dk D_X5_readSum 18 rfl) (by decide) rfl k) ?_
        refine K_if (pa := 42) (pb := 90) (lv2 := [(0, vR 77), (1, vI _), (2, vI _)]) (st2 := []) (fun ad S Q _ k1 k2 => V_cmpne (tgt := 90) (pc2 := 42) (dk D_X5_readSum 19 rfl) (by decide) rfl (fun q => k2 q) (fun q => k1 q)) (fun q4 => ?_) (fun q4 => ?_)
        · have h := h.1 q4
          exact h
        · have h := h.2 q4
          exact h
theorem k_5_readSum_42 {X : Cx} {d : Nat} {κ : Km} {Q : Res → Km → Prop} (x1 : Int32) (x2 : Int32) (h : (((kI κ 72 7) = 43 → K X d MX5_readSum 61 [(0, vR 77), (1, vI x1), (2, vI x2)] [vI 8] κ Q) ∧ (¬ (kI κ 72 7) = 43 → K X d MX5_readSum 61 [(0, vR 77), (1, vI x1), (2, vI x2)] [vI 9] κ Q))) : K X d MX5_readSum 42 [(0, vR 77), (1, vI x1), (2, vI x2)] [] κ Q := by
  refine K_p (pc2 := 43) (lv2 := [(0, vR 77), (1, vI _), (2, vI _)]) (st2 := [vR 77]) (fun ad S Q _ k => V_aload_n (pc2 := 43) (dk D_X5_readSum 20 rfl) rfl (V_lg 0 rfl) rfl k) ?_
  refine K_getF kc5 (h' := 72) (pc2 := 46) 0 (by decide) (dk D_X5_readSum 21 rfl) fl_5_9 (by decide) (fun _ _ => rfl) rfl (fixH 77 5 (by decide) rfl) (by decide) ?_
  refine K_getI kc9 (pc2 := 49) 7 (dk D_X5_readSum 22 rfl) fl_5_41 (by decide) (fun _ _ => rfl) rfl (fixH 72 9 (by decide) rfl) ?_
  refine K_p (pc2 := 51) (lv2 := [(0, vR 77), (1, vI _), (2, vI _)]) (st2 := [vI _, vI _]) (fun ad S Q _ k => V_bipush (x := 43) (pc2 := 51) (dk D_X5_readSum 23 rfl) (by decide) rfl k) ?_
  refine K_if (pa := 54) (pb := 59) (lv2 := [(0, vR 77), (1, vI _), (2, vI _)]) (st2 := []) (fun ad S Q _ k1 k2 => V_cmpne (tgt := 59) (pc2 := 54) (dk D_X5_readSum 24 rfl) (by decide) rfl (fun q => k2 q) (fun q => k1 q)) (fun q1 => ?_) (fun q1 => ?_)
  · have h := h.1 q1
    refine K_p (pc2 := 56) (lv2 := [(0, vR 77), (1, vI _), (2, vI _)]) (st2 := [vI _]) (fun ad S Q _ k => V_bipush (x := 8) (pc2 := 56) (dk D_X5_readSum 25 rfl) (by decide) rfl k) ?_
    refine K_p (pc2 := 61) (lv2 := [(0, vR 77), (1, vI _), (2, vI _)]) (st2 := [vI _]) (fun ad S Q _ k => V_goto (tgt := 61) (dk D_X5_readSum 26 rfl) (by decide) k) ?_
    exact h
  · have h := h.2 q1
    refine K_p (pc2 := 61) (lv2 := [(0, vR 77), (1, vI _), (2, vI _)]) (st2 := [vI _]) (fun ad S Q _ k => V_bipush (x := 9) (pc2 := 61) (dk D_X5_readSum 27 rfl) (by decide) rfl k) ?_
    exact h
theorem k_5_readSum_61 {X : Cx} {d : Nat} {κ : Km} {Q : Res → Km → Prop} (x1 : Int32) (x2 : Int32) (t0 : Int32) (h : ∃ e1 : Nat, e1 + 1 ≤ d ∧ KC' X e1 MX9_next [vR 72] κ (kRV fun  κ4 => ∃ e6 : Nat, e6 + 1 ≤ d ∧ KC' X e6 MX5_readProduct [vR 77] κ4 (kRI fun y9 κ10 => ∃ e12 : Nat, e12 + 1 ≤ d ∧ KC' X e12 MX1_add [vR 68, vI t0, vI 0] κ10 (kRI fun y15 κ16 => K X d MX5_readSum 7 [(0, vR 77), (1, vI y9), (2, vI (x2 + 1))] [] κ16 Q)))) : K X d MX5_readSum 61 [(0, vR 77), (1, vI x1), (2, vI x2)] [vI t0] κ Q := by
  refine K_p (pc2 := 62) (lv2 := [(0, vR 77), (1, vI _), (2, vI _), (3, vI _)]) (st2 := []) (fun ad S Q _ k => V_istore_n (pc2 := 62) (lv2 := [(0, _), (1, _), (2, _), (3, _)]) (dk D_X5_readSum 28 rfl) rfl (by decide) rfl rfl k) ?_
  refine K_p (pc2 := 63) (lv2 := [(0, vR 77), (1, vI _), (2, vI _), (3, vI _)]) (st2 := [vR 77]) (fun ad S Q _ k => V_aload_n (pc2 := 63) (dk D_X5_readSum 29 rfl) rfl (V_lg 0 rfl) rfl k) ?_
  refine K_getF kc5 (h' := 72) (pc2 := 66) 0 (by decide) (dk D_X5_readSum 30 rfl) fl_5_9 (by decide) (fun _ _ => rfl) rfl (fixH 77 5 (by decide) rfl) (by decide) ?_
  obtain ⟨e1, he2, hc3⟩ := h
  refine K_call (as := [vR 72]) (st := []) (pc2 := 69) (okL.all _ ⟨(Or.inr ⟨Or.inl ⟨by decide, by decide⟩, by decide⟩), trivial, trivial, trivial, trivial⟩) (okS.all _ trivial) (fun ad S Q Qc hC hc k => V_callV (as := []) (st := []) (M' := MX9_next) (ci := 9) (pc2 := 69) (dk D_X5_readSum 31 rfl) ml_5_77 mv_X9_next rfl rfl (by decide) rfl (Nat.le_of_ble_eq_true rfl) rfl he2 (hC.k' (fixH 72 9 (by decide) rfl)) hc k) hc3 (kRV.k fun  κ4 h mo5 => ?_)
  refine K_p (pc2 := 70) (lv2 := [(0, vR 77), (1, vI _), (2, vI _), (3, vI _)]) (st2 := [vR 77]) (fun ad S Q _ k => V_aload_n (pc2 := 70) (dk D_X5_readSum 32 rfl) rfl (V_lg 0 rfl) rfl k) ?_
  obtain ⟨e6, he7, hc8⟩ := h
  refine K_call (as := [vR 77]) (st := []) (pc2 := 73) (okL.all _ ⟨(Or.inr ⟨Or.inl ⟨by decide, by decide⟩, by decide⟩), trivial, trivial, trivial, trivial⟩) (okS.all _ trivial) (fun ad S Q Qc hC hc k => V_callV (as := []) (st := []) (M' := MX5_readProduct) (ci := 5) (pc2 := 73) (dk D_X5_readSum 33 rfl) ml_5_187 mv_X5_readProduct rfl rfl (by decide) rfl (Nat.le_of_ble_eq_true rfl) rfl he7 (hC.k' (fixH 77 5 (by decide) rfl)) hc k) hc8 (kRI.k fun y9 κ10 h mo11 => ?_)
  refine K_p (pc2 := 74) (lv2 := [(0, vR 77), (1, vI _), (2, vI _), (3, vI _)]) (st2 := []) (fun ad S Q _ k => V_istore_n (pc2 := 74) (lv2 := [(0, _), (1, _), (2, _), (3, _)]) (dk D_X5_readSum 34 rfl) rfl (by decide) rfl rfl k) ?_
  refine K_p (pc2 := 75) (lv2 := [(0, vR 77), (1, vI _), (2, vI _), (3, vI _)]) (st2 := [vR 77]) (fun ad S Q _ k => V_aload_n (pc2 := 75) (dk D_X5_readSum 35 rfl) rfl (V_lg 0 rfl) rfl k) ?_
  refine K_getF kc5 (h' := 68) (pc2 := 78) 2 (by decide) (dk D_X5_readSum 36 rfl) fl_5_25 (by decide) (fun _ _ => rfl) rfl (fixH 77 5 (by decide) rfl) (by decide) ?_
  refine K_p (pc2 := 79) (lv2 := [(0, vR 77), (1, vI _), (2, vI _), (3, vI _)]) (st2 := [vI _, vR 68]) (fun ad S Q _ k => V_iload_n (pc2 := 79) (dk D_X5_readSum 37 rfl) rfl (V_lg 3 rfl) rfl k) ?_
  refine K_p (pc2 := 80) (lv2 := [(0, vR 77), (1, vI _), (2, vI _), (3, vI _)]) (st2 := [vI _, vI _, vR 68]) (fun ad S Q _ k => V_iconst (x := 0) (pc2 := 80) (dk D_X5_readSum 38 rfl) (by decide) rfl k) ?_
  obtain ⟨e12, he13, hc14⟩ := h
  refine K_call (as := [vR 68, vI _, vI _]) (st := []) (pc2 := 83) (okL.all _ ⟨(Or.inr ⟨Or.inl ⟨by decide, by decide⟩, by decide⟩), trivial, trivial, trivial, trivial⟩) (okS.all _ trivial) (fun ad S Q Qc hC hc k => V_callV (as := [_, _]) (st := []) (M' := MX1_add) (ci := 1) (pc2 := 83) (dk D_X5_readSum 39 rfl) ml_5_57 mv_X1_add rfl rfl (by decide) rfl (Nat.le_of_ble_eq_true rfl) rfl he13 (hC.k' (fixH 68 1 (by decide) rfl)) hc k) hc14 (kRI.k fun y15 κ16 h mo17 => ?_)
  refine K_p (pc2 := 84) (lv2 := [(0, vR 77), (1, vI _), (2, vI _), (3, vI _)]) (st2 := []) (fun ad S Q _ k => V_pop (pc2 := 84) (dk D_X5_readSum 40 rfl) rfl rfl k) ?_
  refine K_p (pc2 := 87) (lv2 := [(0, vR 77), (1, vI _), (2, vI _), (3, vI _)]) (st2 := []) (fun ad S Q _ k => V_iinc (y := _ + 1) (pc2 := 87) (lv2 := [(0, _), (1, _), (2, _), (3, _)]) (dk D_X5_readSum 41 rfl) (V_lg 2 rfl) rfl (by decide) rfl rfl k) ?_
  refine K_p (pc2 := 7) (lv2 := [(0, vR 77), (1, vI _), (2, vI _), (3, vI _)]) (st2 := []) (fun ad S Q _ k => V_goto (tgt := 7) (dk D_X5_readSum 42 rfl) (by decide) k) ?_
  refine K_p (pc2 := 7) (lv2 := [(0, vR 77), (1, vI _), (2, vI _)]) (st2 := []) (fun ad S Q _ k => V_pick [0, 1, 2] (lv2 := [(0, _), (1, _), (2, _)]) rfl k) ?_
  exact h
theorem k_5_readSum_90 {X : Cx} {d : Nat} {κ : Km} {Q : Res → Km → Prop} (x1 : Int32) (x2 : Int32) (h : (x1 = 0 ∨ x1 = 1) ∧ Q (.inl (some (vI x1))) κ) : K X d MX5_readSum 90 [(0, vR 77), (1, vI x1), (2, vI x2)] [] κ Q := by
  refine K_p (pc2 := 91) (lv2 := [(0, vR 77), (1, vI _), (2, vI _)]) (st2 := [vI _]) (fun ad S Q _ k => V_iload_n (pc2 := 91) (dk D_X5_readSum 43 rfl) rfl (V_lg 1 rfl) rfl k) ?_
  obtain ⟨h1, h⟩ := h
  exact K_ret (r := .inl (some (vI _))) (fun ad S Q _ k => V_zreturn (dk D_X5_readSum 44 rfl) rfl h1 k) h
theorem k_5_readProduct_0 {X : Cx} {d : Nat} {κ : Km} {Q : Res → Km → Prop}  (h : ∃ e1 : Nat, e1 + 1 ≤ d ∧ KC' X e1 MX5_readUnary [vR 77] κ (kRI fun y4 κ5 => K X d MX5_readProduct 7 [(0, vR 77), (1, vI y4), (2, vI 0)] [] κ5 Q)) : K X d MX5_readProduct 0 [(0, vR 77)] [] κ Q := by
  refine K_p (pc2 := 1) (lv2 := [(0, vR 77)]) (st2 := [vR 77]) (fun ad S Q _ k => V_aload_n (pc2 := 1) (dk D_X5_readProduct 0 rfl) rfl (V_lg 0 rfl) rfl k) ?_
  obtain ⟨e1, he2, hc3⟩ := h
  refine K_call (as := [vR 77]) (st := []) (pc2 := 4) (okL.all _ ⟨(Or.inr ⟨Or.inl ⟨by decide, by decide⟩, by decide⟩), trivial⟩) (okS.all _ trivial) (fun ad S Q Qc hC hc k => V_callV (as := []) (st := []) (M' := MX5_readUnary) (ci := 5) (pc2 := 4) (dk D_X5_readProduct 1 rfl) ml_5_190 mv_X5_readUnary rfl rfl (by decide) rfl (Nat.le_of_ble_eq_true rfl) rfl he2 (hC.k' (fixH 77 5 (by decide) rfl)) hc k) hc3 (kRI.k fun y4 κ5 h mo6 => ?_)
  refine K_p (pc2 := 5) (lv2 := [(0, vR 77), (1, vI _)]) (st2 := []) (fun ad S Q _ k => V_istore_n (pc2 := 5) (lv2 := [(0, _), (1, _)]) (dk D_X5_readProduct 2 rfl) rfl (by decide) rfl rfl k) ?_
  refine K_p (pc2 := 6) (lv2 := [(0, vR 77), (1, vI _)]) (st2 := [vI _]) (fun ad S Q _ k => V_iconst (x := 0) (pc2 := 6) (dk D_X5_readProduct 3 rfl) (by decide) rfl k) ?_
  refine K_p (pc2 := 7) (lv2 := [(0, vR 77), (1, vI _), (2, vI _)]) (st2 := []) (fun ad S Q _ k => V_istore_n (pc2 := 7) (lv2 := [(0, _), (1, _), (2, _)]) (dk D_X5_readProduct 4 rfl) rfl (by decide) rfl rfl k) ?_
  exact h
theorem k_5_readProduct_7 {X : Cx} {d : Nat} {κ : Km} {Q : Res → Km → Prop} (x1 : Int32) (x2 : Int32) (h : ((3001 ≤ x2 → K X d MX5_readProduct 96 [(0, vR 77), (1, vI x1), (2, vI x2)] [] κ Q) ∧ (¬ 3001 ≤ x2 → ((x1 = 0 → K X d MX5_readProduct 96 [(0, vR 77), (1, vI x1), (2, vI x2)] [] κ Q) ∧ (¬ x1 = 0 → ∃ e3 : Nat, e3 + 1 ≤ d ∧ KC' X e3 MX5_isProductSign [vI (kI κ 72 7)] κ (kRI fun y6 κ7 => ((y6 = 0 → K X d MX5_readProduct 96 [(0, vR 77), (1, vI x1), (2, vI x2)] [] κ7 Q) ∧ (¬ y6 = 0 → (((kI κ7 72 7) = 42 → K X d MX5_readProduct 67 [(0, vR 77), (1, vI x1), (2, vI x2)] [vI 10] κ7 Q) ∧ (¬ (kI κ7 72 7) = 42 → (((kI κ7 72 7) = 47 → K X d MX5_readProduct 67 [(0, vR 77), (1, vI x1), (2, vI x2)] [vI 11] κ7 Q) ∧ (¬ (kI κ7 72 7) = 47 → K X d MX5_readProduct 67 [(0, vR 77), (1, vI x1), (2, vI x2)] [vI 12] κ7 Q)))))))))))) : K X d MX5_readProduct 7 [(0, vR 77), (1, vI x1), (2, vI x2)] [] κ Q := by
  refine K_p (pc2 := 8) (lv2 := [(0, vR 77), (1, vI _), (2, vI _)]) (st2 := [vI _]) (fun ad S Q _ k => V_iload_n (pc2 := 8) (dk D_X5_readProduct 5 rfl) rfl (V_lg 2 rfl) rfl k) ?_
  refine K_p (pc2 := 11) (lv2 := [(0, vR 77), (1, vI _), (2, vI _)]) (st2 := [vI _, vI _]) (fun ad S Q _ k => V_sipush (x := 3001) (pc2 := 11) (dk D_X5_readProduct 6 rfl) (by decide) rfl k) ?_
  refine K_if (pa := 96) (pb := 14) (lv2 := [(0, vR 77), (1, vI _), (2, vI _)]) (st2 := []) (fun ad S Q _ k1 k2 => V_cmpge (tgt := 96) (pc2 := 14) (dk D_X5_readProduct 7 rfl) (by decide) rfl (fun q => k1 q) (fun q => k2 q)) (fun q1 => ?_) (fun q1 => ?_)
  · have h := h.1 q1
    exact h
  · have h := h.2 q1
    refine K_p (pc2 := 15) (lv2 := [(0, vR 77), (1, vI _), (2, vI _)]) (st2 := [vI _]) (fun ad S Q _ k => V_iload_n (pc2 := 15) (dk D_X5_readProduct 8 rfl) rfl (V_lg 1 rfl) rfl k) ?_
    refine K_if (pa := 96) (pb := 18) (lv2 := [(0, vR 77), (1, vI _), (2, vI _)]) (st2 := []) (fun ad S Q _ k1 k2 => V_ifeq (tgt := 96) (pc2 := 18) (dk D_X5_readProduct 9 rfl) (by decide) rfl (fun q => k1 q) (fun q => k2 q)) (fun q2 => ?_) (fun q2 => ?_)
    · have h := h.1 q2
      exact h
    · have h := h.2 q2
      refine K_p (pc2 := 19) (lv2 := [(0, vR 77), (1, vI _), (2, vI _)]) (st2 := [vR 77]) (fun ad S Q _ k => V_aload_n (pc2 := 19) (dk D_X5_readProduct 10 rfl) rfl (V_lg 0 rfl) rfl k) ?_
      refine K_getF kc5 (h' := 72) (pc2 := 22) 0 (by decide) (dk D_X5_readProduct 11 rfl) fl_5_9 (by decide) (fun _ _ => rfl) rfl (fixH 77 5 (by decide) rfl) (by decide) ?_
      refine K_getI kc9 (pc2 := 25) 7 (dk D_X5_readProduct 12 rfl) fl_5_41 (by decide) (fun _ _ => rfl) rfl (fixH 72 9 (by decide) rfl) ?_
      obtain ⟨e3, he4, hc5⟩ := h
      refine K_call (as := [vI _]) (st := []) (pc2 := 28) (okL.all _ ⟨(Or.inr ⟨Or.inl ⟨by decide, by decide⟩, by decide⟩), trivial, trivial, trivial⟩) (okS.all _ trivial) (fun ad S Q Qc hC hc k => V_callS (as := [_]) (st := []) (M' := MX5_isProductSign) (pc2 := 28) (dk D_X5_readProduct 13 rfl) ml_5_193 mv_X5_isProductSign rfl rfl (Nat.le_of_ble_eq_true rfl) rfl he4 hc k) hc5 (kRI.k fun y6 κ7 h mo8 => ?_)
      refine K_if (pa := 96) (pb := 31) (lv2 := [(0, vR 77), (1, vI _), (2, vI _)]) (st2 := []) (fun ad S Q _ k1 k2 => V_ifeq (tgt := 96) (pc2 := 31) (dk D_X5_readProduct 14 rfl) (by decide) rfl (fun q => k1 q) (fun q => k2 q)) (fun q9 => ?_) (fun q9 => ?_)
      · have h := h.1 q9
        exact h
      · have h := h.2 q9
        refine K_p (pc2 := 32) (lv2 := [(0, vR 77), (1, vI _), (2, vI _)]) (st2 := [vR 77]) (fun ad S Q _ k => V_aload_n (pc2 := 32) (dk D_X5_readProduct 15 rfl) rfl (V_lg 0 rfl) rfl k) ?_
        refine K_getF kc5 (h' := 72) (pc2 := 35) 0 (by decide) (dk D_X5_readProduct 16 rfl) fl_5_9 (by decide) (fun _ _ => rfl) rfl (fixH 77 5 (by decide) rfl) (by decide) ?_
        refine K_getI kc9 (pc2 := 38) 7 (dk D_X5_readProduct 17 rfl) fl_5_41 (by decide) (fun _ _ => rfl) rfl (fixH 72 9 (by decide) rfl) ?_
        refine K_p (pc2 := 40) (lv2 := [(0, vR 77), (1, vI _), (2, vI _)]) (st2 := [vI _, vI _]) (fun ad S Q _ k => V_bipush (x := 42) (pc2 := 40) (dk D_X5_readProduct 18 rfl) (by decide) rfl k) ?_
        refine K_if (pa := 43) (pb := 48) (lv2 := [(0, vR 77), (1, vI _), (2, vI _)]) (st2 := []) (fun ad S Q _ k1 k2 => V_cmpne (tgt := 48) (pc2 := 43) (dk D_X5_readProduct 19 rfl) (by decide) rfl (fun q => k2 q) (fun q => k1 q)) (fun q10 => ?_) (fun q10 => ?_)
        · have h := h.1 q10
          refine K_p (pc2 := 45) (lv2 := [(0, vR 77), (1, vI _), (2, vI _)]) (st2 := [vI _]) (fun ad S Q _ k => V_bipush (x := 10) (pc2 := 45) (dk D_X5_readProduct 20 rfl) (by decide) rfl k) ?_
          refine K_p (pc2 := 67) (lv2 := [(0, vR 77), (1, vI _), (2, vI _)]) (st2 := [vI _]) (fun ad S Q _ k => V_goto (tgt := 67) (dk D_X5_readProduct 21 rfl) (by decide) k) ?_
          exact h
        · have h := h.2 q10
          refine K_p (pc2 := 49) (lv2 := [(0, vR 77), (1, vI _), (2, vI _)]) (st2 := [vR 77]) (fun ad S Q _ k => V_aload_n (pc2 := 49) (dk D_X5_readProduct 22 rfl) rfl (V_lg 0 rfl) rfl k) ?_
          refine K_getF kc5 (h' := 72) (pc2 := 52) 0 (by decide) (dk D_X5_readProduct 23 rfl) fl_5_9 (by decide) (fun _ _ => rfl) rfl (fixH 77 5 (by decide) rfl) (by decide) ?_
          refine K_getI kc9 (pc2 := 55) 7 (dk D_X5_readProduct 24 rfl) fl_5_41 (by decide) (fun _ _ => rfl) rfl (fixH 72 9 (by decide) rfl) ?_
          refine K_p (pc2 := 57) (lv2 := [(0, vR 77), (1, vI _), (2, vI _)]) (st2 := [vI _, vI _]) (fun ad S Q _ k => V_bipush (x := 47) (pc2 := 57) (dk D_X5_readProduct 25 rfl) (by decide) rfl k) ?_
          refine K_if (pa := 60) (pb := 65) (lv2 := [(0, vR 77), (1, vI _), (2, vI _)]) (st2 := []) (fun ad S Q _ k1 k2 => V_cmpne (tgt := 65) (pc2 := 60) (dk D_X5_readProduct 26 rfl) (by decide) rfl (fun q => k2 q) (fun q => k1 q)) (fun q11 => ?_) (fun q11 => ?_)
          · have h := h.1 q11
            refine K_p (pc2 := 62) (lv2 := [(0, vR 77), (1, vI _), (2, vI _)]) (st2 := [vI _]) (fun ad S Q _ k => V_bipush (x := 11) (pc2 := 62) (dk D_X5_readProduct 27 rfl) (by decide) rfl k) ?_
            refine K_p (pc2 := 67) (lv2 := [(0, vR 77), (1, vI _), (2, vI _)]) (st2 := [vI _]) (fun ad S Q _ k => V_goto (tgt := 67) (dk D_X5_readProduct 28 rfl) (by decide) k) ?_
            exact h
          · have h := h.2 q11
            refine K_p (pc2 := 67) (lv2 := [(0, vR 77), (1, vI _), (2, vI _)]) (st2 := [vI _]) (fun ad S Q _ k => V_bipush (x := 12) (pc2 := 67) (dk D_X5_readProduct 29 rfl) (by decide) rfl k) ?_
            exact h
theorem k_5_readProduct_67 {X : Cx} {d : Nat} {κ : Km} {Q : Res → Km → Prop} (x1 : Int32) (x2 : Int32) (t0 : Int32) (h : ∃ e1 : Nat, e1 + 1 ≤ d ∧ KC' X e1 MX9_next [vR 72] κ (kRV fun  κ4 => ∃ e6 : Nat, e6 + 1 ≤ d ∧ KC' X e6 MX5_readUnary [vR 77] κ4 (kRI fun y9 κ10 => ∃ e12 : Nat, e12 + 1 ≤ d ∧ KC' X e12 MX1_add [vR 68, vI t0, vI 0] κ10 (kRI fun y15 κ16 => K X d MX5_readProduct 7 [(0, vR 77), (1, vI y9), (2, vI (x2 + 1))] [] κ16 Q)))) : K X d MX5_readProduct 67 [(0, vR 77), (1, vI x1), (2, vI x2)] [vI t0] κ Q := by
  refine K_p (pc2 := 68) (lv2 := [(0, vR 77), (1, vI _), (2, vI _), (3, vI _)]) (st2 := []) (fun ad S Q _ k => V_istore_n (pc2 := 68) (lv2 := [(0, _), (1, _), (2, _), (3, _)]) (dk D_X5_readProduct 30 rfl) rfl (by decide) rfl rfl k) ?_
  refine K_p (pc2 := 69) (lv2 := [(0, vR 77), (1, vI _), (2, vI _), (3, vI _)]) (st2 := [vR 77]) (fun ad S Q _ k => V_aload_n (pc2 := 69) (dk D_X5_readProduct 31 rfl) rfl (V_lg 0 rfl) rfl k) ?_
  refine K_getF kc5 (h' := 72) (pc2 := 72) 0 (by decide) (dk D_X5_readProduct 32 rfl) fl_5_9 (by decide) (fun _ _ => rfl) rfl (fixH 77 5 (by decide) rfl) (by decide) ?_
  obtain ⟨e1, he2, hc3⟩ := h
  refine K_call (as := [vR 72]) (st := []) (pc2 := 75) (okL.all _ ⟨(Or.inr ⟨Or.inl ⟨by decide, by decide⟩, by decide⟩), trivial, trivial, trivial, trivial⟩) (okS.all _ trivial) (fun ad S Q Qc hC hc k => V_callV (as := []) (st := []) (M' := MX9_next) (ci := 9) (pc2 := 75) (dk D_X5_readProduct 33 rfl) ml_5_77 mv_X9_next rfl rfl (by decide) rfl (Nat.le_of_ble_eq_true rfl) rfl he2 (hC.k' (fixH 72 9 (by decide) rfl)) hc k) hc3 (kRV.k fun  κ4 h mo5 => ?_)
  refine K_p (pc2 := 76) (lv2 := [(0, vR 77), (1, vI _), (2, vI _), (3, vI _)]) (st2 := [vR 77]) (fun ad S Q _ k => V_aload_n (pc2 := 76) (dk D_X5_readProduct 34 rfl) rfl (V_lg 0 rfl) rfl k) ?_
  obtain ⟨e6, he7, hc8⟩ := h
  refine K_call (as := [vR 77]) (st := []) (pc2 := 79) (okL.all _ ⟨(Or.inr ⟨Or.inl ⟨by decide, by decide⟩, by decide⟩), trivial, trivial, trivial, trivial⟩) (okS.all _ trivial) (fun ad S Q Qc hC hc k => V_callV (as := []) (st := []) (M' := MX5_readUnary) (ci := 5) (pc2 := 79) (dk D_X5_readProduct 35 rfl) ml_5_190 mv_X5_readUnary rfl rfl (by decide) rfl (Nat.le_of_ble_eq_true rfl) rfl he7 (hC.k' (fixH 77 5 (by decide) rfl)) hc k) hc8 (kRI.k fun y9 κ10 h mo11 => ?_)
  refine K_p (pc2 := 80) (lv2 := [(0, vR 77), (1, vI _), (2, vI _), (3, vI _)]) (st2 := []) (fun ad S Q _ k => V_istore_n (pc2 := 80) (lv2 := [(0, _), (1, _), (2, _), (3, _)]) (dk D_X5_readProduct 36 rfl) rfl (by decide) rfl rfl k) ?_
  refine K_p (pc2 := 81) (lv2 := [(0, vR 77), (1, vI _), (2, vI _), (3, vI _)]) (st2 := [vR 77]) (fun ad S Q _ k => V_aload_n (pc2 := 81) (dk D_X5_readProduct 37 rfl) rfl (V_lg 0 rfl) rfl k) ?_
  refine K_getF kc5 (h' := 68) (pc2 := 84) 2 (by decide) (dk D_X5_readProduct 38 rfl) fl_5_25 (by decide) (fun _ _ => rfl) rfl (fixH 77 5 (by decide) rfl) (by decide) ?_
  refine K_p (pc2 := 85) (lv2 := [(0, vR 77), (1, vI _), (2, vI _), (3, vI _)]) (st2 := [vI _, vR 68]) (fun ad S Q _ k => V_iload_n (pc2 := 85) (dk D_X5_readProduct 39 rfl) rfl (V_lg 3 rfl) rfl k) ?_
  refine K_p (pc2 := 86) (lv2 := [(0, vR 77), (1, vI _), (2, vI _), (3, vI _)]) (st2 := [vI _, vI _, vR 68]) (fun ad S Q _ k => V_iconst (x := 0) (pc2 := 86) (dk D_X5_readProduct 40 rfl) (by decide) rfl k) ?_
  obtain ⟨e12, he13, hc14⟩ := h
  refine K_call (as := [vR 68, vI _, vI _]) (st := []) (pc2 := 89) (okL.all _ ⟨(Or.inr ⟨Or.inl ⟨by decide, by decide⟩, by decide⟩), trivial, trivial, trivial, trivial⟩) (okS.all _ trivial) (fun ad S Q Qc hC hc k => V_callV (as := [_, _]) (st := []) (M' := MX1_add) (ci := 1) (pc2 := 89) (dk D_X5_readProduct 41 rfl) ml_5_57 mv_X1_add rfl rfl (by decide) rfl (Nat.le_of_ble_eq_true rfl) rfl he13 (hC.k' (fixH 68 1 (by decide) rfl)) hc k) hc14 (kRI.k fun y15 κ16 h mo17 => ?_)
  refine K_p (pc2 := 90) (lv2 := [(0, vR 77), (1, vI _), (2, vI _), (3, vI _)]) (st2 := []) (fun ad S Q _ k => V_pop (pc2 := 90) (dk D_X5_readProduct 42 rfl) rfl rfl k) ?_
  refine K_p (pc2 := 93) (lv2 := [(0, vR 77), (1, vI _), (2, vI _), (3, vI _)]) (st2 := []) (fun ad S Q _ k => V_iinc (y := _ + 1) (pc2 := 93) (lv2 := [(0, _), (1, _), (2, _), (3, _)]) (dk D_X5_readProduct 43 rfl) (V_lg 2 rfl) rfl (by decide) rfl rfl k) ?_
  refine K_p (pc2 := 7) (lv2 := [(0, vR 77), (1, vI _), (2, vI _), (3, vI _)]) (st2 := []) (fun ad S Q _ k => V_goto (tgt := 7) (dk D_X5_readProduct 44 rfl) (by decide) k) ?_
  refine K_p (pc2 := 7) (lv2 := [(0, vR 77), (1, vI _), (2, vI _)]) (st2 := []) (fun ad S Q _ k => V_pick [0, 1, 2] (lv2 := [(0, _), (1, _), (2, _)]) rfl k) ?_
  exact h
theorem k_5_readProduct_96 {X : Cx} {d : Nat} {κ : Km} {Q : Res → Km → Prop} (x1 : Int32) (x2 : Int32) (h : (x1 = 0 ∨ x1 = 1) ∧ Q (.inl (some (vI x1))) κ) : K X d MX5_readProduct 96 [(0, vR 77), (1, vI x1), (2, vI x2)] [] κ Q := by
  refine K_p (pc2 := 97) (lv2 := [(0, vR 77), (1, vI _), (2, vI _)]) (st2 := [vI _]) (fun ad S Q _ k => V_iload_n (pc2 := 97) (dk D_X5_readProduct 45 rfl) rfl (V_lg 1 rfl) rfl k) ?_
  obtain ⟨h1, h⟩ := h
  exact K_ret (r := .inl (some (vI _))) (fun ad S Q _ k => V_zreturn (dk D_X5_readProduct 46 rfl) rfl h1 k) h
theorem k_5_isProductSign_0 {X : Cx} {d : Nat} {κ : Km} {Q : Res → Km → Prop} (x0 : Int32) (h : ((x0 = 42 → K X d MX5_isProductSign 18 [(0, vI x0)] [] κ Q) ∧ (¬ x0 = 42 → ((x0 = 47 → K X d MX5_isProductSign 18 [(0, vI x0)] [] κ Q) ∧ (¬ x0 = 47 → ((x0 = 37 → K X d MX5_isProductSign 18 [(0, vI x0)] [] κ Q) ∧ (¬ x0 = 37 → K X d MX5_isProductSign 23 [(0, vI x0)] [vI 0] κ Q))))))) : K X d MX5_isProductSign 0 [(0, vI x0)] [] κ Q := by
  refine K_p (pc2 := 1) (lv2 := [(0, vI _)]) (st2 := [vI _]) (fun ad S Q _ k => V_iload_n (pc2 := 1) (dk D_X5_isProductSign 0 rfl) rfl (V_lg 0 rfl) rfl k) ?_
  refine K_p (pc2 := 3) (lv2 := [(0, vI _)]) (st2 := [vI _, vI _]) (fun ad S Q _ k => V_bipush (x := 42) (pc2 := 3) (dk D_X5_isProductSign 1 rfl) (by decide) rfl k) ?_
  refine K_if (pa := 18) (pb := 6) (lv2 := [(0, vI _)]) (st2 := []) (fun ad S Q _ k1 k2 => V_cmpeq (tgt := 18) (pc2 := 6) (dk D_X5_isProductSign 2 rfl) (by decide) rfl (fun q => k1 q) (fun q => k2 q)) (fun q1 => ?_) (fun q1 => ?_)
  · have h := h.1 q1
    exact h
  · have h := h.2 q1
    refine K_p (pc2 := 7) (lv2 := [(0, vI _)]) (st2 := [vI _]) (fun ad S Q _ k => V_iload_n (pc2 := 7) (dk D_X5_isProductSign 3 rfl) rfl (V_lg 0 rfl) rfl k) ?_
    refine K_p (pc2 := 9) (lv2 := [(0, vI _)]) (st2 := [vI _, vI _]) (fun ad S Q _ k => V_bipush (x := 47) (pc2 := 9) (dk D_X5_isProductSign 4 rfl) (by decide) rfl k) ?_
    refine K_if (pa := 18) (pb := 12) (lv2 := [(0, vI _)]) (st2 := []) (fun ad S Q _ k1 k2 => V_cmpeq (tgt := 18) (pc2 := 12) (dk D_X5_isProductSign 5 rfl) (by decide) rfl (fun q => k1 q) (fun q => k2 q)) (fun q2 => ?_) (fun q2 => ?_)
    · have h := h.1 q2
      exact h
    · have h := h.2 q2
      refine K_p (pc2 := 13) (lv2 := [(0, vI _)]) (st2 := [vI _]) (fun ad S Q _ k => V_iload_n (pc2 := 13) (dk D_X5_isProductSign 6 rfl) rfl (V_lg 0 rfl) rfl k) ?_
      refine K_p (pc2 := 15) (lv2 := [(0, vI _)]) (st2 := [vI _, vI _]) (fun ad S Q _ k => V_bipush (x := 37) (pc2 := 15) (dk D_X5_isProductSign 7 rfl) (by decide) rfl k) ?_
      refine K_if (pa := 18) (pb := 22) (lv2 := [(0, vI _)]) (st2 := []) (fun ad S Q _ k1 k2 => V_cmpne (tgt := 22) (pc2 := 18) (dk D_X5_isProductSign 8 rfl) (by decide) rfl (fun q => k2 q) (fun q => k1 q)) (fun q3 => ?_) (fun q3 => ?_)
      · have h := h.1 q3
        exact h
      · have h := h.2 q3
        refine K_p (pc2 := 23) (lv2 := [(0, vI _)]) (st2 := [vI _]) (fun ad S Q _ k => V_iconst (x := 0) (pc2 := 23) (dk D_X5_isProductSign 11 rfl) (by decide) rfl k) ?_
        exact h
theorem k_5_isProductSign_18 {X : Cx} {d : Nat} {κ : Km} {Q : Res → Km → Prop} (x0 : Int32) (h : K X d MX5_isProductSign 23 [(0, vI x0)] [vI 1] κ Q) : K X d MX5_isProductSign 18 [(0, vI x0)] [] κ Q := by
  refine K_p (pc2 := 19) (lv2 := [(0, vI _)]) (st2 := [vI _]) (fun ad S Q _ k => V_iconst (x := 1) (pc2 := 19) (dk D_X5_isProductSign 9 rfl) (by decide) rfl k) ?_
  refine K_p (pc2 := 23) (lv2 := [(0, vI _)]) (st2 := [vI _]) (fun ad S Q _ k => V_goto (tgt := 23) (dk D_X5_isProductSign 10 rfl) (by decide) k) ?_
  exact h
theorem k_5_isProductSign_23 {X : Cx} {d : Nat} {κ : Km} {Q : Res → Km → Prop} (x0 : Int32) (t0 : Int32) (h : (t0 = 0 ∨ t0 = 1) ∧ Q (.inl (some (vI t0))) κ) : K X d MX5_isProductSign 23 [(0, vI x0)] [vI t0] κ Q := by
  obtain ⟨h1, h⟩ := h
  exact K_ret (r := .inl (some (vI _))) (fun ad S Q _ k => V_zreturn (dk D_X5_isProductSign 12 rfl) rfl h1 k) h
theorem k_5_readUnary_0 {X : Cx} {d : Nat} {κ : Km} {Q : Res → Km → Prop}  (h : (((kI κ 72 7) = 33 → ∃ e2 : Nat, e2 + 1 ≤ d ∧ KC' X e2 MX5_readPrefix [vR 77, vI 7] κ (kRI fun y5 κ6 => (y5 = 0 ∨ y5 = 1) ∧ Q (.inl (some (vI y5))) κ6)) ∧ ((kI κ 72 7) = 45 → ∃ e9 : Nat, e9 + 1 ≤ d ∧ KC' X e9 MX5_readPrefix [vR 77, vI 6] κ (kRI fun y12 κ13 => (y12 = 0 ∨ y12 = 1) ∧ Q (.inl (some (vI y12))) κ13)) ∧ ((kI κ 72 7) = 211 → ∃ e16 : Nat, e16 + 1 ≤ d ∧ KC' X e16 MX5_readPrefix [vR 77, vI 25] κ (kRI fun y19 κ20 => (y19 = 0 ∨ y19 = 1) ∧ Q (.inl (some (vI y19))) κ20)) ∧ ((kI κ 72 7) = 213 → ∃ e23 : Nat, e23 + 1 ≤ d ∧ KC' X e23 MX5_readWith [vR 77, vI 26] κ (kRI fun y26 κ27 => (y26 = 0 ∨ y26 = 1) ∧ Q (.inl (some (vI y26))) κ27)) ∧ ((kI κ 72 7) = 214 → ∃ e30 : Nat, e30 + 1 ≤ d ∧ KC' X e30 MX5_readInject [vR 77] κ (kRI fun y33 κ34 => (y33 = 0 ∨ y33 = 1) ∧ Q (.inl (some (vI y33))) κ34)) ∧ ((kI κ 72 7) = 216 → ∃ e37 : Nat, e37 + 1 ≤ d ∧ KC' X e37 MX5_readWith [vR 77, vI 28] κ (kRI fun y40 κ41 => (y40 = 0 ∨ y40 = 1) ∧ Q (.inl (some (vI y40))) κ41)) ∧ ((kI κ 72 7) = 220 → ∃ e44 : Nat, e44 + 1 ≤ d ∧ KC' X e44 MX5_readPrefix [vR 77, vI 22] κ (kRI fun y47 κ48 => (y47 = 0 ∨ y47 = 1) ∧ Q (.inl (some (vI y47))) κ48)) ∧ (¬ ((kI κ 72 7) = 33 ∨ (kI κ 72 7) = 45 ∨ (kI κ 72 7) = 211 ∨ (kI κ 72 7) = 213 ∨ (kI κ 72 7) = 214 ∨ (kI κ 72 7) = 216 ∨ (kI κ 72 7) = 220) → ∃ e51 : Nat, e51 + 1 ≤ d ∧ KC' X e51 MX5_readPlain [vR 77] κ (kRI fun y54 κ55 => (y54 = 0 ∨ y54 = 1) ∧ Q (.inl (some (vI y54))) κ55)))) : K X d MX5_readUnary 0 [(0, vR 77)] [] κ Q := by
  refine K_p (pc2 := 1) (lv2 := [(0, vR 77)]) (st2 := [vR 77]) (fun ad S Q _ k => V_aload_n (pc2 := 1) (dk D_X5_readUnary 0 rfl) rfl (V_lg 0 rfl) rfl k) ?_
  refine K_getF kc5 (h' := 72) (pc2 := 4) 0 (by decide) (dk D_X5_readUnary 1 rfl) fl_5_9 (by decide) (fun _ _ => rfl) rfl (fixH 77 5 (by decide) rfl) (by decide) ?_
  refine K_getI kc9 (pc2 := 7) 7 (dk D_X5_readUnary 2 rfl) fl_5_41 (by decide) (fun _ _ => rfl) rfl (fixH 72 9 (by decide) rfl) ?_
  refine K_look (dk D_X5_readUnary 3 rfl) (by decide) [(33, 72, 79), (45, 65, 72), (211, 86, 93), (213, 93, 100), (214, 107, 114), (216, 100, 107), (220, 79, 86)] 119 (by decide) (by decide) (by decide) (by decide) ?_ ?_
  · simp only [List.forall_mem_cons]
    refine ⟨fun q1 => ?_, fun q1 => ?_, fun q1 => ?_, fun q1 => ?_, fun q1 => ?_, fun q1 => ?_, fun q1 => ?_, fun _ hq => absurd hq List.not_mem_nil⟩
    · have h := h.1 q1
      refine K_p (pc2 := 80) (lv2 := [(0, vR 77)]) (st2 := [vR 77]) (fun ad S Q _ k => V_aload_n (pc2 := 80) (dk D_X5_readUnary 8 rfl) rfl (V_lg 0 rfl) rfl k) ?_
      refine K_p (pc2 := 82) (lv2 := [(0, vR 77)]) (st2 := [vI _, vR 77]) (fun ad S Q _ k => V_bipush (x := 7) (pc2 := 82) (dk D_X5_readUnary 9 rfl) (by decide) rfl k) ?_
      obtain ⟨e2, he3, hc4⟩ := h
      refine K_call (as := [vR 77, vI _]) (st := []) (pc2 := 85) (okL.all _ ⟨(Or.inr ⟨Or.inl ⟨by decide, by decide⟩, by decide⟩), trivial⟩) (okS.all _ trivial) (fun ad S Q Qc hC hc k => V_callV (as := [_]) (st := []) (M' := MX5_readPrefix) (ci := 5) (pc2 := 85) (dk D_X5_readUnary 10 rfl) ml_5_196 mv_X5_readPrefix rfl rfl (by decide) rfl (Nat.le_of_ble_eq_true rfl) rfl he3 (hC.k' (fixH 77 5 (by decide) rfl)) hc k) hc4 (kRI.k fun y5 κ6 h mo7 => ?_)
      obtain ⟨h8, h⟩ := h
      exact K_ret (r := .inl (some (vI _))) (fun ad S Q _ k => V_zreturn (dk D_X5_readUnary 11 rfl) rfl h8 k) h
    · have h := h.2.1 q1
      refine K_p (pc2 := 73) (lv2 := [(0, vR 77)]) (st2 := [vR 77]) (fun ad S Q _ k => V_aload_n (pc2 := 73) (dk D_X5_readUnary 4 rfl) rfl (V_lg 0 rfl) rfl k) ?_
      refine K_p (pc2 := 75) (lv2 := [(0, vR 77)]) (st2 := [vI _, vR 77]) (fun ad S Q _ k => V_bipush (x := 6) (pc2 := 75) (dk D_X5_readUnary 5 rfl) (by decide) rfl k) ?_
      obtain ⟨e9, he10, hc11⟩ := h
      refine K_call (as := [vR 77, vI _]) (st := []) (pc2 := 78) (okL.all _ ⟨(Or.inr ⟨Or.inl ⟨by decide, by decide⟩, by decide⟩), trivial⟩) (okS.all _ trivial) (fun ad S Q Qc hC hc k => V_callV (as := [_]) (st := []) (M' := MX5_readPrefix) (ci := 5) (pc2 := 78) (dk D_X5_readUnary 6 rfl) ml_5_196 mv_X5_readPrefix rfl rfl (by decide) rfl (Nat.le_of_ble_eq_true rfl) rfl he10 (hC.k' (fixH 77 5 (by decide) rfl)) hc k) hc11 (kRI.k fun y12 κ13 h mo14 => ?_)
      obtain ⟨h15, h⟩ := h
      exact K_ret (r := .inl (some (vI _))) (fun ad S Q _ k => V_zreturn (dk D_X5_readUnary 7 rfl) rfl h15 k) h
    · have h := h.2.2.1 q1
      refine K_p (pc2 := 94) (lv2 := [(0, vR 77)]) (st2 := [vR 77]) (fun ad S Q _ k => V_aload_n (pc2 := 94) (dk D_X5_readUnary 16 rfl) rfl (V_lg 0 rfl) rfl k) ?_
      refine K_p (pc2 := 96) (lv2 := [(0, vR 77)]) (st2 := [vI _, vR 77]) (fun ad S Q _ k => V_bipush (x := 25) (pc2 := 96) (dk D_X5_readUnary 17 rfl) (by decide) rfl k) ?_
      obtain ⟨e16, he17, hc18⟩ := h
      refine K_call (as := [vR 77, vI _]) (st := []) (pc2 := 99) (okL.all _ ⟨(Or.inr ⟨Or.inl ⟨by decide, by decide⟩, by decide⟩), trivial⟩) (okS.all _ trivial) (fun ad S Q Qc hC hc k => V_callV (as := [_]) (st := []) (M' := MX5_readPrefix) (ci := 5) (pc2 := 99) (dk D_X5_readUnary 18 rfl) ml_5_196 mv_X5_readPrefix rfl rfl (by decide) rfl (Nat.le_of_ble_eq_true rfl) rfl he17 (hC.k' (fixH 77 5 (by decide) rfl)) hc k) hc18 (kRI.k fun y19 κ20 h mo21 => ?_)
      obtain ⟨h22, h⟩ := h
      exact K_ret (r := .inl (some (vI _))) (fun ad S Q _ k => V_zreturn (dk D_X5_readUnary 19 rfl) rfl h22 k) h
    · have h := h.2.2.2.1 q1
      refine K_p (pc2 := 101) (lv2 := [(0, vR 77)]) (st2 := [vR 77]) (fun ad S Q _ k => V_aload_n (pc2 := 101) (dk D_X5_readUnary 20 rfl) rfl (V_lg 0 rfl) rfl k) ?_
      refine K_p (pc2 := 103) (lv2 := [(0, vR 77)]) (st2 := [vI _, vR 77]) (fun ad S Q _ k => V_bipush (x := 26) (pc2 := 103) (dk D_X5_readUnary 21 rfl) (by decide) rfl k) ?_
      obtain ⟨e23, he24, hc25⟩ := h
      refine K_call (as := [vR 77, vI _]) (st := []) (pc2 := 106) (okL.all _ ⟨(Or.inr ⟨Or.inl ⟨by decide, by decide⟩, by decide⟩), trivial⟩) (okS.all _ trivial) (fun ad S Q Qc hC hc k => V_callV (as := [_]) (st := []) (M' := MX5_readWith) (ci := 5) (pc2 := 106) (dk D_X5_readUnary 22 rfl) ml_5_199 mv_X5_readWith rfl rfl (by decide) rfl (Nat.le_of_ble_eq_true rfl) rfl he24 (hC.k' (fixH 77 5 (by decide) rfl)) hc k) hc25 (kRI.k fun y26 κ27 h mo28 => ?_)
      obtain ⟨h29, h⟩ := h
      exact K_ret (r := .inl (some (vI _))) (fun ad S Q _ k => V_zreturn (dk D_X5_readUnary 23 rfl) rfl h29 k) h
    · have h := h.2.2.2.2.1 q1
      refine K_p (pc2 := 115) (lv2 := [(0, vR 77)]) (st2 := [vR 77]) (fun ad S Q _ k => V_aload_n (pc2 := 115) (dk D_X5_readUnary 28 rfl) rfl (V_lg 0 rfl) rfl k) ?_
      obtain ⟨e30, he31, hc32⟩ := h
      refine K_call (as := [vR 77]) (st := []) (pc2 := 118) (okL.all _ ⟨(Or.inr ⟨Or.inl ⟨by decide, by decide⟩, by decide⟩), trivial⟩) (okS.all _ trivial) (fun ad S Q Qc hC hc k => V_callV (as := []) (st := []) (M' := MX5_readInject) (ci := 5) (pc2 := 118) (dk D_X5_readUnary 29 rfl) ml_5_202 mv_X5_readInject rfl rfl (by decide) rfl (Nat.le_of_ble_eq_true rfl) rfl he31 (hC.k' (fixH 77 5 (by decide) rfl)) hc k) hc32 (kRI.k fun y33 κ34 h mo35 => ?_)
      obtain ⟨h36, h⟩ := h
      exact K_ret (r := .inl (some (vI _))) (fun ad S Q _ k => V_zreturn (dk D_X5_readUnary 30 rfl) rfl h36 k) h
    · have h := h.2.2.2.2.2.1 q1
      refine K_p (pc2 := 108) (lv2 := [(0, vR 77)]) (st2 := [vR 77]) (fun ad S Q _ k => V_aload_n (pc2 := 108) (dk D_X5_readUnary 24 rfl) rfl (V_lg 0 rfl) rfl k) ?_
      refine K_p (pc2 := 110) (lv2 := [(0, vR 77)]) (st2 := [vI _, vR 77]) (fun ad S Q _ k => V_bipush (x := 28) (pc2 := 110) (dk D_X5_readUnary 25 rfl) (by decide) rfl k) ?_
      obtain ⟨e37, he38, hc39⟩ := h
      refine K_call (as := [vR 77, vI _]) (st := []) (pc2 := 113) (okL.all _ ⟨(Or.inr ⟨Or.inl ⟨by decide, by decide⟩, by decide⟩), trivial⟩) (okS.all _ trivial) (fun ad S Q Qc hC hc k => V_callV (as := [_]) (st := []) (M' := MX5_readWith) (ci := 5) (pc2 := 113) (dk D_X5_readUnary 26 rfl) ml_5_199 mv_X5_readWith rfl rfl (by decide) rfl (Nat.le_of_ble_eq_true rfl) rfl he38 (hC.k' (fixH 77 5 (by decide) rfl)) hc k) hc39 (kRI.k fun y40 κ41 h mo42 => ?_)
      obtain ⟨h43, h⟩ := h
      exact K_ret (r := .inl (some (vI _))) (fun ad S Q _ k => V_zreturn (dk D_X5_readUnary 27 rfl) rfl h43 k) h
    · have h := h.2.2.2.2.2.2.1 q1
      refine K_p (pc2 := 87) (lv2 := [(0, vR 77)]) (st2 := [vR 77]) (fun ad S Q _ k => V_aload_n (pc2 := 87) (dk D_X5_readUnary 12 rfl) rfl (V_lg 0 rfl) rfl k) ?_
      refine K_p (pc2 := 89) (lv2 := [(0, vR 77)]) (st2 := [vI _, vR 77]) (fun ad S Q _ k => V_bipush (x := 22) (pc2 := 89) (dk D_X5_readUnary 13 rfl) (by decide) rfl k) ?_
      obtain ⟨e44, he45, hc46⟩ := h
      refine K_call (as := [vR 77, vI _]) (st := []) (pc2 := 92) (okL.all _ ⟨(Or.inr ⟨Or.inl ⟨by decide, by decide⟩, by decide⟩), trivial⟩) (okS.all _ trivial) (fun ad S Q Qc hC hc k => V_callV (as := [_]) (st := []) (M' := MX5_readPrefix) (ci := 5) (pc2 := 92) (dk D_X5_readUnary 14 rfl) ml_5_196 mv_X5_readPrefix rfl rfl (by decide) rfl (Nat.le_of_ble_eq_true rfl) rfl he45 (hC.k' (fixH 77 5 (by decide) rfl)) hc k) hc46 (kRI.k fun y47 κ48 h mo49 => ?_)
      obtain ⟨h50, h⟩ := h
      exact K_ret (r := .inl (some (vI _))) (fun ad S Q _ k => V_zreturn (dk D_X5_readUnary 15 rfl) rfl h50 k) h
  · intro q1
    simp only [List.forall_mem_cons] at q1
    have h := h.2.2.2.2.2.2.2 (by rintro (hk | hk | hk | hk | hk | hk | hk) <;> simp_all)
    refine K_p (pc2 := 120) (lv2 := [(0, vR 77)]) (st2 := [vR 77]) (fun ad S Q _ k => V_aload_n (pc2 := 120) (dk D_X5_readUnary 31 rfl) rfl (V_lg 0 rfl) rfl k) ?_
    obtain ⟨e51, he52, hc53⟩ := h
    refine K_call (as := [vR 77]) (st := []) (pc2 := 123) (okL.all _ ⟨(Or.inr ⟨Or.inl ⟨by decide, by decide⟩, by decide⟩), trivial⟩) (okS.all _ trivial) (fun ad S Q Qc hC hc k => V_callV (as := []) (st := []) (M' := MX5_readPlain) (ci := 5) (pc2 := 123) (dk D_X5_readUnary 32 rfl) ml_5_205 mv_X5_readPlain rfl rfl (by decide) rfl (Nat.le_of_ble_eq_true rfl) rfl he52 (hC.k' (fixH 77 5 (by decide) rfl)) hc k) hc53 (kRI.k fun y54 κ55 h mo56 => ?_)
    obtain ⟨h57, h⟩ := h
    exact K_ret (r := .inl (some (vI _))) (fun ad S Q _ k => V_zreturn (dk D_X5_readUnary 33 rfl) rfl h57 k) h
theorem k_5_readPrefix_0 {X : Cx} {d : Nat} {κ : Km} {Q : Res → Km → Prop} (x1 : Int32) (h : ∃ e1 : Nat, e1 + 1 ≤ d ∧ KC' X e1 MX5_takeOpening [vR 77, vI (kI κ 72 7)] κ (kRI fun y4 κ5 => ((y4 = 0 → K X d MX5_readPrefix 21 [(0, vR 77), (1, vI x1)] [] κ5 Q) ∧ (¬ y4 = 0 → ∃ e8 : Nat, e8 + 1 ≤ d ∧ KC' X e8 MX5_readUnary [vR 77] κ5 (kRI fun y11 κ12 => ((y11 = 0 → K X d MX5_readPrefix 21 [(0, vR 77), (1, vI x1)] [] κ12 Q) ∧ (¬ y11 = 0 → ∀ κ15 : Km, κ15 = cI κ12 77 4 ((kI κ12 77 4) - 1) → ∃ e16 : Nat, e16 + 1 ≤ d ∧ KC' X e16 MX1_add [vR 68, vI x1, vI 0] κ15 (kRI fun y19 κ20 => Q (.inl (some (vI 1))) κ20)))))))) : K X d MX5_readPrefix 0 [(0, vR 77), (1, vI x1)] [] κ Q := by
  refine K_p (pc2 := 1) (lv2 := [(0, vR 77), (1, vI _)]) (st2 := [vR 77]) (fun ad S Q _ k => V_aload_n (pc2 := 1) (dk D_X5_readPrefix 0 rfl) rfl (V_lg 0 rfl) rfl k) ?_
  refine K_p (pc2 := 2) (lv2 := [(0, vR 77), (1, vI _)]) (st2 := [vR 77, vR 77]) (fun ad S Q _ k => V_aload_n (pc2 := 2) (dk D_X5_readPrefix 1 rfl) rfl (V_lg 0 rfl) rfl k) ?_
  refine K_getF kc5 (h' := 72) (pc2 := 5) 0 (by decide) (dk D_X5_readPrefix 2 rfl) fl_5_9 (by decide) (fun _ _ => rfl) rfl (fixH 77 5 (by decide) rfl) (by decide) ?_
  refine K_getI kc9 (pc2 := 8) 7 (dk D_X5_readPrefix 3 rfl) fl_5_41 (by decide) (fun _ _ => rfl) rfl (fixH 72 9 (by decide) rfl) ?_
  obtain ⟨e1, he2, hc3⟩ := h
  refine K_call (as := [vR 77, vI _]) (st := []) (pc2 := 11) (okL.all _ ⟨(Or.inr ⟨Or.inl ⟨by decide, by decide⟩, by decide⟩), trivial, trivial⟩) (okS.all _ trivial) (fun ad S Q Qc hC hc k => V_callV (as := [_]) (st := []) (M' := MX5_takeOpening) (ci := 5) (pc2 := 11) (dk D_X5_readPrefix 4 rfl) ml_5_105 mv_X5_takeOpening rfl rfl (by decide) rfl (Nat.le_of_ble_eq_true rfl) rfl he2 (hC.k' (fixH 77 5 (by decide) rfl)) hc k) hc3 (kRI.k fun y4 κ5 h mo6 => ?_)
  refine K_if (pa := 21) (pb := 14) (lv2 := [(0, vR 77), (1, vI _)]) (st2 := []) (fun ad S Q _ k1 k2 => V_ifeq (tgt := 21) (pc2 := 14) (dk D_X5_readPrefix 5 rfl) (by decide) rfl (fun q => k1 q) (fun q => k2 q)) (fun q7 => ?_) (fun q7 => ?_)
  · have h := h.1 q7
    exact h
  · have h := h.2 q7
    refine K_p (pc2 := 15) (lv2 := [(0, vR 77), (1, vI _)]) (st2 := [vR 77]) (fun ad S Q _ k => V_aload_n (pc2 := 15) (dk D_X5_readPrefix 6 rfl) rfl (V_lg 0 rfl) rfl k) ?_
    obtain ⟨e8, he9, hc10⟩ := h
    refine K_call (as := [vR 77]) (st := []) (pc2 := 18) (okL.all _ ⟨(Or.inr ⟨Or.inl ⟨by decide, by decide⟩, by decide⟩), trivial, trivial⟩) (okS.all _ trivial) (fun ad S Q Qc hC hc k => V_callV (as := []) (st := []) (M' := MX5_readUnary) (ci := 5) (pc2 := 18) (dk D_X5_readPrefix 7 rfl) ml_5_190 mv_X5_readUnary rfl rfl (by decide) rfl (Nat.le_of_ble_eq_true rfl) rfl he9 (hC.k' (fixH 77 5 (by decide) rfl)) hc k) hc10 (kRI.k fun y11 κ12 h mo13 => ?_)
    refine K_if (pa := 21) (pb := 23) (lv2 := [(0, vR 77), (1, vI _)]) (st2 := []) (fun ad S Q _ k1 k2 => V_ifne (tgt := 23) (pc2 := 21) (dk D_X5_readPrefix 8 rfl) (by decide) rfl (fun q => k2 q) (fun q => k1 q)) (fun q14 => ?_) (fun q14 => ?_)
    · have h := h.1 q14
      exact h
    · have h := h.2 q14
      refine K_p (pc2 := 24) (lv2 := [(0, vR 77), (1, vI _)]) (st2 := [vR 77]) (fun ad S Q _ k => V_aload_n (pc2 := 24) (dk D_X5_readPrefix 11 rfl) rfl (V_lg 0 rfl) rfl k) ?_
      refine K_p (pc2 := 25) (lv2 := [(0, vR 77), (1, vI _)]) (st2 := [vR 77, vR 77]) (fun ad S Q _ k => V_dup (pc2 := 25) (dk D_X5_readPrefix 12 rfl) rfl rfl k) ?_
      refine K_getI kc5 (pc2 := 28) 4 (dk D_X5_readPrefix 13 rfl) fl_5_34 (by decide) (fun _ _ => rfl) rfl (fixH 77 5 (by decide) rfl) ?_
      refine K_p (pc2 := 29) (lv2 := [(0, vR 77), (1, vI _)]) (st2 := [vI _, vI _, vR 77]) (fun ad S Q _ k => V_iconst (x := 1) (pc2 := 29) (dk D_X5_readPrefix 14 rfl) (by decide) rfl k) ?_
      refine K_p (pc2 := 30) (lv2 := [(0, vR 77), (1, vI _)]) (st2 := [vI _, vR 77]) (fun ad S Q _ k => V_isub (pc2 := 30) (dk D_X5_readPrefix 15 rfl) rfl k) ?_
      refine K_putI kc5 (pc2 := 33) 4 (dk D_X5_readPrefix 16 rfl) fl_5_34 (by decide) (Or.inl rfl) rfl rfl (fixH 77 5 (by decide) rfl) (by decide) ?_
      have h := h _ rfl
      refine K_p (pc2 := 34) (lv2 := [(0, vR 77), (1, vI _)]) (st2 := [vR 77]) (fun ad S Q _ k => V_aload_n (pc2 := 34) (dk D_X5_readPrefix 17 rfl) rfl (V_lg 0 rfl) rfl k) ?_
      refine K_getF kc5 (h' := 68) (pc2 := 37) 2 (by decide) (dk D_X5_readPrefix 18 rfl) fl_5_25 (by decide) (fun _ _ => rfl) rfl (fixH 77 5 (by decide) rfl) (by decide) ?_
      refine K_p (pc2 := 38) (lv2 := [(0, vR 77), (1, vI _)]) (st2 := [vI _, vR 68]) (fun ad S Q _ k => V_iload_n (pc2 := 38) (dk D_X5_readPrefix 19 rfl) rfl (V_lg 1 rfl) rfl k) ?_
      refine K_p (pc2 := 39) (lv2 := [(0, vR 77), (1, vI _)]) (st2 := [vI _, vI _, vR 68]) (fun ad S Q _ k => V_iconst (x := 0) (pc2 := 39) (dk D_X5_readPrefix 20 rfl) (by decide) rfl k) ?_
      obtain ⟨e16, he17, hc18⟩ := h
      refine K_call (as := [vR 68, vI _, vI _]) (st := []) (pc2 := 42) (okL.all _ ⟨(Or.inr ⟨Or.inl ⟨by decide, by decide⟩, by decide⟩), trivial, trivial⟩) (okS.all _ trivial) (fun ad S Q Qc hC hc k => V_callV (as := [_, _]) (st := []) (M' := MX1_add) (ci := 1) (pc2 := 42) (dk D_X5_readPrefix 21 rfl) ml_5_57 mv_X1_add rfl rfl (by decide) rfl (Nat.le_of_ble_eq_true rfl) rfl he17 (hC.k' (fixH 68 1 (by decide) rfl)) hc k) hc18 (kRI.k fun y19 κ20 h mo21 => ?_)
      refine K_p (pc2 := 43) (lv2 := [(0, vR 77), (1, vI _)]) (st2 := []) (fun ad S Q _ k => V_pop (pc2 := 43) (dk D_X5_readPrefix 22 rfl) rfl rfl k) ?_
      refine K_p (pc2 := 44) (lv2 := [(0, vR 77), (1, vI _)]) (st2 := [vI _]) (fun ad S Q _ k => V_iconst (x := 1) (pc2 := 44) (dk D_X5_readPrefix 23 rfl) (by decide) rfl k) ?_
      exact K_ret (r := .inl (some (vI _))) (fun ad S Q _ k => V_zreturn (dk D_X5_readPrefix 24 rfl) rfl (Or.inr rfl) k) h
theorem k_5_readPrefix_21 {X : Cx} {d : Nat} {κ : Km} {Q : Res → Km → Prop} (x1 : Int32) (h : Q (.inl (some (vI 0))) κ) : K X d MX5_readPrefix 21 [(0, vR 77), (1, vI x1)] [] κ Q := by
  refine K_p (pc2 := 22) (lv2 := [(0, vR 77), (1, vI _)]) (st2 := [vI _]) (fun ad S Q _ k => V_iconst (x := 0) (pc2 := 22) (dk D_X5_readPrefix 9 rfl) (by decide) rfl k) ?_
  exact K_ret (r := .inl (some (vI _))) (fun ad S Q _ k => V_zreturn (dk D_X5_readPrefix 10 rfl) rfl (Or.inl rfl) k) h
theorem k_5_readWith_0 {X : Cx} {d : Nat} {κ : Km} {Q : Res → Km → Prop} (x1 : Int32) (h : ∃ e1 : Nat, e1 + 1 ≤ d ∧ KC' X e1 MX5_takeOpening [vR 77, vI (kI κ 72 7)] κ (kRI fun y4 κ5 => ((y4 = 0 → K X d MX5_readWith 27 [(0, vR 77), (1, vI x1)] [] κ5 Q) ∧ (¬ y4 = 0 → ∃ e8 : Nat, e8 + 1 ≤ d ∧ KC' X e8 MX5_readPairWith [vR 77, vI x1, vI 0] κ5 (kRI fun y11 κ12 => ((y11 = 0 → K X d MX5_readWith 27 [(0, vR 77), (1, vI x1)] [] κ12 Q) ∧ (¬ y11 = 0 → K X d MX5_readWith 28 [(0, vR 77), (1, vI x1)] [vI 1] κ12 Q))))))) : K X d MX5_readWith 0 [(0, vR 77), (1, vI x1)] [] κ Q := by
  refine K_p (pc2 := 1) (lv2 := [(0, vR 77), (1, vI _)]) (st2 := [vR 77]) (fun ad S Q _ k => V_aload_n (pc2 := 1) (dk D_X5_readWith 0 rfl) rfl (V_lg 0 rfl) rfl k) ?_
  refine K_p (pc2 := 2) (lv2 := [(0, vR 77), (1, vI _)]) (st2 := [vR 77, vR 77]) (fun ad S Q _ k => V_aload_n (pc2 := 2) (dk D_X5_readWith 1 rfl) rfl (V_lg 0 rfl) rfl k) ?_
  refine K_getF kc5 (h' := 72) (pc2 := 5) 0 (by decide) (dk D_X5_readWith 2 rfl) fl_5_9 (by decide) (fun _ _ => rfl) rfl (fixH 77 5 (by decide) rfl) (by decide) ?_
  refine K_getI kc9 (pc2 := 8) 7 (dk D_X5_readWith 3 rfl) fl_5_41 (by decide) (fun _ _ => rfl) rfl (fixH 72 9 (by decide) rfl) ?_
  obtain ⟨e1, he2, hc3⟩ := h
  refine K_call (as := [vR 77, vI _]) (st := []) (pc2 := 11) (okL.all _ ⟨(Or.inr ⟨Or.inl ⟨by decide, by decide⟩, by decide⟩), trivial, trivial⟩) (okS.all _ trivial) (fun ad S Q Qc hC hc k => V_callV (as := [_]) (st := []) (M' := MX5_takeOpening) (ci := 5) (pc2 := 11) (dk D_X5_readWith 4 rfl) ml_5_105 mv_X5_takeOpening rfl rfl (by decide) rfl (Nat.le_of_ble_eq_true rfl) rfl he2 (hC.k' (fixH 77 5 (by decide) rfl)) hc k) hc3 (kRI.k fun y4 κ5 h mo6 => ?_)
  refine K_if (pa := 27) (pb := 14) (lv2 := [(0, vR 77), (1, vI _)]) (st2 := []) (fun ad S Q _ k1 k2 => V_ifeq (tgt := 27) (pc2 := 14) (dk D_X5_readWith 5 rfl) (by decide) rfl (fun q => k1 q) (fun q => k2 q)) (fun q7 => ?_) (fun q7 => ?_)
  · have h := h.1 q7
    exact h
  · have h := h.2 q7
    refine K_p (pc2 := 15) (lv2 := [(0, vR 77), (1, vI _)]) (st2 := [vR 77]) (fun ad S Q _ k => V_aload_n (pc2 := 15) (dk D_X5_readWith 6 rfl) rfl (V_lg 0 rfl) rfl k) ?_
    refine K_p (pc2 := 16) (lv2 := [(0, vR 77), (1, vI _)]) (st2 := [vI _, vR 77]) (fun ad S Q _ k => V_iload_n (pc2 := 16) (dk D_X5_readWith 7 rfl) rfl (V_lg 1 rfl) rfl k) ?_
    refine K_p (pc2 := 17) (lv2 := [(0, vR 77), (1, vI _)]) (st2 := [vI _, vI _, vR 77]) (fun ad S Q _ k => V_iconst (x := 0) (pc2 := 17) (dk D_X5_readWith 8 rfl) (by decide) rfl k) ?_
    obtain ⟨e8, he9, hc10⟩ := h
    refine K_call (as := [vR 77, vI _, vI _]) (st := []) (pc2 := 20) (okL.all _ ⟨(Or.inr ⟨Or.inl ⟨by decide, by decide⟩, by decide⟩), trivial, trivial⟩) (okS.all _ trivial) (fun ad S Q Qc hC hc k => V_callV (as := [_, _]) (st := []) (M' := MX5_readPairWith) (ci := 5) (pc2 := 20) (dk D_X5_readWith 9 rfl) ml_5_208 mv_X5_readPairWith rfl rfl (by decide) rfl (Nat.le_of_ble_eq_true rfl) rfl he9 (hC.k' (fixH 77 5 (by decide) rfl)) hc k) hc10 (kRI.k fun y11 κ12 h mo13 => ?_)
    refine K_if (pa := 27) (pb := 23) (lv2 := [(0, vR 77), (1, vI _)]) (st2 := []) (fun ad S Q _ k1 k2 => V_ifeq (tgt := 27) (pc2 := 23) (dk D_X5_readWith 10 rfl) (by decide) rfl (fun q => k1 q) (fun q => k2 q)) (fun q14 => ?_) (fun q14 => ?_)
    · have h := h.1 q14
      exact h
    · have h := h.2 q14
      refine K_p (pc2 := 24) (lv2 := [(0, vR 77), (1, vI _)]) (st2 := [vI _]) (fun ad S Q _ k => V_iconst (x := 1) (pc2 := 24) (dk D_X5_readWith 11 rfl) (by decide) rfl k) ?_
      refine K_p (pc2 := 28) (lv2 := [(0, vR 77), (1, vI _)]) (st2 := [vI _]) (fun ad S Q _ k => V_goto (tgt := 28) (dk D_X5_readWith 12 rfl) (by decide) k) ?_
      exact h
theorem k_5_readWith_27 {X : Cx} {d : Nat} {κ : Km} {Q : Res → Km → Prop} (x1 : Int32) (h : K X d MX5_readWith 28 [(0, vR 77), (1, vI x1)] [vI 0] κ Q) : K X d MX5_readWith 27 [(0, vR 77), (1, vI x1)] [] κ Q := by
  refine K_p (pc2 := 28) (lv2 := [(0, vR 77), (1, vI _)]) (st2 := [vI _]) (fun ad S Q _ k => V_iconst (x := 0) (pc2 := 28) (dk D_X5_readWith 13 rfl) (by decide) rfl k) ?_
  exact h
theorem k_5_readWith_28 {X : Cx} {d : Nat} {κ : Km} {Q : Res → Km → Prop} (x1 : Int32) (t0 : Int32) (h : (t0 = 0 ∨ t0 = 1) ∧ Q (.inl (some (vI t0))) κ) : K X d MX5_readWith 28 [(0, vR 77), (1, vI x1)] [vI t0] κ Q := by
  obtain ⟨h1, h⟩ := h
  exact K_ret (r := .inl (some (vI _))) (fun ad S Q _ k => V_zreturn (dk D_X5_readWith 14 rfl) rfl h1 k) h
theorem k_5_readPairWith_0 {X : Cx} {d : Nat} {κ : Km} {Q : Res → Km → Prop} (x1 : Int32) (x2 : Int32) (h : ∃ e1 : Nat, e1 + 1 ≤ d ∧ KC' X e1 MX5_readUnary [vR 77] κ (kRI fun y4 κ5 => ((y4 = 0 → K X d MX5_readPairWith 24 [(0, vR 77), (1, vI x1), (2, vI x2)] [] κ5 Q) ∧ (¬ y4 = 0 → ∃ e8 : Nat, e8 + 1 ≤ d ∧ KC' X e8 MX5_take [vR 77, vI 217] κ5 (kRI fun y11 κ12 => ((y11 = 0 → K X d MX5_readPairWith 24 [(0, vR 77), (1, vI x1), (2, vI x2)] [] κ12 Q) ∧ (¬ y11 = 0 → ∃ e15 : Nat, e15 + 1 ≤ d ∧ KC' X e15 MX5_readUnary [vR 77] κ12 (kRI fun y18 κ19 => ((y18 = 0 → K X d MX5_readPairWith 24 [(0, vR 77), (1, vI x1), (2, vI x2)] [] κ19 Q) ∧ (¬ y18 = 0 → ∀ κ22 : Km, κ22 = cI κ19 77 4 ((kI κ19 77 4) - 1) → ∃ e23 : Nat, e23 + 1 ≤ d ∧ KC' X e23 MX1_add [vR 68, vI x1, vI x2] κ22 (kRI fun y26 κ27 => Q (.inl (some (vI 1))) κ27))))))))))) : K X d MX5_readPairWith 0 [(0, vR 77), (1, vI x1), (2, vI x2)] [] κ Q := by
  refine K_p (pc2 := 1) (lv2 := [(0, vR 77), (1, vI _), (2, vI _)]) (st2 := [vR 77]) (fun ad S Q _ k => V_aload_n (pc2 := 1) (dk D_X5_readPairWith 0 rfl) rfl (V_lg 0 rfl) rfl k) ?_
  obtain ⟨e1, he2, hc3⟩ := h
  refine K_call (as := [vR 77]) (st := []) (pc2 := 4) (okL.all _ ⟨(Or.inr ⟨Or.inl ⟨by decide, by decide⟩, by decide⟩), trivial, trivial, trivial⟩) (okS.all _ trivial) (fun ad S Q Qc hC hc k => V_callV (as := []) (st := []) (M' := MX5_readUnary) (ci := 5) (pc2 := 4) (dk D_X5_readPairWith 1 rfl) ml_5_190 mv_X5_readUnary rfl rfl (by decide) rfl (Nat.le_of_ble_eq_true rfl) rfl he2 (hC.k' (fixH 77 5 (by decide) rfl)) hc k) hc3 (kRI.k fun y4 κ5 h mo6 => ?_)
  refine K_if (pa := 24) (pb := 7) (lv2 := [(0, vR 77), (1, vI _), (2, vI _)]) (st2 := []) (fun ad S Q _ k1 k2 => V_ifeq (tgt := 24) (pc2 := 7) (dk D_X5_readPairWith 2 rfl) (by decide) rfl (fun q => k1 q) (fun q => k2 q)) (fun q7 => ?_) (fun q7 => ?_)
  · have h := h.1 q7
    exact h
  · have h := h.2 q7
    refine K_p (pc2 := 8) (lv2 := [(0, vR 77), (1, vI _), (2, vI _)]) (st2 := [vR 77]) (fun ad S Q _ k => V_aload_n (pc2 := 8) (dk D_X5_readPairWith 3 rfl) rfl (V_lg 0 rfl) rfl k) ?_
    refine K_p (pc2 := 11) (lv2 := [(0, vR 77), (1, vI _), (2, vI _)]) (st2 := [vI _, vR 77]) (fun ad S Q _ k => V_sipush (x := 217) (pc2 := 11) (dk D_X5_readPairWith 4 rfl) (by decide) rfl k) ?_
    obtain ⟨e8, he9, hc10⟩ := h
    refine K_call (as := [vR 77, vI _]) (st := []) (pc2 := 14) (okL.all _ ⟨(Or.inr ⟨Or.inl ⟨by decide, by decide⟩, by decide⟩), trivial, trivial, trivial⟩) (okS.all _ trivial) (fun ad S Q Qc hC hc k => V_callV (as := [_]) (st := []) (M' := MX5_take) (ci := 5) (pc2 := 14) (dk D_X5_readPairWith 5 rfl) ml_5_156 mv_X5_take rfl rfl (by decide) rfl (Nat.le_of_ble_eq_true rfl) rfl he9 (hC.k' (fixH 77 5 (by decide) rfl)) hc k) hc10 (kRI.k fun y11 κ12 h mo13 => ?_)
    refine K_if (pa := 24) (pb := 17) (lv2 := [(0, vR 77), (1, vI _), (2, vI _)]) (st2 := []) (fun ad S Q _ k1 k2 => V_ifeq (tgt := 24) (pc2 := 17) (dk D_X5_readPairWith 6 rfl) (by decide) rfl (fun q => k1 q) (fun q => k2 q)) (fun q14 => ?_) (fun q14 => ?_)
    · have h := h.1 q14
      exact h
    · have h := h.2 q14
      refine K_p (pc2 := 18) (lv2 := [(0, vR 77), (1, vI _), (2, vI _)]) (st2 := [vR 77]) (fun ad S Q _ k => V_aload_n (pc2 := 18) (dk D_X5_readPairWith 7 rfl) rfl (V_lg 0 rfl) rfl k) ?_
      obtain ⟨e15, he16, hc17⟩ := h
      refine K_call (as := [vR 77]) (st := []) (pc2 := 21) (okL.all _ ⟨(Or.inr ⟨Or.inl ⟨by decide, by decide⟩, by decide⟩), trivial, trivial, trivial⟩) (okS.all _ trivial) (fun ad S Q Qc hC hc k => V_callV (as := []) (st := []) (M' := MX5_readUnary) (ci := 5) (pc2 := 21) (dk D_X5_readPairWith 8 rfl) ml_5_190 mv_X5_readUnary rfl rfl (by decide) rfl (Nat.le_of_ble_eq_true rfl) rfl he16 (hC.k' (fixH 77 5 (by decide) rfl)) hc k) hc17 (kRI.k fun y18 κ19 h mo20 => ?_)
      refine K_if (pa := 24) (pb := 26) (lv2 := [(0, vR 77), (1, vI _), (2, vI _)]) (st2 := []) (fun ad S Q _ k1 k2 => V_ifne (tgt := 26) (pc2 := 24) (dk D_X5_readPairWith 9 rfl) (by decide) rfl (fun q => k2 q) (fun q => k1 q)) (fun q21 => ?_) (fun q21 => ?_)
      · have h := h.1 q21
        exact h
      · have h := h.2 q21
        refine K_p (pc2 := 27) (lv2 := [(0, vR 77), (1, vI _), (2, vI _)]) (st2 := [vR 77]) (fun ad S Q _ k => V_aload_n (pc2 := 27) (dk D_X5_readPairWith 12 rfl) rfl (V_lg 0 rfl) rfl k) ?_
        refine K_p (pc2 := 28) (lv2 := [(0, vR 77), (1, vI _), (2, vI _)]) (st2 := [vR 77, vR 77]) (fun ad S Q _ k => V_dup (pc2 := 28) (dk D_X5_readPairWith 13 rfl) rfl rfl k) ?_
        refine K_getI kc5 (pc2 := 31) 4 (dk D_X5_readPairWith 14 rfl) fl_5_34 (by decide) (fun _ _ => rfl) rfl (fixH 77 5 (by decide) rfl) ?_
        refine K_p (pc2 := 32) (lv2 := [(0, vR 77), (1, vI _), (2, vI _)]) (st2 := [vI _, vI _, vR 77]) (fun ad S Q _ k => V_iconst (x := 1) (pc2 := 32) (dk D_X5_readPairWith 15 rfl) (by decide) rfl k) ?_
        refine K_p (pc2 := 33) (lv2 := [(0, vR 77), (1, vI _), (2, vI _)]) (st2 := [vI _, vR 77]) (fun ad S Q _ k => V_isub (pc2 := 33) (dk D_X5_readPairWith 16 rfl) rfl k) ?_
        refine K_putI kc5 (pc2 := 36) 4 (dk D_X5_readPairWith 17 rfl) fl_5_34 (by decide) (Or.inl rfl) rfl rfl (fixH 77 5 (by decide) rfl) (by decide) ?_
        have h := h _ rfl
        refine K_p (pc2 := 37) (lv2 := [(0, vR 77), (1, vI _), (2, vI _)]) (st2 := [vR 77]) (fun ad S Q _ k => V_aload_n (pc2 := 37) (dk D_X5_readPairWith 18 rfl) rfl (V_lg 0 rfl) rfl k) ?_
        refine K_getF kc5 (h' := 68) (pc2 := 40) 2 (by decide) (dk D_X5_readPairWith 19 rfl) fl_5_25 (by decide) (fun _ _ => rfl) rfl (fixH 77 5 (by decide) rfl) (by decide) ?_
        refine K_p (pc2 := 41) (lv2 := [(0, vR 77), (1, vI _), (2, vI _)]) (st2 := [vI _, vR 68]) (fun ad S Q _ k => V_iload_n (pc2 := 41) (dk D_X5_readPairWith 20 rfl) rfl (V_lg 1 rfl) rfl k) ?_
        refine K_p (pc2 := 42) (lv2 := [(0, vR 77), (1, vI _), (2, vI _)]) (st2 := [vI _, vI _, vR 68]) (fun ad S Q _ k => V_iload_n (pc2 := 42) (dk D_X5_readPairWith 21 rfl) rfl (V_lg 2 rfl) rfl k) ?_
        obtain ⟨e23, he24, hc25⟩ := h
        refine K_call (as := [vR 68, vI _, vI _]) (st := []) (pc2 := 45) (okL.all _ ⟨(Or.inr ⟨Or.inl ⟨by decide, by decide⟩, by decide⟩), trivial, trivial, trivial⟩) (okS.all _ trivial) (fun ad S Q Qc hC hc k => V_callV (as := [_, _]) (st := []) (M' := MX1_add) (ci := 1) (pc2 := 45) (dk D_X5_readPairWith 22 rfl) ml_5_57 mv_X1_add rfl rfl (by decide) rfl (Nat.le_of_ble_eq_true rfl) rfl he24 (hC.k' (fixH 68 1 (by decide) rfl)) hc k) hc25 (kRI.k fun y26 κ27 h mo28 => ?_)
        refine K_p (pc2 := 46) (lv2 := [(0, vR 77), (1, vI _), (2, vI _)]) (st2 := []) (fun ad S Q _ k => V_pop (pc2 := 46) (dk D_X5_readPairWith 23 rfl) rfl rfl k) ?_
        refine K_p (pc2 := 47) (lv2 := [(0, vR 77), (1, vI _), (2, vI _)]) (st2 := [vI _]) (fun ad S Q _ k => V_iconst (x := 1) (pc2 := 47) (dk D_X5_readPairWith 24 rfl) (by decide) rfl k) ?_
        exact K_ret (r := .inl (some (vI _))) (fun ad S Q _ k => V_zreturn (dk D_X5_readPairWith 25 rfl) rfl (Or.inr rfl) k) h
theorem k_5_readPairWith_24 {X : Cx} {d : Nat} {κ : Km} {Q : Res → Km → Prop} (x1 : Int32) (x2 : Int32) (h : Q (.inl (some (vI 0))) κ) : K X d MX5_readPairWith 24 [(0, vR 77), (1, vI x1), (2, vI x2)] [] κ Q := by
  refine K_p (pc2 := 25) (lv2 := [(0, vR 77), (1, vI _), (2, vI _)]) (st2 := [vI _]) (fun ad S Q _ k => V_iconst (x := 0) (pc2 := 25) (dk D_X5_readPairWith 10 rfl) (by decide) rfl k) ?_
  exact K_ret (r := .inl (some (vI _))) (fun ad S Q _ k => V_zreturn (dk D_X5_readPairWith 11 rfl) rfl (Or.inl rfl) k) h
theorem k_5_readInject_0 {X : Cx} {d : Nat} {κ : Km} {Q : Res → Km → Prop}  (h : ∃ e1 : Nat, e1 + 1 ≤ d ∧ KC' X e1 MX5_takeOpening [vR 77, vI 214] κ (kRI fun y4 κ5 => ((y4 = 0 → K X d MX5_readInject 17 [(0, vR 77)] [] κ5 Q) ∧ (¬ y4 = 0 → ∃ e8 : Nat, e8 + 1 ≤ d ∧ KC' X e8 MX5_isNumber [vR 77] κ5 (kRI fun y11 κ12 => ((y11 = 0 → K X d MX5_readInject 17 [(0, vR 77)] [] κ12 Q) ∧ (¬ y11 = 0 → ∃ e15 : Nat, e15 + 1 ≤ d ∧ KC' X e15 MX5_numberHere [vR 77] κ12 (kRI fun y18 κ19 => ∃ e21 : Nat, e21 + 1 ≤ d ∧ KC' X e21 MX9_next [vR 72] κ19 (kRV fun  κ24 => ∃ e26 : Nat, e26 + 1 ≤ d ∧ KC' X e26 MX5_take [vR 77, vI 218] κ24 (kRI fun y29 κ30 => ((y29 = 0 → K X d MX5_readInject 58 [(0, vR 77), (1, vI (y18 - y18 / 10 * 10))] [] κ30 Q) ∧ (¬ y29 = 0 → ∃ e33 : Nat, e33 + 1 ≤ d ∧ KC' X e33 MX5_readPairWith [vR 77, vI 27, vI (y18 - y18 / 10 * 10)] κ30 (kRI fun y36 κ37 => ((y36 = 0 → K X d MX5_readInject 58 [(0, vR 77), (1, vI (y18 - y18 / 10 * 10))] [] κ37 Q) ∧ (¬ y36 = 0 → K X d MX5_readInject 59 [(0, vR 77), (1, vI (y18 - y18 / 10 * 10))] [vI 1] κ37 Q))))))))))))))) : K X d MX5_readInject 0 [(0, vR 77)] [] κ Q := by
  refine K_p (pc2 := 1) (lv2 := [(0, vR 77)]) (st2 := [vR 77]) (fun ad S Q _ k => V_aload_n (pc2 := 1) (dk D_X5_readInject 0 rfl) rfl (V_lg 0 rfl) rfl k) ?_
  refine K_p (pc2 := 4) (lv2 := [(0, vR 77)]) (st2 := [vI _, vR 77]) (fun ad S Q _ k => V_sipush (x := 214) (pc2 := 4) (dk D_X5_readInject 1 rfl) (by decide) rfl k) ?_
  obtain ⟨e1, he2, hc3⟩ := h
  refine K_call (as := [vR 77, vI _]) (st := []) (pc2 := 7) (okL.all _ ⟨(Or.inr ⟨Or.inl ⟨by decide, by decide⟩, by decide⟩), trivial⟩) (okS.all _ trivial) (fun ad S Q Qc hC hc k => V_callV (as := [_]) (st := []) (M' := MX5_takeOpening) (ci := 5) (pc2 := 7) (dk D_X5_readInject 2 rfl) ml_5_105 mv_X5_takeOpening rfl rfl (by decide) rfl (Nat.le_of_ble_eq_true rfl) rfl he2 (hC.k' (fixH 77 5 (by decide) rfl)) hc k) hc3 (kRI.k fun y4 κ5 h mo6 => ?_)
  refine K_if (pa := 17) (pb := 10) (lv2 := [(0, vR 77)]) (st2 := []) (fun ad S Q _ k1 k2 => V_ifeq (tgt := 17) (pc2 := 10) (dk D_X5_readInject 3 rfl) (by decide) rfl (fun q => k1 q) (fun q => k2 q)) (fun q7 => ?_) (fun q7 => ?_)
  · have h := h.1 q7
    exact h
  · have h := h.2 q7
    refine K_p (pc2 := 11) (lv2 := [(0, vR 77)]) (st2 := [vR 77]) (fun ad S Q _ k => V_aload_n (pc2 := 11) (dk D_X5_readInject 4 rfl) rfl (V_lg 0 rfl) rfl k) ?_
    obtain ⟨e8, he9, hc10⟩ := h
    refine K_call (as := [vR 77]) (st := []) (pc2 := 14) (okL.all _ ⟨(Or.inr ⟨Or.inl ⟨by decide, by decide⟩, by decide⟩), trivial⟩) (okS.all _ trivial) (fun ad S Q Qc hC hc k => V_callV (as := []) (st := []) (M' := MX5_isNumber) (ci := 5) (pc2 := 14) (dk D_X5_readInject 5 rfl) ml_5_159 mv_X5_isNumber rfl rfl (by decide) rfl (Nat.le_of_ble_eq_true rfl) rfl he9 (hC.k' (fixH 77 5 (by decide) rfl)) hc k) hc10 (kRI.k fun y11 κ12 h mo13 => ?_)
    refine K_if (pa := 17) (pb := 19) (lv2 := [(0, vR 77)]) (st2 := []) (fun ad S Q _ k1 k2 => V_ifne (tgt := 19) (pc2 := 17) (dk D_X5_readInject 6 rfl) (by decide) rfl (fun q => k2 q) (fun q => k1 q)) (fun q14 => ?_) (fun q14 => ?_)
    · have h := h.1 q14
      exact h
    · have h := h.2 q14
      refine K_p (pc2 := 20) (lv2 := [(0, vR 77)]) (st2 := [vR 77]) (fun ad S Q _ k => V_aload_n (pc2 := 20) (dk D_X5_readInject 9 rfl) rfl (V_lg 0 rfl) rfl k) ?_
      obtain ⟨e15, he16, hc17⟩ := h
      refine K_call (as := [vR 77]) (st := []) (pc2 := 23) (okL.all _ ⟨(Or.inr ⟨Or.inl ⟨by decide, by decide⟩, by decide⟩), trivial⟩) (okS.all _ trivial) (fun ad S Q Qc hC hc k => V_callV (as := []) (st := []) (M' := MX5_numberHere) (ci := 5) (pc2 := 23) (dk D_X5_readInject 10 rfl) ml_5_162 mv_X5_numberHere rfl rfl (by decide) rfl (Nat.le_of_ble_eq_true rfl) rfl he16 (hC.k' (fixH 77 5 (by decide) rfl)) hc k) hc17 (kRI.k fun y18 κ19 h mo20 => ?_)
      refine K_p (pc2 := 25) (lv2 := [(0, vR 77)]) (st2 := [vI _, vI _]) (fun ad S Q _ k => V_bipush (x := 10) (pc2 := 25) (dk D_X5_readInject 11 rfl) (by decide) rfl k) ?_
      refine K_p (pc2 := 26) (lv2 := [(0, vR 77)]) (st2 := [vI _]) (fun ad S Q _ k => V_irem (pc2 := 26) (dk D_X5_readInject 12 rfl) rfl (by decide) k) ?_
      refine K_p (pc2 := 27) (lv2 := [(0, vR 77), (1, vI _)]) (st2 := []) (fun ad S Q _ k => V_istore_n (pc2 := 27) (lv2 := [(0, _), (1, _)]) (dk D_X5_readInject 13 rfl) rfl (by decide) rfl rfl k) ?_
      refine K_p (pc2 := 28) (lv2 := [(0, vR 77), (1, vI _)]) (st2 := [vR 77]) (fun ad S Q _ k => V_aload_n (pc2 := 28) (dk D_X5_readInject 14 rfl) rfl (V_lg 0 rfl) rfl k) ?_
      refine K_getF kc5 (h' := 72) (pc2 := 31) 0 (by decide) (dk D_X5_readInject 15 rfl) fl_5_9 (by decide) (fun _ _ => rfl) rfl (fixH 77 5 (by decide) rfl) (by decide) ?_
      obtain ⟨e21, he22, hc23⟩ := h
      refine K_call (as := [vR 72]) (st := []) (pc2 := 34) (okL.all _ ⟨(Or.inr ⟨Or.inl ⟨by decide, by decide⟩, by decide⟩), trivial, trivial⟩) (okS.all _ trivial) (fun ad S Q Qc hC hc k => V_callV (as := []) (st := []) (M' := MX9_next) (ci := 9) (pc2 := 34) (dk D_X5_readInject 16 rfl) ml_5_77 mv_X9_next rfl rfl (by decide) rfl (Nat.le_of_ble_eq_true rfl) rfl he22 (hC.k' (fixH 72 9 (by decide) rfl)) hc k) hc23 (kRV.k fun  κ24 h mo25 => ?_)
      refine K_p (pc2 := 35) (lv2 := [(0, vR 77), (1, vI _)]) (st2 := [vR 77]) (fun ad S Q _ k => V_aload_n (pc2 := 35) (dk D_X5_readInject 17 rfl) rfl (V_lg 0 rfl) rfl k) ?_
      refine K_p (pc2 := 38) (lv2 := [(0, vR 77), (1, vI _)]) (st2 := [vI _, vR 77]) (fun ad S Q _ k => V_sipush (x := 218) (pc2 := 38) (dk D_X5_readInject 18 rfl) (by decide) rfl k) ?_
      obtain ⟨e26, he27, hc28⟩ := h
      refine K_call (as := [vR 77, vI _]) (st := []) (pc2 := 41) (okL.all _ ⟨(Or.inr ⟨Or.inl ⟨by decide, by decide⟩, by decide⟩), trivial, trivial⟩) (okS.all _ trivial) (fun ad S Q Qc hC hc k => V_callV (as := [_]) (st := []) (M' := MX5_take) (ci := 5) (pc2 := 41) (dk D_X5_readInject 19 rfl) ml_5_156 mv_X5_take rfl rfl (by decide) rfl (Nat.le_of_ble_eq_true rfl) rfl he27 (hC.k' (fixH 77 5 (by decide) rfl)) hc k) hc28 (kRI.k fun y29 κ30 h mo31 => ?_)
      refine K_if (pa := 58) (pb := 44) (lv2 := [(0, vR 77), (1, vI _)]) (st2 := []) (fun ad S Q _ k1 k2 => V_ifeq (tgt := 58) (pc2 := 44) (dk D_X5_readInject 20 rfl) (by decide) rfl (fun q => k1 q) (fun q => k2 q)) (fun q32 => ?_) (fun q32 => ?_)
      · have h := h.1 q32
        exact h
      · have h := h.2 q32
        refine K_p (pc2 := 45) (lv2 := [(0, vR 77), (1, vI _)]) (st2 := [vR 77]) (fun ad S Q _ k => V_aload_n (pc2 := 45) (dk D_X5_readInject 21 rfl) rfl (V_lg 0 rfl) rfl k) ?_
        refine K_p (pc2 := 47) (lv2 := [(0, vR 77), (1, vI _)]) (st2 := [vI _, vR 77]) (fun ad S Q _ k => V_bipush (x := 27) (pc2 := 47) (dk D_X5_readInject 22 rfl) (by decide) rfl k) ?_
        refine K_p (pc2 := 48) (lv2 := [(0, vR 77), (1, vI _)]) (st2 := [vI _, vI _, vR 77]) (fun ad S Q _ k => V_iload_n (pc2 := 48) (dk D_X5_readInject 23 rfl) rfl (V_lg 1 rfl) rfl k) ?_
        obtain ⟨e33, he34, hc35⟩ := h
        refine K_call (as := [vR 77, vI _, vI _]) (st := []) (pc2 := 51) (okL.all _ ⟨(Or.inr ⟨Or.inl ⟨by decide, by decide⟩, by decide⟩), trivial, trivial⟩) (okS.all _ trivial) (fun ad S Q Qc hC hc k => V_callV (as := [_, _]) (st := []) (M' := MX5_readPairWith) (ci := 5) (pc2 := 51) (dk D_X5_readInject 24 rfl) ml_5_208 mv_X5_readPairWith rfl rfl (by decide) rfl (Nat.le_of_ble_eq_true rfl) rfl he34 (hC.k' (fixH 77 5 (by decide) rfl)) hc k) hc35 (kRI.k fun y36 κ37 h mo38 => ?_)
        refine K_if (pa := 58) (pb := 54) (lv2 := [(0, vR 77), (1, vI _)]) (st2 := []) (fun ad S Q _ k1 k2 => V_ifeq (tgt := 58) (pc2 := 54) (dk D_X5_readInject 25 rfl) (by decide) rfl (fun q => k1 q) (fun q => k2 q)) (fun q39 => ?_) (fun q39 => ?_)
        · have h := h.1 q39
          exact h
        · have h := h.2 q39
          refine K_p (pc2 := 55) (lv2 := [(0, vR 77), (1, vI _)]) (st2 := [vI _]) (fun ad S Q _ k => V_iconst (x := 1) (pc2 := 55) (dk D_X5_readInject 26 rfl) (by decide) rfl k) ?_
          refine K_p (pc2 := 59) (lv2 := [(0, vR 77), (1, vI _)]) (st2 := [vI _]) (fun ad S Q _ k => V_goto (tgt := 59) (dk D_X5_readInject 27 rfl) (by decide) k) ?_
          exact h
theorem k_5_readInject_17 {X : Cx} {d : Nat} {κ : Km} {Q : Res → Km → Prop}  (h : Q (.inl (some (vI 0))) κ) : K X d MX5_readInject 17 [(0, vR 77)] [] κ Q := by
  refine K_p (pc2 := 18) (lv2 := [(0, vR 77)]) (st2 := [vI _]) (fun ad S Q _ k => V_iconst (x := 0) (pc2 := 18) (dk D_X5_readInject 7 rfl) (by decide) rfl k) ?_
  exact K_ret (r := .inl (some (vI _))) (fun ad S Q _ k => V_zreturn (dk D_X5_readInject 8 rfl) rfl (Or.inl rfl) k) h
theorem k_5_readInject_58 {X : Cx} {d : Nat} {κ : Km} {Q : Res → Km → Prop} (x1 : Int32) (h : K X d MX5_readInject 59 [(0, vR 77), (1, vI x1)] [vI 0] κ Q) : K X d MX5_readInject 58 [(0, vR 77), (1, vI x1)] [] κ Q := by
  refine K_p (pc2 := 59) (lv2 := [(0, vR 77), (1, vI _)]) (st2 := [vI _]) (fun ad S Q _ k => V_iconst (x := 0) (pc2 := 59) (dk D_X5_readInject 28 rfl) (by decide) rfl k) ?_
  exact h
theorem k_5_readInject_59 {X : Cx} {d : Nat} {κ : Km} {Q : Res → Km → Prop} (x1 : Int32) (t0 : Int32) (h : (t0 = 0 ∨ t0 = 1) ∧ Q (.inl (some (vI t0))) κ) : K X d MX5_readInject 59 [(0, vR 77), (1, vI x1)] [vI t0] κ Q := by
  obtain ⟨h1, h⟩ := h
  exact K_ret (r := .inl (some (vI _))) (fun ad S Q _ k => V_zreturn (dk D_X5_readInject 29 rfl) rfl h1 k) h
theorem k_5_readPlain_0 {X : Cx} {d : Nat} {κ : Km} {Q : Res → Km → Prop}  (h : (((kI κ 72 7) = 2 → ∃ e2 : Nat, e2 + 1 ≤ d ∧ KC' X e2 MX5_readVariableOrCall [vR 77] κ (kRI fun y5 κ6 => (y5 = 0 ∨ y5 = 1) ∧ Q (.inl (some (vI y5))) κ6)) ∧ ((kI κ 72 7) = 3 → ∃ e9 : Nat, e9 + 1 ≤ d ∧ KC' X e9 MX5_isNumber [vR 77] κ (kRI fun y12 κ13 => ((y12 = 0 → Q (.inl (some (vI 0))) κ13) ∧ (¬ y12 = 0 → ∃ e16 : Nat, e16 + 1 ≤ d ∧ KC' X e16 MX5_numberHere [vR 77] κ13 (kRI fun y19 κ20 => ∃ e22 : Nat, e22 + 1 ≤ d ∧ KC' X e22 MX1_add [vR 68, vI 1, vI y19] κ20 (kRI fun y25 κ26 => ∃ e28 : Nat, e28 + 1 ≤ d ∧ KC' X e28 MX9_next [vR 72] κ26 (kRV fun  κ31 => Q (.inl (some (vI 1))) κ31))))))) ∧ ((kI κ 72 7) = 5 → ∃ e33 : Nat, e33 + 1 ≤ d ∧ KC' X e33 MX5_readVariableOrCall [vR 77] κ (kRI fun y36 κ37 => (y36 = 0 ∨ y36 = 1) ∧ Q (.inl (some (vI y36))) κ37)) ∧ ((kI κ 72 7) = 6 → ∃ e40 : Nat, e40 + 1 ≤ d ∧ KC' X e40 MX5_isNumber [vR 77] κ (kRI fun y43 κ44 => ((y43 = 0 → Q (.inl (some (vI 0))) κ44) ∧ (¬ y43 = 0 → ∃ e47 : Nat, e47 + 1 ≤ d ∧ KC' X e47 MX5_numberHere [vR 77] κ44 (kRI fun y50 κ51 => ∃ e53 : Nat, e53 + 1 ≤ d ∧ KC' X e53 MX1_add [vR 68, vI 1, vI y50] κ51 (kRI fun y56 κ57 => ∃ e59 : Nat, e59 + 1 ≤ d ∧ KC' X e59 MX9_next [vR 72] κ57 (kRV fun  κ62 => Q (.inl (some (vI 1))) κ62))))))) ∧ ((kI κ 72 7) = 212 → ∃ e64 : Nat, e64 + 1 ≤ d ∧ KC' X e64 MX5_readNew [vR 77] κ (kRI fun y67 κ68 => (y67 = 0 ∨ y67 = 1) ∧ Q (.inl (some (vI y67))) κ68)) ∧ ((kI κ 72 7) = 219 → ∃ e71 : Nat, e71 + 1 ≤ d ∧ KC' X e71 MX1_add [vR 68, vI 5, vI 0] κ (kRI fun y74 κ75 => ∃ e77 : Nat, e77 + 1 ≤ d ∧ KC' X e77 MX9_next [vR 72] κ75 (kRV fun  κ80 => Q (.inl (some (vI 1))) κ80))) ∧ (¬ ((kI κ 72 7) = 2 ∨ (kI κ 72 7) = 3 ∨ (kI κ 72 7) = 5 ∨ (kI κ 72 7) = 6 ∨ (kI κ 72 7) = 212 ∨ (kI κ 72 7) = 219) → ∃ e82 : Nat, e82 + 1 ≤ d ∧ KC' X e82 MX5_readCondition [vR 77] κ (kRI fun y85 κ86 => (y85 = 0 ∨ y85 = 1) ∧ Q (.inl (some (vI y85))) κ86)))) : K X d MX5_readPlain 0 [(0, vR 77)] [] κ Q := by
  refine K_p (pc2 := 1) (lv2 := [(0, vR 77)]) (st2 := [vR 77]) (fun ad S Q _ k => V_aload_n (pc2 := 1) (dk D_X5_readPlain 0 rfl) rfl (V_lg 0 rfl) rfl k) ?_
  refine K_getF kc5 (h' := 72) (pc2 := 4) 0 (by decide) (dk D_X5_readPlain 1 rfl) fl_5_9 (by decide) (fun _ _ => rfl) rfl (fixH 77 5 (by decide) rfl) (by decide) ?_
  refine K_getI kc9 (pc2 := 7) 7 (dk D_X5_readPlain 2 rfl) fl_5_41 (by decide) (fun _ _ => rfl) rfl (fixH 72 9 (by decide) rfl) ?_
  refine K_look (dk D_X5_readPlain 3 rfl) (by decide) [(2, 88, 95), (3, 57, 64), (5, 88, 95), (6, 57, 64), (212, 112, 119), (219, 93, 100)] 124 (by decide) (by decide) (by decide) (by decide) ?_ ?_
  · simp only [List.forall_mem_cons]
    refine ⟨fun q1 => ?_, fun q1 => ?_, fun q1 => ?_, fun q1 => ?_, fun q1 => ?_, fun q1 => ?_, fun _ hq => absurd hq List.not_mem_nil⟩
    · have h := h.1 q1
      refine K_p (pc2 := 96) (lv2 := [(0, vR 77)]) (st2 := [vR 77]) (fun ad S Q _ k => V_aload_n (pc2 := 96) (dk D_X5_readPlain 21 rfl) rfl (V_lg 0 rfl) rfl k) ?_
      obtain ⟨e2, he3, hc4⟩ := h
      refine K_call (as := [vR 77]) (st := []) (pc2 := 99) (okL.all _ ⟨(Or.inr ⟨Or.inl ⟨by decide, by decide⟩, by decide⟩), trivial⟩) (okS.all _ trivial) (fun ad S Q Qc hC hc k => V_callV (as := []) (st := []) (M' := MX5_readVariableOrCall) (ci := 5) (pc2 := 99) (dk D_X5_readPlain 22 rfl) ml_5_212 mv_X5_readVariableOrCall rfl rfl (by decide) rfl (Nat.le_of_ble_eq_true rfl) rfl he3 (hC.k' (fixH 77 5 (by decide) rfl)) hc k) hc4 (kRI.k fun y5 κ6 h mo7 => ?_)
      obtain ⟨h8, h⟩ := h
      exact K_ret (r := .inl (some (vI _))) (fun ad S Q _ k => V_zreturn (dk D_X5_readPlain 23 rfl) rfl h8 k) h
    · have h := h.2.1 q1
      refine K_p (pc2 := 65) (lv2 := [(0, vR 77)]) (st2 := [vR 77]) (fun ad S Q _ k => V_aload_n (pc2 := 65) (dk D_X5_readPlain 4 rfl) rfl (V_lg 0 rfl) rfl k) ?_
      obtain ⟨e9, he10, hc11⟩ := h
      refine K_call (as := [vR 77]) (st := []) (pc2 := 68) (okL.all _ ⟨(Or.inr ⟨Or.inl ⟨by decide, by decide⟩, by decide⟩), trivial⟩) (okS.all _ trivial) (fun ad S Q Qc hC hc k => V_callV (as := []) (st := []) (M' := MX5_isNumber) (ci := 5) (pc2 := 68) (dk D_X5_readPlain 5 rfl) ml_5_159 mv_X5_isNumber rfl rfl (by decide) rfl (Nat.le_of_ble_eq_true rfl) rfl he10 (hC.k' (fixH 77 5 (by decide) rfl)) hc k) hc11 (kRI.k fun y12 κ13 h mo14 => ?_)
      refine K_if (pa := 71) (pb := 73) (lv2 := [(0, vR 77)]) (st2 := []) (fun ad S Q _ k1 k2 => V_ifne (tgt := 73) (pc2 := 71) (dk D_X5_readPlain 6 rfl) (by decide) rfl (fun q => k2 q) (fun q => k1 q)) (fun q15 => ?_) (fun q15 => ?_)
      · have h := h.1 q15
        refine K_p (pc2 := 72) (lv2 := [(0, vR 77)]) (st2 := [vI _]) (fun ad S Q _ k => V_iconst (x := 0) (pc2 := 72) (dk D_X5_readPlain 7 rfl) (by decide) rfl k) ?_
        exact K_ret (r := .inl (some (vI _))) (fun ad S Q _ k => V_zreturn (dk D_X5_readPlain 8 rfl) rfl (Or.inl rfl) k) h
      · have h := h.2 q15
        refine K_p (pc2 := 74) (lv2 := [(0, vR 77)]) (st2 := [vR 77]) (fun ad S Q _ k => V_aload_n (pc2 := 74) (dk D_X5_readPlain 9 rfl) rfl (V_lg 0 rfl) rfl k) ?_
        refine K_getF kc5 (h' := 68) (pc2 := 77) 2 (by decide) (dk D_X5_readPlain 10 rfl) fl_5_25 (by decide) (fun _ _ => rfl) rfl (fixH 77 5 (by decide) rfl) (by decide) ?_
        refine K_p (pc2 := 78) (lv2 := [(0, vR 77)]) (st2 := [vI _, vR 68]) (fun ad S Q _ k => V_iconst (x := 1) (pc2 := 78) (dk D_X5_readPlain 11 rfl) (by decide) rfl k) ?_
        refine K_p (pc2 := 79) (lv2 := [(0, vR 77)]) (st2 := [vR 77, vI _, vR 68]) (fun ad S Q _ k => V_aload_n (pc2 := 79) (dk D_X5_readPlain 12 rfl) rfl (V_lg 0 rfl) rfl k) ?_
        obtain ⟨e16, he17, hc18⟩ := h
        refine K_call (as := [vR 77]) (st := [vI _, vR 68]) (pc2 := 82) (okL.all _ ⟨(Or.inr ⟨Or.inl ⟨by decide, by decide⟩, by decide⟩), trivial⟩) (okS.all _ ⟨trivial, (Or.inr ⟨Or.inl ⟨by decide, by decide⟩, by decide⟩), trivial⟩) (fun ad S Q Qc hC hc k => V_callV (as := []) (st := [_, _]) (M' := MX5_numberHere) (ci := 5) (pc2 := 82) (dk D_X5_readPlain 13 rfl) ml_5_162 mv_X5_numberHere rfl rfl (by decide) rfl (Nat.le_of_ble_eq_true rfl) rfl he17 (hC.k' (fixH 77 5 (by decide) rfl)) hc k) hc18 (kRI.k fun y19 κ20 h mo21 => ?_)
        obtain ⟨e22, he23, hc24⟩ := h
        refine K_call (as := [vR 68, vI _, vI _]) (st := []) (pc2 := 85) (okL.all _ ⟨(Or.inr ⟨Or.inl ⟨by decide, by decide⟩, by decide⟩), trivial⟩) (okS.all _ trivial) (fun ad S Q Qc hC hc k => V_callV (as := [_, _]) (st := []) (M' := MX1_add) (ci := 1) (pc2 := 85) (dk D_X5_readPlain 14 rfl) ml_5_57 mv_X1_add rfl rfl (by decide) rfl (Nat.le_of_ble_eq_true rfl) rfl he23 (hC.k' (fixH 68 1 (by decide) rfl)) hc k) hc24 (kRI.k fun y25 κ26 h mo27 => ?_)
        refine K_p (pc2 := 86) (lv2 := [(0, vR 77)]) (st2 := []) (fun ad S Q _ k => V_pop (pc2 := 86) (dk D_X5_readPlain 15 rfl) rfl rfl k) ?_
        refine K_p (pc2 := 87) (lv2 := [(0, vR 77)]) (st2 := [vR 77]) (fun ad S Q _ k => V_aload_n (pc2 := 87) (dk D_X5_readPlain 16 rfl) rfl (V_lg 0 rfl) rfl k) ?_
        refine K_getF kc5 (h' := 72) (pc2 := 90) 0 (by decide) (dk D_X5_readPlain 17 rfl) fl_5_9 (by decide) (fun _ _ => rfl) rfl (fixH 77 5 (by decide) rfl) (by decide) ?_
        obtain ⟨e28, he29, hc30⟩ := h
        refine K_call (as := [vR 72]) (st := []) (pc2 := 93) (okL.all _ ⟨(Or.inr ⟨Or.inl ⟨by decide, by decide⟩, by decide⟩), trivial⟩) (okS.all _ trivial) (fun ad S Q Qc hC hc k => V_callV (as := []) (st := []) (M' := MX9_next) (ci := 9) (pc2 := 93) (dk D_X5_readPlain 18 rfl) ml_5_77 mv_X9_next rfl rfl (by decide) rfl (Nat.le_of_ble_eq_true rfl) rfl he29 (hC.k' (fixH 72 9 (by decide) rfl)) hc k) hc30 (kRV.k fun  κ31 h mo32 => ?_)
        refine K_p (pc2 := 94) (lv2 := [(0, vR 77)]) (st2 := [vI _]) (fun ad S Q _ k => V_iconst (x := 1) (pc2 := 94) (dk D_X5_readPlain 19 rfl) (by decide) rfl k) ?_
        exact K_ret (r := .inl (some (vI _))) (fun ad S Q _ k => V_zreturn (dk D_X5_readPlain 20 rfl) rfl (Or.inr rfl) k) h
    · have h := h.2.2.1 q1
      refine K_p (pc2 := 96) (lv2 := [(0, vR 77)]) (st2 := [vR 77]) (fun ad S Q _ k => V_aload_n (pc2 := 96) (dk D_X5_readPlain 21 rfl) rfl (V_lg 0 rfl) rfl k) ?_
      obtain ⟨e33, he34, hc35⟩ := h
      refine K_call (as := [vR 77]) (st := []) (pc2 := 99) (okL.all _ ⟨(Or.inr ⟨Or.inl ⟨by decide, by decide⟩, by decide⟩), trivial⟩) (okS.all _ trivial) (fun ad S Q Qc hC hc k => V_callV (as := []) (st := []) (M' := MX5_readVariableOrCall) (ci := 5) (pc2 := 99) (dk D_X5_readPlain 22 rfl) ml_5_212 mv_X5_readVariableOrCall rfl rfl (by decide) rfl (Nat.le_of_ble_eq_true rfl) rfl he34 (hC.k' (fixH 77 5 (by decide) rfl)) hc k) hc35 (kRI.k fun y36 κ37 h mo38 => ?_)
      obtain ⟨h39, h⟩ := h
      exact K_ret (r := .inl (some (vI _))) (fun ad S Q _ k => V_zreturn (dk D_X5_readPlain 23 rfl) rfl h39 k) h
    · have h := h.2.2.2.1 q1
      refine K_p (pc2 := 65) (lv2 := [(0, vR 77)]) (st2 := [vR 77]) (fun ad S Q _ k => V_aload_n (pc2 := 65) (dk D_X5_readPlain 4 rfl) rfl (V_lg 0 rfl) rfl k) ?_
      obtain ⟨e40, he41, hc42⟩ := h
      refine K_call (as := [vR 77]) (st := []) (pc2 := 68) (okL.all _ ⟨(Or.inr ⟨Or.inl ⟨by decide, by decide⟩, by decide⟩), trivial⟩) (okS.all _ trivial) (fun ad S Q Qc hC hc k => V_callV (as := []) (st := []) (M' := MX5_isNumber) (ci := 5) (pc2 := 68) (dk D_X5_readPlain 5 rfl) ml_5_159 mv_X5_isNumber rfl rfl (by decide) rfl (Nat.le_of_ble_eq_true rfl) rfl he41 (hC.k' (fixH 77 5 (by decide) rfl)) hc k) hc42 (kRI.k fun y43 κ44 h mo45 => ?_)
      refine K_if (pa := 71) (pb := 73) (lv2 := [(0, vR 77)]) (st2 := []) (fun ad S Q _ k1 k2 => V_ifne (tgt := 73) (pc2 := 71) (dk D_X5_readPlain 6 rfl) (by decide) rfl (fun q => k2 q) (fun q => k1 q)) (fun q46 => ?_) (fun q46 => ?_)
      · have h := h.1 q46
        refine K_p (pc2 := 72) (lv2 := [(0, vR 77)]) (st2 := [vI _]) (fun ad S Q _ k => V_iconst (x := 0) (pc2 := 72) (dk D_X5_readPlain 7 rfl) (by decide) rfl k) ?_
        exact K_ret (r := .inl (some (vI _))) (fun ad S Q _ k => V_zreturn (dk D_X5_readPlain 8 rfl) rfl (Or.inl rfl) k) h
      · have h := h.2 q46
        refine K_p (pc2 := 74) (lv2 := [(0, vR 77)]) (st2 := [vR 77]) (fun ad S Q _ k => V_aload_n (pc2 := 74) (dk D_X5_readPlain 9 rfl) rfl (V_lg 0 rfl) rfl k) ?_
        refine K_getF kc5 (h' := 68) (pc2 := 77) 2 (by decide) (dk D_X5_readPlain 10 rfl) fl_5_25 (by decide) (fun _ _ => rfl) rfl (fixH 77 5 (by decide) rfl) (by decide) ?_
        refine K_p (pc2 := 78) (lv2 := [(0, vR 77)]) (st2 := [vI _, vR 68]) (fun ad S Q _ k => V_iconst (x := 1) (pc2 := 78) (dk D_X5_readPlain 11 rfl) (by decide) rfl k) ?_
        refine K_p (pc2 := 79) (lv2 := [(0, vR 77)]) (st2 := [vR 77, vI _, vR 68]) (fun ad S Q _ k => V_aload_n (pc2 := 79) (dk D_X5_readPlain 12 rfl) rfl (V_lg 0 rfl) rfl k) ?_
        obtain ⟨e47, he48, hc49⟩ := h
        refine K_call (as := [vR 77]) (st := [vI _, vR 68]) (pc2 := 82) (okL.all _ ⟨(Or.inr ⟨Or.inl ⟨by decide, by decide⟩, by decide⟩), trivial⟩) (okS.all _ ⟨trivial, (Or.inr ⟨Or.inl ⟨by decide, by decide⟩, by decide⟩), trivial⟩) (fun ad S Q Qc hC hc k => V_callV (as := []) (st := [_, _]) (M' := MX5_numberHere) (ci := 5) (pc2 := 82) (dk D_X5_readPlain 13 rfl) ml_5_162 mv_X5_numberHere rfl rfl (by decide) rfl (Nat.le_of_ble_eq_true rfl) rfl he48 (hC.k' (fixH 77 5 (by decide) rfl)) hc k) hc49 (kRI.k fun y50 κ51 h mo52 => ?_)
        obtain ⟨e53, he54, hc55⟩ := h
        refine K_call (as := [vR 68, vI _, vI _]) (st := []) (pc2 := 85) (okL.all _ ⟨(Or.inr ⟨Or.inl ⟨by decide, by decide⟩, by decide⟩), trivial⟩) (okS.all _ trivial) (fun ad S Q Qc hC hc k => V_callV (as := [_, _]) (st := []) (M' := MX1_add) (ci := 1) (pc2 := 85) (dk D_X5_readPlain 14 rfl) ml_5_57 mv_X1_add rfl rfl (by decide) rfl (Nat.le_of_ble_eq_true rfl) rfl he54 (hC.k' (fixH 68 1 (by decide) rfl)) hc k) hc55 (kRI.k fun y56 κ57 h mo58 => ?_)
        refine K_p (pc2 := 86) (lv2 := [(0, vR 77)]) (st2 := []) (fun ad S Q _ k => V_pop (pc2 := 86) (dk D_X5_readPlain 15 rfl) rfl rfl k) ?_
        refine K_p (pc2 := 87) (lv2 := [(0, vR 77)]) (st2 := [vR 77]) (fun ad S Q _ k => V_aload_n (pc2 := 87) (dk D_X5_readPlain 16 rfl) rfl (V_lg 0 rfl) rfl k) ?_
        refine K_getF kc5 (h' := 72) (pc2 := 90) 0 (by decide) (dk D_X5_readPlain 17 rfl) fl_5_9 (by decide) (fun _ _ => rfl) rfl (fixH 77 5 (by decide) rfl) (by decide) ?_
        obtain ⟨e59, he60, hc61⟩ := h
        refine K_call (as := [vR 72]) (st := []) (pc2 := 93) (okL.all _ ⟨(Or.inr ⟨Or.inl ⟨by decide, by decide⟩, by decide⟩), trivial⟩) (okS.all _ trivial) (fun ad S Q Qc hC hc k => V_callV (as := []) (st := []) (M' := MX9_next) (ci := 9) (pc2 := 93) (dk D_X5_readPlain 18 rfl) ml_5_77 mv_X9_next rfl rfl (by decide) rfl (Nat.le_of_ble_eq_true rfl) rfl he60 (hC.k' (fixH 72 9 (by decide) rfl)) hc k) hc61 (kRV.k fun  κ62 h mo63 => ?_)
        refine K_p (pc2 := 94) (lv2 := [(0, vR 77)]) (st2 := [vI _]) (fun ad S Q _ k => V_iconst (x := 1) (pc2 := 94) (dk D_X5_readPlain 19 rfl) (by decide) rfl k) ?_
        exact K_ret (r := .inl (some (vI _))) (fun ad S Q _ k => V_zreturn (dk D_X5_readPlain 20 rfl) rfl (Or.inr rfl) k) h
    · have h := h.2.2.2.2.1 q1
      refine K_p (pc2 := 120) (lv2 := [(0, vR 77)]) (st2 := [vR 77]) (fun ad S Q _ k => V_aload_n (pc2 := 120) (dk D_X5_readPlain 35 rfl) rfl (V_lg 0 rfl) rfl k) ?_
      obtain ⟨e64, he65, hc66⟩ := h
      refine K_call (as := [vR 77]) (st := []) (pc2 := 123) (okL.all _ ⟨(Or.inr ⟨Or.inl ⟨by decide, by decide⟩, by decide⟩), trivial⟩) (okS.all _ trivial) (fun ad S Q Qc hC hc k => V_callV (as := []) (st := []) (M' := MX5_readNew) (ci := 5) (pc2 := 123) (dk D_X5_readPlain 36 rfl) ml_5_215 mv_X5_readNew rfl rfl (by decide) rfl (Nat.le_of_ble_eq_true rfl) rfl he65 (hC.k' (fixH 77 5 (by decide) rfl)) hc k) hc66 (kRI.k fun y67 κ68 h mo69 => ?_)
      obtain ⟨h70, h⟩ := h
      exact K_ret (r := .inl (some (vI _))) (fun ad S Q _ k => V_zreturn (dk D_X5_readPlain 37 rfl) rfl h70 k) h
    · have h := h.2.2.2.2.2.1 q1
      refine K_p (pc2 := 101) (lv2 := [(0, vR 77)]) (st2 := [vR 77]) (fun ad S Q _ k => V_aload_n (pc2 := 101) (dk D_X5_readPlain 24 rfl) rfl (V_lg 0 rfl) rfl k) ?_
      refine K_getF kc5 (h' := 68) (pc2 := 104) 2 (by decide) (dk D_X5_readPlain 25 rfl) fl_5_25 (by decide) (fun _ _ => rfl) rfl (fixH 77 5 (by decide) rfl) (by decide) ?_
      refine K_p (pc2 := 105) (lv2 := [(0, vR 77)]) (st2 := [vI _, vR 68]) (fun ad S Q _ k => V_iconst (x := 5) (pc2 := 105) (dk D_X5_readPlain 26 rfl) (by decide) rfl k) ?_
      refine K_p (pc2 := 106) (lv2 := [(0, vR 77)]) (st2 := [vI _, vI _, vR 68]) (fun ad S Q _ k => V_iconst (x := 0) (pc2 := 106) (dk D_X5_readPlain 27 rfl) (by decide) rfl k) ?_
      obtain ⟨e71, he72, hc73⟩ := h
      refine K_call (as := [vR 68, vI _, vI _]) (st := []) (pc2 := 109) (okL.all _ ⟨(Or.inr ⟨Or.inl ⟨by decide, by decide⟩, by decide⟩), trivial⟩) (okS.all _ trivial) (fun ad S Q Qc hC hc k => V_callV (as := [_, _]) (st := []) (M' := MX1_add) (ci := 1) (pc2 := 109) (dk D_X5_readPlain 28 rfl) ml_5_57 mv_X1_add rfl rfl (by decide) rfl (Nat.le_of_ble_eq_true rfl) rfl he72 (hC.k' (fixH 68 1 (by decide) rfl)) hc k) hc73 (kRI.k fun y74 κ75 h mo76 => ?_)
      refine K_p (pc2 := 110) (lv2 := [(0, vR 77)]) (st2 := []) (fun ad S Q _ k => V_pop (pc2 := 110) (dk D_X5_readPlain 29 rfl) rfl rfl k) ?_
      refine K_p (pc2 := 111) (lv2 := [(0, vR 77)]) (st2 := [vR 77]) (fun ad S Q _ k => V_aload_n (pc2 := 111) (dk D_X5_readPlain 30 rfl) rfl (V_lg 0 rfl) rfl k) ?_
      refine K_getF kc5 (h' := 72) (pc2 := 114) 0 (by decide) (dk D_X5_readPlain 31 rfl) fl_5_9 (by decide) (fun _ _ => rfl) rfl (fixH 77 5 (by decide) rfl) (by decide) ?_
      obtain ⟨e77, he78, hc79⟩ := h
      refine K_call (as := [vR 72]) (st := []) (pc2 := 117) (okL.all _ ⟨(Or.inr ⟨Or.inl ⟨by decide, by decide⟩, by decide⟩), trivial⟩) (okS.all _ trivial) (fun ad S Q Qc hC hc k => V_callV (as := []) (st := []) (M' := MX9_next) (ci := 9) (pc2 := 117) (dk D_X5_readPlain 32 rfl) ml_5_77 mv_X9_next rfl rfl (by decide) rfl (Nat.le_of_ble_eq_true rfl) rfl he78 (hC.k' (fixH 72 9 (by decide) rfl)) hc k) hc79 (kRV.k fun  κ80 h mo81 => ?_)
      refine K_p (pc2 := 118) (lv2 := [(0, vR 77)]) (st2 := [vI _]) (fun ad S Q _ k => V_iconst (x := 1) (pc2 := 118) (dk D_X5_readPlain 33 rfl) (by decide) rfl k) ?_
      exact K_ret (r := .inl (some (vI _))) (fun ad S Q _ k => V_zreturn (dk D_X5_readPlain 34 rfl) rfl (Or.inr rfl) k) h
  · intro q1
    simp only [List.forall_mem_cons] at q1
    have h := h.2.2.2.2.2.2 (by rintro (hk | hk | hk | hk | hk | hk) <;> simp_all)
    refine K_p (pc2 := 125) (lv2 := [(0, vR 77)]) (st2 := [vR 77]) (fun ad S Q _ k => V_aload_n (pc2 := 125) (dk D_X5_readPlain 38 rfl) rfl (V_lg 0 rfl) rfl k) ?_
    obtain ⟨e82, he83, hc84⟩ := h
    refine K_call (as := [vR 77]) (st := []) (pc2 := 128) (okL.all _ ⟨(Or.inr ⟨Or.inl ⟨by decide, by decide⟩, by decide⟩), trivial⟩) (okS.all _ trivial) (fun ad S Q Qc hC hc k => V_callV (as := []) (st := []) (M' := MX5_readCondition) (ci := 5) (pc2 := 128) (dk D_X5_readPlain 39 rfl) ml_5_165 mv_X5_readCondition rfl rfl (by decide) rfl (Nat.le_of_ble_eq_true rfl) rfl he83 (hC.k' (fixH 77 5 (by decide) rfl)) hc k) hc84 (kRI.k fun y85 κ86 h mo87 => ?_)
    obtain ⟨h88, h⟩ := h
    exact K_ret (r := .inl (some (vI _))) (fun ad S Q _ k => V_zreturn (dk D_X5_readPlain 40 rfl) rfl h88 k) h
theorem k_5_readVariableOrCall_0 {X : Cx} {d : Nat} {κ : Km} {Q : Res → Km → Prop}  (h : ∃ e1 : Nat, e1 + 1 ≤ d ∧ KC' X e1 MX5_isName [vR 77] κ (kRI fun y4 κ5 => ((y4 = 0 → Q (.inl (some (vI 0))) κ5) ∧ (¬ y4 = 0 → ∃ e8 : Nat, e8 + 1 ≤ d ∧ KC' X e8 MX9_index [vR 72] κ5 (kRI fun y11 κ12 => ∃ e14 : Nat, e14 + 1 ≤ d ∧ KC' X e14 MX9_next [vR 72] κ12 (kRV fun  κ17 => (((kI κ17 72 7) = 40 → ∃ e20 : Nat, e20 + 1 ≤ d ∧ KC' X e20 MX5_takeOpening [vR 77, vI 40] κ17 (kRI fun y23 κ24 => ((y23 = 0 → K X d MX5_readVariableOrCall 74 [(0, vR 77), (1, vI y11)] [] κ24 Q) ∧ (¬ y23 = 0 → ∃ e27 : Nat, e27 + 1 ≤ d ∧ KC' X e27 MX5_readValues [vR 77, vI y11, vI 24, vI 4] κ24 (kRI fun y30 κ31 => ((y30 = 0 → K X d MX5_readVariableOrCall 74 [(0, vR 77), (1, vI y11)] [] κ31 Q) ∧ (¬ y30 = 0 → K X d MX5_readVariableOrCall 75 [(0, vR 77), (1, vI y11)] [vI 1] κ31 Q))))))) ∧ (¬ (kI κ17 72 7) = 40 → ∃ e34 : Nat, e34 + 1 ≤ d ∧ KC' X e34 MX1_add [vR 68, vI 2, vI ((-1) - y11)] κ17 (kRI fun y37 κ38 => Q (.inl (some (vI 1))) κ38))))))))) : K X d MX5_readVariableOrCall 0 [(0, vR 77)] [] κ Q := by
  refine K_p (pc2 := 1) (lv2 := [(0, vR 77)]) (st2 := [vR 77]) (fun ad S Q _ k => V_aload_n (pc2 := 1) (dk D_X5_readVariableOrCall 0 rfl) rfl (V_lg 0 rfl) rfl k) ?_
  obtain ⟨e1, he2, hc3⟩ := h
  refine K_call (as := [vR 77]) (st := []) (pc2 := 4) (okL.all _ ⟨(Or.inr ⟨Or.inl ⟨by decide, by decide⟩, by decide⟩), trivial⟩) (okS.all _ trivial) (fun ad S Q Qc hC hc k => V_callV (as := []) (st := []) (M' := MX5_isName) (ci := 5) (pc2 := 4) (dk D_X5_readVariableOrCall 1 rfl) ml_5_90 mv_X5_isName rfl rfl (by decide) rfl (Nat.le_of_ble_eq_true rfl) rfl he2 (hC.k' (fixH 77 5 (by decide) rfl)) hc k) hc3 (kRI.k fun y4 κ5 h mo6 => ?_)
  refine K_if (pa := 7) (pb := 9) (lv2 := [(0, vR 77)]) (st2 := []) (fun ad S Q _ k1 k2 => V_ifne (tgt := 9) (pc2 := 7) (dk D_X5_readVariableOrCall 2 rfl) (by decide) rfl (fun q => k2 q) (fun q => k1 q)) (fun q7 => ?_) (fun q7 => ?_)
  · have h := h.1 q7
    refine K_p (pc2 := 8) (lv2 := [(0, vR 77)]) (st2 := [vI _]) (fun ad S Q _ k => V_iconst (x := 0) (pc2 := 8) (dk D_X5_readVariableOrCall 3 rfl) (by decide) rfl k) ?_
    exact K_ret (r := .inl (some (vI _))) (fun ad S Q _ k => V_zreturn (dk D_X5_readVariableOrCall 4 rfl) rfl (Or.inl rfl) k) h
  · have h := h.2 q7
    refine K_p (pc2 := 10) (lv2 := [(0, vR 77)]) (st2 := [vR 77]) (fun ad S Q _ k => V_aload_n (pc2 := 10) (dk D_X5_readVariableOrCall 5 rfl) rfl (V_lg 0 rfl) rfl k) ?_
    refine K_getF kc5 (h' := 72) (pc2 := 13) 0 (by decide) (dk D_X5_readVariableOrCall 6 rfl) fl_5_9 (by decide) (fun _ _ => rfl) rfl (fixH 77 5 (by decide) rfl) (by decide) ?_
    obtain ⟨e8, he9, hc10⟩ := h
    refine K_call (as := [vR 72]) (st := []) (pc2 := 16) (okL.all _ ⟨(Or.inr ⟨Or.inl ⟨by decide, by decide⟩, by decide⟩), trivial⟩) (okS.all _ trivial) (fun ad S Q Qc hC hc k => V_callV (as := []) (st := []) (M' := MX9_index) (ci := 9) (pc2 := 16) (dk D_X5_readVariableOrCall 7 rfl) ml_5_80 mv_X9_index rfl rfl (by decide) rfl (Nat.le_of_ble_eq_true rfl) rfl he9 (hC.k' (fixH 72 9 (by decide) rfl)) hc k) hc10 (kRI.k fun y11 κ12 h mo13 => ?_)
    refine K_p (pc2 := 17) (lv2 := [(0, vR 77), (1, vI _)]) (st2 := []) (fun ad S Q _ k => V_istore_n (pc2 := 17) (lv2 := [(0, _), (1, _)]) (dk D_X5_readVariableOrCall 8 rfl) rfl (by decide) rfl rfl k) ?_
    refine K_p (pc2 := 18) (lv2 := [(0, vR 77), (1, vI _)]) (st2 := [vR 77]) (fun ad S Q _ k => V_aload_n (pc2 := 18) (dk D_X5_readVariableOrCall 9 rfl) rfl (V_lg 0 rfl) rfl k) ?_
    refine K_getF kc5 (h' := 72) (pc2 := 21) 0 (by decide) (dk D_X5_readVariableOrCall 10 rfl) fl_5_9 (by decide) (fun _ _ => rfl) rfl (fixH 77 5 (by decide) rfl) (by decide) ?_
    obtain ⟨e14, he15, hc16⟩ := h
    refine K_call (as := [vR 72]) (st := []) (pc2 := 24) (okL.all _ ⟨(Or.inr ⟨Or.inl ⟨by decide, by decide⟩, by decide⟩), trivial, trivial⟩) (okS.all _ trivial) (fun ad S Q Qc hC hc k => V_callV (as := []) (st := []) (M' := MX9_next) (ci := 9) (pc2 := 24) (dk D_X5_readVariableOrCall 11 rfl) ml_5_77 mv_X9_next rfl rfl (by decide) rfl (Nat.le_of_ble_eq_true rfl) rfl he15 (hC.k' (fixH 72 9 (by decide) rfl)) hc k) hc16 (kRV.k fun  κ17 h mo18 => ?_)
    refine K_p (pc2 := 25) (lv2 := [(0, vR 77), (1, vI _)]) (st2 := [vR 77]) (fun ad S Q _ k => V_aload_n (pc2 := 25) (dk D_X5_readVariableOrCall 12 rfl) rfl (V_lg 0 rfl) rfl k) ?_
    refine K_getF kc5 (h' := 72) (pc2 := 28) 0 (by decide) (dk D_X5_readVariableOrCall 13 rfl) fl_5_9 (by decide) (fun _ _ => rfl) rfl (fixH 77 5 (by decide) rfl) (by decide) ?_
    refine K_getI kc9 (pc2 := 31) 7 (dk D_X5_readVariableOrCall 14 rfl) fl_5_41 (by decide) (fun _ _ => rfl) rfl (fixH 72 9 (by decide) rfl) ?_
    refine K_p (pc2 := 33) (lv2 := [(0, vR 77), (1, vI _)]) (st2 := [vI _, vI _]) (fun ad S Q _ k => V_bipush (x := 40) (pc2 := 33) (dk D_X5_readVariableOrCall 15 rfl) (by decide) rfl k) ?_
    refine K_if (pa := 50) (pb := 36) (lv2 := [(0, vR 77), (1, vI _)]) (st2 := []) (fun ad S Q _ k1 k2 => V_cmpeq (tgt := 50) (pc2 := 36) (dk D_X5_readVariableOrCall 16 rfl) (by decide) rfl (fun q => k1 q) (fun q => k2 q)) (fun q19 => ?_) (fun q19 => ?_)
    · have h := h.1 q19
      refine K_p (pc2 := 51) (lv2 := [(0, vR 77), (1, vI _)]) (st2 := [vR 77]) (fun ad S Q _ k => V_aload_n (pc2 := 51) (dk D_X5_readVariableOrCall 27 rfl) rfl (V_lg 0 rfl) rfl k) ?_
      refine K_p (pc2 := 53) (lv2 := [(0, vR 77), (1, vI _)]) (st2 := [vI _, vR 77]) (fun ad S Q _ k => V_bipush (x := 40) (pc2 := 53) (dk D_X5_readVariableOrCall 28 rfl) (by decide) rfl k) ?_
      obtain ⟨e20, he21, hc22⟩ := h
      refine K_call (as := [vR 77, vI _]) (st := []) (pc2 := 56) (okL.all _ ⟨(Or.inr ⟨Or.inl ⟨by decide, by decide⟩, by decide⟩), trivial, trivial⟩) (okS.all _ trivial) (fun ad S Q Qc hC hc k => V_callV (as := [_]) (st := []) (M' := MX5_takeOpening) (ci := 5) (pc2 := 56) (dk D_X5_readVariableOrCall 29 rfl) ml_5_105 mv_X5_takeOpening rfl rfl (by decide) rfl (Nat.le_of_ble_eq_true rfl) rfl he21 (hC.k' (fixH 77 5 (by decide) rfl)) hc k) hc22 (kRI.k fun y23 κ24 h mo25 => ?_)
      refine K_if (pa := 74) (pb := 59) (lv2 := [(0, vR 77), (1, vI _)]) (st2 := []) (fun ad S Q _ k1 k2 => V_ifeq (tgt := 74) (pc2 := 59) (dk D_X5_readVariableOrCall 30 rfl) (by decide) rfl (fun q => k1 q) (fun q => k2 q)) (fun q26 => ?_) (fun q26 => ?_)
      · have h := h.1 q26
        exact h
      · have h := h.2 q26
        refine K_p (pc2 := 60) (lv2 := [(0, vR 77), (1, vI _)]) (st2 := [vR 77]) (fun ad S Q _ k => V_aload_n (pc2 := 60) (dk D_X5_readVariableOrCall 31 rfl) rfl (V_lg 0 rfl) rfl k) ?_
        refine K_p (pc2 := 61) (lv2 := [(0, vR 77), (1, vI _)]) (st2 := [vI _, vR 77]) (fun ad S Q _ k => V_iload_n (pc2 := 61) (dk D_X5_readVariableOrCall 32 rfl) rfl (V_lg 1 rfl) rfl k) ?_
        refine K_p (pc2 := 63) (lv2 := [(0, vR 77), (1, vI _)]) (st2 := [vI _, vI _, vR 77]) (fun ad S Q _ k => V_bipush (x := 24) (pc2 := 63) (dk D_X5_readVariableOrCall 33 rfl) (by decide) rfl k) ?_
        refine K_p (pc2 := 64) (lv2 := [(0, vR 77), (1, vI _)]) (st2 := [vI _, vI _, vI _, vR 77]) (fun ad S Q _ k => V_iconst (x := 4) (pc2 := 64) (dk D_X5_readVariableOrCall 34 rfl) (by decide) rfl k) ?_
        obtain ⟨e27, he28, hc29⟩ := h
        refine K_call (as := [vR 77, vI _, vI _, vI _]) (st := []) (pc2 := 67) (okL.all _ ⟨(Or.inr ⟨Or.inl ⟨by decide, by decide⟩, by decide⟩), trivial, trivial⟩) (okS.all _ trivial) (fun ad S Q Qc hC hc k => V_callV (as := [_, _, _]) (st := []) (M' := MX5_readValues) (ci := 5) (pc2 := 67) (dk D_X5_readVariableOrCall 35 rfl) ml_5_218 mv_X5_readValues rfl rfl (by decide) rfl (Nat.le_of_ble_eq_true rfl) rfl he28 (hC.k' (fixH 77 5 (by decide) rfl)) hc k) hc29 (kRI.k fun y30 κ31 h mo32 => ?_)
        refine K_if (pa := 74) (pb := 70) (lv2 := [(0, vR 77), (1, vI _)]) (st2 := []) (fun ad S Q _ k1 k2 => V_ifeq (tgt := 74) (pc2 := 70) (dk D_X5_readVariableOrCall 36 rfl) (by decide) rfl (fun q => k1 q) (fun q => k2 q)) (fun q33 => ?_) (fun q33 => ?_)
        · have h := h.1 q33
          exact h
        · have h := h.2 q33
          refine K_p (pc2 := 71) (lv2 := [(0, vR 77), (1, vI _)]) (st2 := [vI _]) (fun ad S Q _ k => V_iconst (x := 1) (pc2 := 71) (dk D_X5_readVariableOrCall 37 rfl) (by decide) rfl k) ?_
          refine K_p (pc2 := 75) (lv2 := [(0, vR 77), (1, vI _)]) (st2 := [vI _]) (fun ad S Q _ k => V_goto (tgt := 75) (dk D_X5_readVariableOrCall 38 rfl) (by decide) k) ?_
          exact h
    · have h := h.2 q19
      refine K_p (pc2 := 37) (lv2 := [(0, vR 77), (1, vI _)]) (st2 := [vR 77]) (fun ad S Q _ k => V_aload_n (pc2 := 37) (dk D_X5_readVariableOrCall 17 rfl) rfl (V_lg 0 rfl) rfl k) ?_
      refine K_getF kc5 (h' := 68) (pc2 := 40) 2 (by decide) (dk D_X5_readVariableOrCall 18 rfl) fl_5_25 (by decide) (fun _ _ => rfl) rfl (fixH 77 5 (by decide) rfl) (by decide) ?_
      refine K_p (pc2 := 41) (lv2 := [(0, vR 77), (1, vI _)]) (st2 := [vI _, vR 68]) (fun ad S Q _ k => V_iconst (x := 2) (pc2 := 41) (dk D_X5_readVariableOrCall 19 rfl) (by decide) rfl k) ?_
      refine K_p (pc2 := 42) (lv2 := [(0, vR 77), (1, vI _)]) (st2 := [vI _, vI _, vR 68]) (fun ad S Q _ k => V_iconst (x := (-1)) (pc2 := 42) (dk D_X5_readVariableOrCall 20 rfl) (by decide) rfl k) ?_
      refine K_p (pc2 := 43) (lv2 := [(0, vR 77), (1, vI _)]) (st2 := [vI _, vI _, vI _, vR 68]) (fun ad S Q _ k => V_iload_n (pc2 := 43) (dk D_X5_readVariableOrCall 21 rfl) rfl (V_lg 1 rfl) rfl k) ?_
      refine K_p (pc2 := 44) (lv2 := [(0, vR 77), (1, vI _)]) (st2 := [vI _, vI _, vR 68]) (fun ad S Q _ k => V_isub (pc2 := 44) (dk D_X5_readVariableOrCall 22 rfl) rfl k) ?_
      obtain ⟨e34, he35, hc36⟩ := h
      refine K_call (as := [vR 68, vI _, vI _]) (st := []) (pc2 := 47) (okL.all _ ⟨(Or.inr ⟨Or.inl ⟨by decide, by decide⟩, by decide⟩), trivial, trivial⟩) (okS.all _ trivial) (fun ad S Q Qc hC hc k => V_callV (as := [_, _]) (st := []) (M' := MX1_add) (ci := 1) (pc2 := 47) (dk D_X5_readVariableOrCall 23 rfl) ml_5_57 mv_X1_add rfl rfl (by decide) rfl (Nat.le_of_ble_eq_true rfl) rfl he35 (hC.k' (fixH 68 1 (by decide) rfl)) hc k) hc36 (kRI.k fun y37 κ38 h mo39 => ?_)
      refine K_p (pc2 := 48) (lv2 := [(0, vR 77), (1, vI _)]) (st2 := []) (fun ad S Q _ k => V_pop (pc2 := 48) (dk D_X5_readVariableOrCall 24 rfl) rfl rfl k) ?_
      refine K_p (pc2 := 49) (lv2 := [(0, vR 77), (1, vI _)]) (st2 := [vI _]) (fun ad S Q _ k => V_iconst (x := 1) (pc2 := 49) (dk D_X5_readVariableOrCall 25 rfl) (by decide) rfl k) ?_
      exact K_ret (r := .inl (some (vI _))) (fun ad S Q _ k => V_zreturn (dk D_X5_readVariableOrCall 26 rfl) rfl (Or.inr rfl) k) h
theorem k_5_readVariableOrCall_74 {X : Cx} {d : Nat} {κ : Km} {Q : Res → Km → Prop} (x1 : Int32) (h : K X d MX5_readVariableOrCall 75 [(0, vR 77), (1, vI x1)] [vI 0] κ Q) : K X d MX5_readVariableOrCall 74 [(0, vR 77), (1, vI x1)] [] κ Q := by
  refine K_p (pc2 := 75) (lv2 := [(0, vR 77), (1, vI _)]) (st2 := [vI _]) (fun ad S Q _ k => V_iconst (x := 0) (pc2 := 75) (dk D_X5_readVariableOrCall 39 rfl) (by decide) rfl k) ?_
  exact h
theorem k_5_readVariableOrCall_75 {X : Cx} {d : Nat} {κ : Km} {Q : Res → Km → Prop} (x1 : Int32) (t0 : Int32) (h : (t0 = 0 ∨ t0 = 1) ∧ Q (.inl (some (vI t0))) κ) : K X d MX5_readVariableOrCall 75 [(0, vR 77), (1, vI x1)] [vI t0] κ Q := by
  obtain ⟨h1, h⟩ := h
  exact K_ret (r := .inl (some (vI _))) (fun ad S Q _ k => V_zreturn (dk D_X5_readVariableOrCall 40 rfl) rfl h1 k) h
theorem k_5_readNew_0 {X : Cx} {d : Nat} {κ : Km} {Q : Res → Km → Prop}  (h : ∃ e1 : Nat, e1 + 1 ≤ d ∧ KC' X e1 MX9_next [vR 72] κ (kRV fun  κ4 => ∃ e6 : Nat, e6 + 1 ≤ d ∧ KC' X e6 MX5_isName [vR 77] κ4 (kRI fun y9 κ10 => ((y9 = 0 → Q (.inl (some (vI 0))) κ10) ∧ (¬ y9 = 0 → ∃ e13 : Nat, e13 + 1 ≤ d ∧ KC' X e13 MX9_index [vR 72] κ10 (kRI fun y16 κ17 => ∃ e19 : Nat, e19 + 1 ≤ d ∧ KC' X e19 MX9_next [vR 72] κ17 (kRV fun  κ22 => ∃ e24 : Nat, e24 + 1 ≤ d ∧ KC' X e24 MX5_takeOpening [vR 77, vI 40] κ22 (kRI fun y27 κ28 => ((y27 = 0 → K X d MX5_readNew 55 [(0, vR 77), (1, vI y16)] [] κ28 Q) ∧ (¬ y27 = 0 → ∃ e31 : Nat, e31 + 1 ≤ d ∧ KC' X e31 MX5_readValues [vR 77, vI y16, vI 23, vI 1] κ28 (kRI fun y34 κ35 => ((y34 = 0 → K X d MX5_readNew 55 [(0, vR 77), (1, vI y16)] [] κ35 Q) ∧ (¬ y34 = 0 → K X d MX5_readNew 56 [(0, vR 77), (1, vI y16)] [vI 1] κ35 Q))))))))))))) : K X d MX5_readNew 0 [(0, vR 77)] [] κ Q := by
  refine K_p (pc2 := 1) (lv2 := [(0, vR 77)]) (st2 := [vR 77]) (fun ad S Q _ k => V_aload_n (pc2 := 1) (dk D_X5_readNew 0 rfl) rfl (V_lg 0 rfl) rfl k) ?_
  refine K_getF kc5 (h' := 72) (pc2 := 4) 0 (by decide) (dk D_X5_readNew 1 rfl) fl_5_9 (by decide) (fun _ _ => rfl) rfl (fixH 77 5 (by decide) rfl) (by decide) ?_
  obtain ⟨e1, he2, hc3⟩ := h
  refine K_call (as := [vR 72]) (st := []) (pc2 := 7) (okL.all _ ⟨(Or.inr ⟨Or.inl ⟨by decide, by decide⟩, by decide⟩), trivial⟩) (okS.all _ trivial) (fun ad S Q Qc hC hc k => V_callV (as := []) (st := []) (M' := MX9_next) (ci := 9) (pc2 := 7) (dk D_X5_readNew 2 rfl) ml_5_77 mv_X9_next rfl rfl (by decide) rfl (Nat.le_of_ble_eq_true rfl) rfl he2 (hC.k' (fixH 72 9 (by decide) rfl)) hc k) hc3 (kRV.k fun  κ4 h mo5 => ?_)
  refine K_p (pc2 := 8) (lv2 := [(0, vR 77)]) (st2 := [vR 77]) (fun ad S Q _ k => V_aload_n (pc2 := 8) (dk D_X5_readNew 3 rfl) rfl (V_lg 0 rfl) rfl k) ?_
  obtain ⟨e6, he7, hc8⟩ := h
  refine K_call (as := [vR 77]) (st := []) (pc2 := 11) (okL.all _ ⟨(Or.inr ⟨Or.inl ⟨by decide, by decide⟩, by decide⟩), trivial⟩) (okS.all _ trivial) (fun ad S Q Qc hC hc k => V_callV (as := []) (st := []) (M' := MX5_isName) (ci := 5) (pc2 := 11) (dk D_X5_readNew 4 rfl) ml_5_90 mv_X5_isName rfl rfl (by decide) rfl (Nat.le_of_ble_eq_true rfl) rfl he7 (hC.k' (fixH 77 5 (by decide) rfl)) hc k) hc8 (kRI.k fun y9 κ10 h mo11 => ?_)
  refine K_if (pa := 14) (pb := 16) (lv2 := [(0, vR 77)]) (st2 := []) (fun ad S Q _ k1 k2 => V_ifne (tgt := 16) (pc2 := 14) (dk D_X5_readNew 5 rfl) (by decide) rfl (fun q => k2 q) (fun q => k1 q)) (fun q12 => ?_) (fun q12 => ?_)
  · have h := h.1 q12
    refine K_p (pc2 := 15) (lv2 := [(0, vR 77)]) (st2 := [vI _]) (fun ad S Q _ k => V_iconst (x := 0) (pc2 := 15) (dk D_X5_readNew 6 rfl) (by decide) rfl k) ?_
    exact K_ret (r := .inl (some (vI _))) (fun ad S Q _ k => V_zreturn (dk D_X5_readNew 7 rfl) rfl (Or.inl rfl) k) h
  · have h := h.2 q12
    refine K_p (pc2 := 17) (lv2 := [(0, vR 77)]) (st2 := [vR 77]) (fun ad S Q _ k => V_aload_n (pc2 := 17) (dk D_X5_readNew 8 rfl) rfl (V_lg 0 rfl) rfl k) ?_
    refine K_getF kc5 (h' := 72) (pc2 := 20) 0 (by decide) (dk D_X5_readNew 9 rfl) fl_5_9 (by decide) (fun _ _ => rfl) rfl (fixH 77 5 (by decide) rfl) (by decide) ?_
    obtain ⟨e13, he14, hc15⟩ := h
    refine K_call (as := [vR 72]) (st := []) (pc2 := 23) (okL.all _ ⟨(Or.inr ⟨Or.inl ⟨by decide, by decide⟩, by decide⟩), trivial⟩) (okS.all _ trivial) (fun ad S Q Qc hC hc k => V_callV (as := []) (st := []) (M' := MX9_index) (ci := 9) (pc2 := 23) (dk D_X5_readNew 10 rfl) ml_5_80 mv_X9_index rfl rfl (by decide) rfl (Nat.le_of_ble_eq_true rfl) rfl he14 (hC.k' (fixH 72 9 (by decide) rfl)) hc k) hc15 (kRI.k fun y16 κ17 h mo18 => ?_)
    refine K_p (pc2 := 24) (lv2 := [(0, vR 77), (1, vI _)]) (st2 := []) (fun ad S Q _ k => V_istore_n (pc2 := 24) (lv2 := [(0, _), (1, _)]) (dk D_X5_readNew 11 rfl) rfl (by decide) rfl rfl k) ?_
    refine K_p (pc2 := 25) (lv2 := [(0, vR 77), (1, vI _)]) (st2 := [vR 77]) (fun ad S Q _ k => V_aload_n (pc2 := 25) (dk D_X5_readNew 12 rfl) rfl (V_lg 0 rfl) rfl k) ?_
    refine K_getF kc5 (h' := 72) (pc2 := 28) 0 (by decide) (dk D_X5_readNew 13 rfl) fl_5_9 (by decide) (fun _ _ => rfl) rfl (fixH 77 5 (by decide) rfl) (by decide) ?_
    obtain ⟨e19, he20, hc21⟩ := h
    refine K_call (as := [vR 72]) (st := []) (pc2 := 31) (okL.all _ ⟨(Or.inr ⟨Or.inl ⟨by decide, by decide⟩, by decide⟩), trivial, trivial⟩) (okS.all _ trivial) (fun ad S Q Qc hC hc k => V_callV (as := []) (st := []) (M' := MX9_next) (ci := 9) (pc2 := 31) (dk D_X5_readNew 14 rfl) ml_5_77 mv_X9_next rfl rfl (by decide) rfl (Nat.le_of_ble_eq_true rfl) rfl he20 (hC.k' (fixH 72 9 (by decide) rfl)) hc k) hc21 (kRV.k fun  κ22 h mo23 => ?_)
    refine K_p (pc2 := 32) (lv2 := [(0, vR 77), (1, vI _)]) (st2 := [vR 77]) (fun ad S Q _ k => V_aload_n (pc2 := 32) (dk D_X5_readNew 15 rfl) rfl (V_lg 0 rfl) rfl k) ?_
    refine K_p (pc2 := 34) (lv2 := [(0, vR 77), (1, vI _)]) (st2 := [vI _, vR 77]) (fun ad S Q _ k => V_bipush (x := 40) (pc2 := 34) (dk D_X5_readNew 16 rfl) (by decide) rfl k) ?_
    obtain ⟨e24, he25, hc26⟩ := h
    refine K_call (as := [vR 77, vI _]) (st := []) (pc2 := 37) (okL.all _ ⟨(Or.inr ⟨Or.inl ⟨by decide, by decide⟩, by decide⟩), trivial, trivial⟩) (okS.all _ trivial) (fun ad S Q Qc hC hc k => V_callV (as := [_]) (st := []) (M' := MX5_takeOpening) (ci := 5) (pc2 := 37) (dk D_X5_readNew 17 rfl) ml_5_105 mv_X5_takeOpening rfl rfl (by decide) rfl (Nat.le_of_ble_eq_true rfl) rfl he25 (hC.k' (fixH 77 5 (by decide) rfl)) hc k) hc26 (kRI.k fun y27 κ28 h mo29 => ?_)
    refine K_if (pa := 55) (pb := 40) (lv2 := [(0, vR 77), (1, vI _)]) (st2 := []) (fun ad S Q _ k1 k2 => V_ifeq (tgt := 55) (pc2 := 40) (dk D_X5_readNew 18 rfl) (by decide) rfl (fun q => k1 q) (fun q => k2 q)) (fun q30 => ?_) (fun q30 => ?_)
    · have h := h.1 q30
      exact h
    · have h := h.2 q30
      refine K_p (pc2 := 41) (lv2 := [(0, vR 77), (1, vI _)]) (st2 := [vR 77]) (fun ad S Q _ k => V_aload_n (pc2 := 41) (dk D_X5_readNew 19 rfl) rfl (V_lg 0 rfl) rfl k) ?_
      refine K_p (pc2 := 42) (lv2 := [(0, vR 77), (1, vI _)]) (st2 := [vI _, vR 77]) (fun ad S Q _ k => V_iload_n (pc2 := 42) (dk D_X5_readNew 20 rfl) rfl (V_lg 1 rfl) rfl k) ?_
      refine K_p (pc2 := 44) (lv2 := [(0, vR 77), (1, vI _)]) (st2 := [vI _, vI _, vR 77]) (fun ad S Q _ k => V_bipush (x := 23) (pc2 := 44) (dk D_X5_readNew 21 rfl) (by decide) rfl k) ?_
      refine K_p (pc2 := 45) (lv2 := [(0, vR 77), (1, vI _)]) (st2 := [vI _, vI _, vI _, vR 77]) (fun ad S Q _ k => V_iconst (x := 1) (pc2 := 45) (dk D_X5_readNew 22 rfl) (by decide) rfl k) ?_
      obtain ⟨e31, he32, hc33⟩ := h
      refine K_call (as := [vR 77, vI _, vI _, vI _]) (st := []) (pc2 := 48) (okL.all _ ⟨(Or.inr ⟨Or.inl ⟨by decide, by decide⟩, by decide⟩), trivial, trivial⟩) (okS.all _ trivial) (fun ad S Q Qc hC hc k => V_callV (as := [_, _, _]) (st := []) (M' := MX5_readValues) (ci := 5) (pc2 := 48) (dk D_X5_readNew 23 rfl) ml_5_218 mv_X5_readValues rfl rfl (by decide) rfl (Nat.le_of_ble_eq_true rfl) rfl he32 (hC.k' (fixH 77 5 (by decide) rfl)) hc k) hc33 (kRI.k fun y34 κ35 h mo36 => ?_)
      refine K_if (pa := 55) (pb := 51) (lv2 := [(0, vR 77), (1, vI _)]) (st2 := []) (fun ad S Q _ k1 k2 => V_ifeq (tgt := 55) (pc2 := 51) (dk D_X5_readNew 24 rfl) (by decide) rfl (fun q => k1 q) (fun q => k2 q)) (fun q37 => ?_) (fun q37 => ?_)
      · have h := h.1 q37
        exact h
      · have h := h.2 q37
        refine K_p (pc2 := 52) (lv2 := [(0, vR 77), (1, vI _)]) (st2 := [vI _]) (fun ad S Q _ k => V_iconst (x := 1) (pc2 := 52) (dk D_X5_readNew 25 rfl) (by decide) rfl k) ?_
        refine K_p (pc2 := 56) (lv2 := [(0, vR 77), (1, vI _)]) (st2 := [vI _]) (fun ad S Q _ k => V_goto (tgt := 56) (dk D_X5_readNew 26 rfl) (by decide) k) ?_
        exact h
theorem k_5_readNew_55 {X : Cx} {d : Nat} {κ : Km} {Q : Res → Km → Prop} (x1 : Int32) (h : K X d MX5_readNew 56 [(0, vR 77), (1, vI x1)] [vI 0] κ Q) : K X d MX5_readNew 55 [(0, vR 77), (1, vI x1)] [] κ Q := by
  refine K_p (pc2 := 56) (lv2 := [(0, vR 77), (1, vI _)]) (st2 := [vI _]) (fun ad S Q _ k => V_iconst (x := 0) (pc2 := 56) (dk D_X5_readNew 27 rfl) (by decide) rfl k) ?_
  exact h
theorem k_5_readNew_56 {X : Cx} {d : Nat} {κ : Km} {Q : Res → Km → Prop} (x1 : Int32) (t0 : Int32) (h : (t0 = 0 ∨ t0 = 1) ∧ Q (.inl (some (vI t0))) κ) : K X d MX5_readNew 56 [(0, vR 77), (1, vI x1)] [vI t0] κ Q := by
  obtain ⟨h1, h⟩ := h
  exact K_ret (r := .inl (some (vI _))) (fun ad S Q _ k => V_zreturn (dk D_X5_readNew 28 rfl) rfl h1 k) h
theorem k_5_readValues_0 {X : Cx} {d : Nat} {κ : Km} {Q : Res → Km → Prop} (x1 : Int32) (x2 : Int32) (x3 : Int32) (h : (((kI κ 72 7) = 41 → K X d MX5_readValues 20 [(0, vR 77), (1, vI x1), (2, vI x2), (3, vI x3), (4, vI 0)] [vI 0] κ Q) ∧ (¬ (kI κ 72 7) = 41 → K X d MX5_readValues 20 [(0, vR 77), (1, vI x1), (2, vI x2), (3, vI x3), (4, vI 0)] [vI 1] κ Q))) : K X d MX5_readValues 0 [(0, vR 77), (1, vI x1), (2, vI x2), (3, vI x3)] [] κ Q := by
  refine K_p (pc2 := 1) (lv2 := [(0, vR 77), (1, vI _), (2, vI _), (3, vI _)]) (st2 := [vI _]) (fun ad S Q _ k => V_iconst (x := 0) (pc2 := 1) (dk D_X5_readValues 0 rfl) (by decide) rfl k) ?_
  refine K_p (pc2 := 3) (lv2 := [(0, vR 77), (1, vI _), (2, vI _), (3, vI _), (4, vI _)]) (st2 := []) (fun ad S Q _ k => V_istore (pc2 := 3) (lv2 := [(0, _), (1, _), (2, _), (3, _), (4, _)]) (dk D_X5_readValues 1 rfl) (by decide) rfl rfl k) ?_
  refine K_p (pc2 := 4) (lv2 := [(0, vR 77), (1, vI _), (2, vI _), (3, vI _), (4, vI _)]) (st2 := [vR 77]) (fun ad S Q _ k => V_aload_n (pc2 := 4) (dk D_X5_readValues 2 rfl) rfl (V_lg 0 rfl) rfl k) ?_
  refine K_getF kc5 (h' := 72) (pc2 := 7) 0 (by decide) (dk D_X5_readValues 3 rfl) fl_5_9 (by decide) (fun _ _ => rfl) rfl (fixH 77 5 (by decide) rfl) (by decide) ?_
  refine K_getI kc9 (pc2 := 10) 7 (dk D_X5_readValues 4 rfl) fl_5_41 (by decide) (fun _ _ => rfl) rfl (fixH 72 9 (by decide) rfl) ?_
  refine K_p (pc2 := 12) (lv2 := [(0, vR 77), (1, vI _), (2, vI _), (3, vI _), (4, vI _)]) (st2 := [vI _, vI _]) (fun ad S Q _ k => V_bipush (x := 41) (pc2 := 12) (dk D_X5_readValues 5 rfl) (by decide) rfl k) ?_
  refine K_if (pa := 19) (pb := 15) (lv2 := [(0, vR 77), (1, vI _), (2, vI _), (3, vI _), (4, vI _)]) (st2 := []) (fun ad S Q _ k1 k2 => V_cmpeq (tgt := 19) (pc2 := 15) (dk D_X5_readValues 6 rfl) (by decide) rfl (fun q => k1 q) (fun q => k2 q)) (fun q1 => ?_) (fun q1 => ?_)
  · have h := h.1 q1
    refine K_p (pc2 := 20) (lv2 := [(0, vR 77), (1, vI _), (2, vI _), (3, vI _), (4, vI _)]) (st2 := [vI _]) (fun ad S Q _ k => V_iconst (x := 0) (pc2 := 20) (dk D_X5_readValues 9 rfl) (by decide) rfl k) ?_
    exact h
  · have h := h.2 q1
    refine K_p (pc2 := 16) (lv2 := [(0, vR 77), (1, vI _), (2, vI _), (3, vI _), (4, vI _)]) (st2 := [vI _]) (fun ad S Q _ k => V_iconst (x := 1) (pc2 := 16) (dk D_X5_readValues 7 rfl) (by decide) rfl k) ?_
    refine K_p (pc2 := 20) (lv2 := [(0, vR 77), (1, vI _), (2, vI _), (3, vI _), (4, vI _)]) (st2 := [vI _]) (fun ad S Q _ k => V_goto (tgt := 20) (dk D_X5_readValues 8 rfl) (by decide) k) ?_
    exact h
theorem k_5_readValues_20 {X : Cx} {d : Nat} {κ : Km} {Q : Res → Km → Prop} (x1 : Int32) (x2 : Int32) (x3 : Int32) (x4 : Int32) (t0 : Int32) (h : K X d MX5_readValues 25 [(0, vR 77), (1, vI x1), (2, vI x2), (3, vI x3), (4, vI x4), (5, vI t0), (6, vI 0)] [] κ Q) : K X d MX5_readValues 20 [(0, vR 77), (1, vI x1), (2, vI x2), (3, vI x3), (4, vI x4)] [vI t0] κ Q := by
  refine K_p (pc2 := 22) (lv2 := [(0, vR 77), (1, vI _), (2, vI _), (3, vI _), (4, vI _), (5, vI _)]) (st2 := []) (fun ad S Q _ k => V_istore (pc2 := 22) (lv2 := [(0, _), (1, _), (2, _), (3, _), (4, _), (5, _)]) (dk D_X5_readValues 10 rfl) (by decide) rfl rfl k) ?_
  refine K_p (pc2 := 23) (lv2 := [(0, vR 77), (1, vI _), (2, vI _), (3, vI _), (4, vI _), (5, vI _)]) (st2 := [vI _]) (fun ad S Q _ k => V_iconst (x := 0) (pc2 := 23) (dk D_X5_readValues 11 rfl) (by decide) rfl k) ?_
  refine K_p (pc2 := 25) (lv2 := [(0, vR 77), (1, vI _), (2, vI _), (3, vI _), (4, vI _), (5, vI _), (6, vI _)]) (st2 := []) (fun ad S Q _ k => V_istore (pc2 := 25) (lv2 := [(0, _), (1, _), (2, _), (3, _), (4, _), (5, _), (6, _)]) (dk D_X5_readValues 12 rfl) (by decide) rfl rfl k) ?_
  exact h
theorem k_5_readValues_25 {X : Cx} {d : Nat} {κ : Km} {Q : Res → Km → Prop} (x1 : Int32) (x2 : Int32) (x3 : Int32) (x4 : Int32) (x5 : Int32) (x6 : Int32) (h : ((4 ≤ x6 → K X d MX5_readValues 90 [(0, vR 77), (1, vI x1), (2, vI x2), (3, vI x3), (4, vI x4), (5, vI x5), (6, vI x6)] [] κ Q) ∧ (¬ 4 ≤ x6 → ((x5 = 0 → K X d MX5_readValues 90 [(0, vR 77), (1, vI x1), (2, vI x2), (3, vI x3), (4, vI x4), (5, vI x5), (6, vI x6)] [] κ Q) ∧ (¬ x5 = 0 → ∃ e3 : Nat, e3 + 1 ≤ d ∧ KC' X e3 MX5_readComparison [vR 77] κ (kRI fun y6 κ7 => ((y6 = 0 → Q (.inl (some (vI 0))) κ7) ∧ (¬ y6 = 0 → ((x3 ≤ 1 → K X d MX5_readValues 69 [(0, vR 77), (1, vI x1), (2, vI x2), (3, vI x3), (4, vI (x4 + 1)), (5, vI x5), (6, vI x6)] [] κ7 Q) ∧ (¬ x3 ≤ 1 → (((kI κ7 72 7) = 44 → K X d MX5_readValues 70 [(0, vR 77), (1, vI x1), (2, vI x2), (3, vI x3), (4, vI (x4 + 1)), (5, vI x5), (6, vI x6)] [vI 1] κ7 Q) ∧ (¬ (kI κ7 72 7) = 44 → K X d MX5_readValues 69 [(0, vR 77), (1, vI x1), (2, vI x2), (3, vI x3), (4, vI (x4 + 1)), (5, vI x5), (6, vI x6)] [] κ7 Q)))))))))))) : K X d MX5_readValues 25 [(0, vR 77), (1, vI x1), (2, vI x2), (3, vI x3), (4, vI x4), (5, vI x5), (6, vI x6)] [] κ Q := by
  refine K_p (pc2 := 27) (lv2 := [(0, vR 77), (1, vI _), (2, vI _), (3, vI _), (4, vI _), (5, vI _), (6, vI _)]) (st2 := [vI _]) (fun ad S Q _ k => V_iload (pc2 := 27) (dk D_X5_readValues 13 rfl) (V_lg 6 rfl) rfl k) ?_
  refine K_p (pc2 := 28) (lv2 := [(0, vR 77), (1, vI _), (2, vI _), (3, vI _), (4, vI _), (5, vI _), (6, vI _)]) (st2 := [vI _, vI _]) (fun ad S Q _ k => V_iconst (x := 4) (pc2 := 28) (dk D_X5_readValues 14 rfl) (by decide) rfl k) ?_
  refine K_if (pa := 90) (pb := 31) (lv2 := [(0, vR 77), (1, vI _), (2, vI _), (3, vI _), (4, vI _), (5, vI _), (6, vI _)]) (st2 := []) (fun ad S Q _ k1 k2 => V_cmpge (tgt := 90) (pc2 := 31) (dk D_X5_readValues 15 rfl) (by decide) rfl (fun q => k1 q) (fun q => k2 q)) (fun q1 => ?_) (fun q1 => ?_)
  · have h := h.1 q1
    exact h
  · have h := h.2 q1
    refine K_p (pc2 := 33) (lv2 := [(0, vR 77), (1, vI _), (2, vI _), (3, vI _), (4, vI _), (5, vI _), (6, vI _)]) (st2 := [vI _]) (fun ad S Q _ k => V_iload (pc2 := 33) (dk D_X5_readValues 16 rfl) (V_lg 5 rfl) rfl k) ?_
    refine K_if (pa := 90) (pb := 36) (lv2 := [(0, vR 77), (1, vI _), (2, vI _), (3, vI _), (4, vI _), (5, vI _), (6, vI _)]) (st2 := []) (fun ad S Q _ k1 k2 => V_ifeq (tgt := 90) (pc2 := 36) (dk D_X5_readValues 17 rfl) (by decide) rfl (fun q => k1 q) (fun q => k2 q)) (fun q2 => ?_) (fun q2 => ?_)
    · have h := h.1 q2
      exact h
    · have h := h.2 q2
      refine K_p (pc2 := 37) (lv2 := [(0, vR 77), (1, vI _), (2, vI _), (3, vI _), (4, vI _), (5, vI _), (6, vI _)]) (st2 := [vR 77]) (fun ad S Q _ k => V_aload_n (pc2 := 37) (dk D_X5_readValues 18 rfl) rfl (V_lg 0 rfl) rfl k) ?_
      obtain ⟨e3, he4, hc5⟩ := h
      refine K_call (as := [vR 77]) (st := []) (pc2 := 40) (okL.all _ ⟨(Or.inr ⟨Or.inl ⟨by decide, by decide⟩, by decide⟩), trivial, trivial, trivial, trivial, trivial, trivial, trivial⟩) (okS.all _ trivial) (fun ad S Q Qc hC hc k => V_callV (as := []) (st := []) (M' := MX5_readComparison) (ci := 5) (pc2 := 40) (dk D_X5_readValues 19 rfl) ml_5_153 mv_X5_readComparison rfl rfl (by decide) rfl (Nat.le_of_ble_eq_true rfl) rfl he4 (hC.k' (fixH 77 5 (by decide) rfl)) hc k) hc5 (kRI.k fun y6 κ7 h mo8 => ?_)
      refine K_if (pa := 43) (pb := 45) (lv2 := [(0, vR 77), (1, vI _), (2, vI _), (3, vI _), (4, vI _), (5, vI _), (6, vI _)]) (st2 := []) (fun ad S Q _ k1 k2 => V_ifne (tgt := 45) (pc2 := 43) (dk D_X5_readValues 20 rfl) (by decide) rfl (fun q => k2 q) (fun q => k1 q)) (fun q9 => ?_) (fun q9 => ?_)
      · have h := h.1 q9
        refine K_p (pc2 := 44) (lv2 := [(0, vR 77), (1, vI _), (2, vI _), (3, vI _), (4, vI _), (5, vI _), (6, vI _)]) (st2 := [vI _]) (fun ad S Q _ k => V_iconst (x := 0) (pc2 := 44) (dk D_X5_readValues 21 rfl) (by decide) rfl k) ?_
        exact K_ret (r := .inl (some (vI _))) (fun ad S Q _ k => V_zreturn (dk D_X5_readValues 22 rfl) rfl (Or.inl rfl) k) h
      · have h := h.2 q9
        refine K_p (pc2 := 48) (lv2 := [(0, vR 77), (1, vI _), (2, vI _), (3, vI _), (4, vI _), (5, vI _), (6, vI _)]) (st2 := []) (fun ad S Q _ k => V_iinc (y := _ + 1) (pc2 := 48) (lv2 := [(0, _), (1, _), (2, _), (3, _), (4, _), (5, _), (6, _)]) (dk D_X5_readValues 23 rfl) (V_lg 4 rfl) rfl (by decide) rfl rfl k) ?_
        refine K_p (pc2 := 49) (lv2 := [(0, vR 77), (1, vI _), (2, vI _), (3, vI _), (4, vI _), (5, vI _), (6, vI _)]) (st2 := [vI _]) (fun ad S Q _ k => V_iload_n (pc2 := 49) (dk D_X5_readValues 24 rfl) rfl (V_lg 3 rfl) rfl k) ?_
        refine K_p (pc2 := 50) (lv2 := [(0, vR 77), (1, vI _), (2, vI _), (3, vI _), (4, vI _), (5, vI _), (6, vI _)]) (st2 := [vI _, vI _]) (fun ad S Q _ k => V_iconst (x := 1) (pc2 := 50) (dk D_X5_readValues 25 rfl) (by decide) rfl k) ?_
        refine K_if (pa := 69) (pb := 53) (lv2 := [(0, vR 77), (1, vI _), (2, vI _), (3, vI _), (4, vI _), (5, vI _), (6, vI _)]) (st2 := []) (fun ad S Q _ k1 k2 => V_cmple (tgt := 69) (pc2 := 53) (dk D_X5_readValues 26 rfl) (by decide) rfl (fun q => k1 q) (fun q => k2 q)) (fun q10 => ?_) (fun q10 => ?_)
        · have h := h.1 q10
          exact h
        · have h := h.2 q10
          refine K_p (pc2 := 54) (lv2 := [(0, vR 77), (1, vI _), (2, vI _), (3, vI _), (4, vI _), (5, vI _), (6, vI _)]) (st2 := [vR 77]) (fun ad S Q _ k => V_aload_n (pc2 := 54) (dk D_X5_readValues 27 rfl) rfl (V_lg 0 rfl) rfl k) ?_
          refine K_getF kc5 (h' := 72) (pc2 := 57) 0 (by decide) (dk D_X5_readValues 28 rfl) fl_5_9 (by decide) (fun _ _ => rfl) rfl (fixH 77 5 (by decide) rfl) (by decide) ?_
          refine K_getI kc9 (pc2 := 60) 7 (dk D_X5_readValues 29 rfl) fl_5_41 (by decide) (fun _ _ => rfl) rfl (fixH 72 9 (by decide) rfl) ?_
          refine K_p (pc2 := 62) (lv2 := [(0, vR 77), (1, vI _), (2, vI _), (3, vI _), (4, vI _), (5, vI _), (6, vI _)]) (st2 := [vI _, vI _]) (fun ad S Q _ k => V_bipush (x := 44) (pc2 := 62) (dk D_X5_readValues 30 rfl) (by decide) rfl k) ?_
          refine K_if (pa := 65) (pb := 69) (lv2 := [(0, vR 77), (1, vI _), (2, vI _), (3, vI _), (4, vI _), (5, vI _), (6, vI _)]) (st2 := []) (fun ad S Q _ k1 k2 => V_cmpne (tgt := 69) (pc2 := 65) (dk D_X5_readValues 31 rfl) (by decide) rfl (fun q => k2 q) (fun q => k1 q)) (fun q11 => ?_) (fun q11 => ?_)
          · have h := h.1 q11
            refine K_p (pc2 := 66) (lv2 := [(0, vR 77), (1, vI _), (2, vI _), (3, vI _), (4, vI _), (5, vI _), (6, vI _)]) (st2 := [vI _]) (fun ad S Q _ k => V_iconst (x := 1) (pc2 := 66) (dk D_X5_readValues 32 rfl) (by decide) rfl k) ?_
            refine K_p (pc2 := 70) (lv2 := [(0, vR 77), (1, vI _), (2, vI _), (3, vI _), (4, vI _), (5, vI _), (6, vI _)]) (st2 := [vI _]) (fun ad S Q _ k => V_goto (tgt := 70) (dk D_X5_readValues 33 rfl) (by decide) k) ?_
            exact h
          · have h := h.2 q11
            exact h
theorem k_5_readValues_69 {X : Cx} {d : Nat} {κ : Km} {Q : Res → Km → Prop} (x1 : Int32) (x2 : Int32) (x3 : Int32) (x4 : Int32) (x5 : Int32) (x6 : Int32) (h : K X d MX5_readValues 70 [(0, vR 77), (1, vI x1), (2, vI x2), (3, vI x3), (4, vI x4), (5, vI x5), (6, vI x6)] [vI 0] κ Q) : K X d MX5_readValues 69 [(0, vR 77), (1, vI x1), (2, vI x2), (3, vI x3), (4, vI x4), (5, vI x5), (6, vI x6)] [] κ Q := by
  refine K_p (pc2 := 70) (lv2 := [(0, vR 77), (1, vI _), (2, vI _), (3, vI _), (4, vI _), (5, vI _), (6, vI _)]) (st2 := [vI _]) (fun ad S Q _ k => V_iconst (x := 0) (pc2 := 70) (dk D_X5_readValues 34 rfl) (by decide) rfl k) ?_
  exact h
theorem k_5_readValues_70 {X : Cx} {d : Nat} {κ : Km} {Q : Res → Km → Prop} (x1 : Int32) (x2 : Int32) (x3 : Int32) (x4 : Int32) (x5 : Int32) (x6 : Int32) (t0 : Int32) (h : ((t0 = 0 → K X d MX5_readValues 84 [(0, vR 77), (1, vI x1), (2, vI x2), (3, vI x3), (4, vI x4), (5, vI t0), (6, vI x6)] [] κ Q) ∧ (¬ t0 = 0 → ∃ e2 : Nat, e2 + 1 ≤ d ∧ KC' X e2 MX9_next [vR 72] κ (kRV fun  κ5 => K X d MX5_readValues 84 [(0, vR 77), (1, vI x1), (2, vI x2), (3, vI x3), (4, vI x4), (5, vI t0), (6, vI x6)] [] κ5 Q)))) : K X d MX5_readValues 70 [(0, vR 77), (1, vI x1), (2, vI x2), (3, vI x3), (4, vI x4), (5, vI x5), (6, vI x6)] [vI t0] κ Q := by
  refine K_p (pc2 := 72) (lv2 := [(0, vR 77), (1, vI _), (2, vI _), (3, vI _), (4, vI _), (5, vI _), (6, vI _)]) (st2 := []) (fun ad S Q _ k => V_istore (pc2 := 72) (lv2 := [(0, _), (1, _), (2, _), (3, _), (4, _), (5, _), (6, _)]) (dk D_X5_readValues 35 rfl) (by decide) rfl rfl k) ?_
  refine K_p (pc2 := 74) (lv2 := [(0, vR 77), (1, vI _), (2, vI _), (3, vI _), (4, vI _), (5, vI _), (6, vI _)]) (st2 := [vI _]) (fun ad S Q _ k => V_iload (pc2 := 74) (dk D_X5_readValues 36 rfl) (V_lg 5 rfl) rfl k) ?_
  refine K_if (pa := 84) (pb := 77) (lv2 := [(0, vR 77), (1, vI _), (2, vI _), (3, vI _), (4, vI _), (5, vI _), (6, vI _)]) (st2 := []) (fun ad S Q _ k1 k2 => V_ifeq (tgt := 84) (pc2 := 77) (dk D_X5_readValues 37 rfl) (by decide) rfl (fun q => k1 q) (fun q => k2 q)) (fun q1 => ?_) (fun q1 => ?_)
  · have h := h.1 q1
    exact h
  · have h := h.2 q1
    refine K_p (pc2 := 78) (lv2 := [(0, vR 77), (1, vI _), (2, vI _), (3, vI _), (4, vI _), (5, vI _), (6, vI _)]) (st2 := [vR 77]) (fun ad S Q _ k => V_aload_n (pc2 := 78) (dk D_X5_readValues 38 rfl) rfl (V_lg 0 rfl) rfl k) ?_
    refine K_getF kc5 (h' := 72) (pc2 := 81) 0 (by decide) (dk D_X5_readValues 39 rfl) fl_5_9 (by decide) (fun _ _ => rfl) rfl (fixH 77 5 (by decide) rfl) (by decide) ?_
    obtain ⟨e2, he3, hc4⟩ := h
    refine K_call (as := [vR 72]) (st := []) (pc2 := 84) (okL.all _ ⟨(Or.inr ⟨Or.inl ⟨by decide, by decide⟩, by decide⟩), trivial, trivial, trivial, trivial, trivial, trivial, trivial⟩) (okS.all _ trivial) (fun ad S Q Qc hC hc k => V_callV (as := []) (st := []) (M' := MX9_next) (ci := 9) (pc2 := 84) (dk D_X5_readValues 40 rfl) ml_5_77 mv_X9_next rfl rfl (by decide) rfl (Nat.le_of_ble_eq_true rfl) rfl he3 (hC.k' (fixH 72 9 (by decide) rfl)) hc k) hc4 (kRV.k fun  κ5 h mo6 => ?_)
    exact h
theorem k_5_readValues_84 {X : Cx} {d : Nat} {κ : Km} {Q : Res → Km → Prop} (x1 : Int32) (x2 : Int32) (x3 : Int32) (x4 : Int32) (x5 : Int32) (x6 : Int32) (h : K X d MX5_readValues 25 [(0, vR 77), (1, vI x1), (2, vI x2), (3, vI x3), (4, vI x4), (5, vI x5), (6, vI (x6 + 1))] [] κ Q) : K X d MX5_readValues 84 [(0, vR 77), (1, vI x1), (2, vI x2), (3, vI x3), (4, vI x4), (5, vI x5), (6, vI x6)] [] κ Q := by
  refine K_p (pc2 := 87) (lv2 := [(0, vR 77), (1, vI _), (2, vI _), (3, vI _), (4, vI _), (5, vI _), (6, vI _)]) (st2 := []) (fun ad S Q _ k => V_iinc (y := _ + 1) (pc2 := 87) (lv2 := [(0, _), (1, _), (2, _), (3, _), (4, _), (5, _), (6, _)]) (dk D_X5_readValues 41 rfl) (V_lg 6 rfl) rfl (by decide) rfl rfl k) ?_
  refine K_p (pc2 := 25) (lv2 := [(0, vR 77), (1, vI _), (2, vI _), (3, vI _), (4, vI _), (5, vI _), (6, vI _)]) (st2 := []) (fun ad S Q _ k => V_goto (tgt := 25) (dk D_X5_readValues 42 rfl) (by decide) k) ?_
  exact h
theorem k_5_readValues_90 {X : Cx} {d : Nat} {κ : Km} {Q : Res → Km → Prop} (x1 : Int32) (x2 : Int32) (x3 : Int32) (x4 : Int32) (x5 : Int32) (x6 : Int32) (h : ((x5 = 0 → ∃ e2 : Nat, e2 + 1 ≤ d ∧ KC' X e2 MX5_takeClosing [vR 77, vI 41] κ (kRI fun y5 κ6 => ((y5 = 0 → Q (.inl (some (vI 0))) κ6) ∧ (¬ y5 = 0 → ((x2 = 23 → ((x4 = 0 → ∃ e11 : Nat, e11 + 1 ≤ d ∧ KC' X e11 MX1_add [vR 68, vI 1, vI 0] κ6 (kRI fun y14 κ15 => K X d MX5_readValues 139 [(0, vR 77), (1, vI x1), (2, vI x2), (3, vI x3), (4, vI x4), (5, vI x5), (6, vI x6)] [] κ15 Q)) ∧ (¬ x4 = 0 → K X d MX5_readValues 139 [(0, vR 77), (1, vI x1), (2, vI x2), (3, vI x3), (4, vI x4), (5, vI x5), (6, vI x6)] [] κ6 Q))) ∧ (¬ x2 = 23 → K X d MX5_readValues 139 [(0, vR 77), (1, vI x1), (2, vI x2), (3, vI x3), (4, vI x4), (5, vI x5), (6, vI x6)] [] κ6 Q)))))) ∧ (¬ x5 = 0 → ∃ e17 : Nat, e17 + 1 ≤ d ∧ KC' X e17 MX5_refuse [vR 77, vI (kI κ 72 8)] κ (kRI fun y20 κ21 => (y20 = 0 ∨ y20 = 1) ∧ Q (.inl (some (vI y20))) κ21)))) : K X d MX5_readValues 90 [(0, vR 77), (1, vI x1), (2, vI x2), (3, vI x3), (4, vI x4), (5, vI x5), (6, vI x6)] [] κ Q := by
  refine K_p (pc2 := 92) (lv2 := [(0, vR 77), (1, vI _), (2, vI _), (3, vI _), (4, vI _), (5, vI _), (6, vI _)]) (st2 := [vI _]) (fun ad S Q _ k => V_iload (pc2 := 92) (dk D_X5_readValues 43 rfl) (V_lg 5 rfl) rfl k) ?_
  refine K_if (pa := 107) (pb := 95) (lv2 := [(0, vR 77), (1, vI _), (2, vI _), (3, vI _), (4, vI _), (5, vI _), (6, vI _)]) (st2 := []) (fun ad S Q _ k1 k2 => V_ifeq (tgt := 107) (pc2 := 95) (dk D_X5_readValues 44 rfl) (by decide) rfl (fun q => k1 q) (fun q => k2 q)) (fun q1 => ?_) (fun q1 => ?_)
  · have h := h.1 q1
    refine K_p (pc2 := 108) (lv2 := [(0, vR 77), (1, vI _), (2, vI _), (3, vI _), (4, vI _), (5, vI _), (6, vI _)]) (st2 := [vR 77]) (fun ad S Q _ k => V_aload_n (pc2 := 108) (dk D_X5_readValues 51 rfl) rfl (V_lg 0 rfl) rfl k) ?_
    refine K_p (pc2 := 110) (lv2 := [(0, vR 77), (1, vI _), (2, vI _), (3, vI _), (4, vI _), (5, vI _), (6, vI _)]) (st2 := [vI _, vR 77]) (fun ad S Q _ k => V_bipush (x := 41) (pc2 := 110) (dk D_X5_readValues 52 rfl) (by decide) rfl k) ?_
    obtain ⟨e2, he3, hc4⟩ := h
    refine K_call (as := [vR 77, vI _]) (st := []) (pc2 := 113) (okL.all _ ⟨(Or.inr ⟨Or.inl ⟨by decide, by decide⟩, by decide⟩), trivial, trivial, trivial, trivial, trivial, trivial, trivial⟩) (okS.all _ trivial) (fun ad S Q Qc hC hc k => V_callV (as := [_]) (st := []) (M' := MX5_takeClosing) (ci := 5) (pc2 := 113) (dk D_X5_readValues 53 rfl) ml_5_112 mv_X5_takeClosing rfl rfl (by decide) rfl (Nat.le_of_ble_eq_true rfl) rfl he3 (hC.k' (fixH 77 5 (by decide) rfl)) hc k) hc4 (kRI.k fun y5 κ6 h mo7 => ?_)
    refine K_if (pa := 116) (pb := 118) (lv2 := [(0, vR 77), (1, vI _), (2, vI _), (3, vI _), (4, vI _), (5, vI _), (6, vI _)]) (st2 := []) (fun ad S Q _ k1 k2 => V_ifne (tgt := 118) (pc2 := 116) (dk D_X5_readValues 54 rfl) (by decide) rfl (fun q => k2 q) (fun q => k1 q)) (fun q8 => ?_) (fun q8 => ?_)
    · have h := h.1 q8
      refine K_p (pc2 := 117) (lv2 := [(0, vR 77), (1, vI _), (2, vI _), (3, vI _), (4, vI _), (5, vI _), (6, vI _)]) (st2 := [vI _]) (fun ad S Q _ k => V_iconst (x := 0) (pc2 := 117) (dk D_X5_readValues 55 rfl) (by decide) rfl k) ?_
      exact K_ret (r := .inl (some (vI _))) (fun ad S Q _ k => V_zreturn (dk D_X5_readValues 56 rfl) rfl (Or.inl rfl) k) h
    · have h := h.2 q8
      refine K_p (pc2 := 119) (lv2 := [(0, vR 77), (1, vI _), (2, vI _), (3, vI _), (4, vI _), (5, vI _), (6, vI _)]) (st2 := [vI _]) (fun ad S Q _ k => V_iload_n (pc2 := 119) (dk D_X5_readValues 57 rfl) rfl (V_lg 2 rfl) rfl k) ?_
      refine K_p (pc2 := 121) (lv2 := [(0, vR 77), (1, vI _), (2, vI _), (3, vI _), (4, vI _), (5, vI _), (6, vI _)]) (st2 := [vI _, vI _]) (fun ad S Q _ k => V_bipush (x := 23) (pc2 := 121) (dk D_X5_readValues 58 rfl) (by decide) rfl k) ?_
      refine K_if (pa := 124) (pb := 139) (lv2 := [(0, vR 77), (1, vI _), (2, vI _), (3, vI _), (4, vI _), (5, vI _), (6, vI _)]) (st2 := []) (fun ad S Q _ k1 k2 => V_cmpne (tgt := 139) (pc2 := 124) (dk D_X5_readValues 59 rfl) (by decide) rfl (fun q => k2 q) (fun q => k1 q)) (fun q9 => ?_) (fun q9 => ?_)
      · have h := h.1 q9
        refine K_p (pc2 := 126) (lv2 := [(0, vR 77), (1, vI _), (2, vI _), (3, vI _), (4, vI _), (5, vI _), (6, vI _)]) (st2 := [vI _]) (fun ad S Q _ k => V_iload (pc2 := 126) (dk D_X5_readValues 60 rfl) (V_lg 4 rfl) rfl k) ?_
        refine K_if (pa := 129) (pb := 139) (lv2 := [(0, vR 77), (1, vI _), (2, vI _), (3, vI _), (4, vI _), (5, vI _), (6, vI _)]) (st2 := []) (fun ad S Q _ k1 k2 => V_ifne (tgt := 139) (pc2 := 129) (dk D_X5_readValues 61 rfl) (by decide) rfl (fun q => k2 q) (fun q => k1 q)) (fun q10 => ?_) (fun q10 => ?_)
        · have h := h.1 q10
          refine K_p (pc2 := 130) (lv2 := [(0, vR 77), (1, vI _), (2, vI _), (3, vI _), (4, vI _), (5, vI _), (6, vI _)]) (st2 := [vR 77]) (fun ad S Q _ k => V_aload_n (pc2 := 130) (dk D_X5_readValues 62 rfl) rfl (V_lg 0 rfl) rfl k) ?_
          refine K_getF kc5 (h' := 68) (pc2 := 133) 2 (by decide) (dk D_X5_readValues 63 rfl) fl_5_25 (by decide) (fun _ _ => rfl) rfl (fixH 77 5 (by decide) rfl) (by decide) ?_
          refine K_p (pc2 := 134) (lv2 := [(0, vR 77), (1, vI _), (2, vI _), (3, vI _), (4, vI _), (5, vI _), (6, vI _)]) (st2 := [vI _, vR 68]) (fun ad S Q _ k => V_iconst (x := 1) (pc2 := 134) (dk D_X5_readValues 64 rfl) (by decide) rfl k) ?_
          refine K_p (pc2 := 135) (lv2 := [(0, vR 77), (1, vI _), (2, vI _), (3, vI _), (4, vI _), (5, vI _), (6, vI _)]) (st2 := [vI _, vI _, vR 68]) (fun ad S Q _ k => V_iconst (x := 0) (pc2 := 135) (dk D_X5_readValues 65 rfl) (by decide) rfl k) ?_
          obtain ⟨e11, he12, hc13⟩ := h
          refine K_call (as := [vR 68, vI _, vI _]) (st := []) (pc2 := 138) (okL.all _ ⟨(Or.inr ⟨Or.inl ⟨by decide, by decide⟩, by decide⟩), trivial, trivial, trivial, trivial, trivial, trivial, trivial⟩) (okS.all _ trivial) (fun ad S Q Qc hC hc k => V_callV (as := [_, _]) (st := []) (M' := MX1_add) (ci := 1) (pc2 := 138) (dk D_X5_readValues 66 rfl) ml_5_57 mv_X1_add rfl rfl (by decide) rfl (Nat.le_of_ble_eq_true rfl) rfl he12 (hC.k' (fixH 68 1 (by decide) rfl)) hc k) hc13 (kRI.k fun y14 κ15 h mo16 => ?_)
          refine K_p (pc2 := 139) (lv2 := [(0, vR 77), (1, vI _), (2, vI _), (3, vI _), (4, vI _), (5, vI _), (6, vI _)]) (st2 := []) (fun ad S Q _ k => V_pop (pc2 := 139) (dk D_X5_readValues 67 rfl) rfl rfl k) ?_
          exact h
        · have h := h.2 q10
          exact h
      · have h := h.2 q9
        exact h
  · have h := h.2 q1
    refine K_p (pc2 := 96) (lv2 := [(0, vR 77), (1, vI _), (2, vI _), (3, vI _), (4, vI _), (5, vI _), (6, vI _)]) (st2 := [vR 77]) (fun ad S Q _ k => V_aload_n (pc2 := 96) (dk D_X5_readValues 45 rfl) rfl (V_lg 0 rfl) rfl k) ?_
    refine K_p (pc2 := 97) (lv2 := [(0, vR 77), (1, vI _), (2, vI _), (3, vI _), (4, vI _), (5, vI _), (6, vI _)]) (st2 := [vR 77, vR 77]) (fun ad S Q _ k => V_aload_n (pc2 := 97) (dk D_X5_readValues 46 rfl) rfl (V_lg 0 rfl) rfl k) ?_
    refine K_getF kc5 (h' := 72) (pc2 := 100) 0 (by decide) (dk D_X5_readValues 47 rfl) fl_5_9 (by decide) (fun _ _ => rfl) rfl (fixH 77 5 (by decide) rfl) (by decide) ?_
    refine K_getI kc9 (pc2 := 103) 8 (dk D_X5_readValues 48 rfl) fl_5_70 (by decide) (fun _ _ => rfl) rfl (fixH 72 9 (by decide) rfl) ?_
    obtain ⟨e17, he18, hc19⟩ := h
    refine K_call (as := [vR 77, vI _]) (st := []) (pc2 := 106) (okL.all _ ⟨(Or.inr ⟨Or.inl ⟨by decide, by decide⟩, by decide⟩), trivial, trivial, trivial, trivial, trivial, trivial, trivial⟩) (okS.all _ trivial) (fun ad S Q Qc hC hc k => V_callV (as := [_]) (st := []) (M' := MX5_refuse) (ci := 5) (pc2 := 106) (dk D_X5_readValues 49 rfl) ml_5_73 mv_X5_refuse rfl rfl (by decide) rfl (Nat.le_of_ble_eq_true rfl) rfl he18 (hC.k' (fixH 77 5 (by decide) rfl)) hc k) hc19 (kRI.k fun y20 κ21 h mo22 => ?_)
    obtain ⟨h23, h⟩ := h
    exact K_ret (r := .inl (some (vI _))) (fun ad S Q _ k => V_zreturn (dk D_X5_readValues 50 rfl) rfl h23 k) h
theorem k_5_readValues_139 {X : Cx} {d : Nat} {κ : Km} {Q : Res → Km → Prop} (x1 : Int32) (x2 : Int32) (x3 : Int32) (x4 : Int32) (x5 : Int32) (x6 : Int32) (h : ∃ e1 : Nat, e1 + 1 ≤ d ∧ KC' X e1 MX1_add [vR 68, vI x2, vI ((8 * x1) + x4)] κ (kRI fun y4 κ5 => Q (.inl (some (vI 1))) κ5)) : K X d MX5_readValues 139 [(0, vR 77), (1, vI x1), (2, vI x2), (3, vI x3), (4, vI x4), (5, vI x5), (6, vI x6)] [] κ Q := by
  refine K_p (pc2 := 140) (lv2 := [(0, vR 77), (1, vI _), (2, vI _), (3, vI _), (4, vI _), (5, vI _), (6, vI _)]) (st2 := [vR 77]) (fun ad S Q _ k => V_aload_n (pc2 := 140) (dk D_X5_readValues 68 rfl) rfl (V_lg 0 rfl) rfl k) ?_
  refine K_getF kc5 (h' := 68) (pc2 := 143) 2 (by decide) (dk D_X5_readValues 69 rfl) fl_5_25 (by decide) (fun _ _ => rfl) rfl (fixH 77 5 (by decide) rfl) (by decide) ?_
  refine K_p (pc2 := 144) (lv2 := [(0, vR 77), (1, vI _), (2, vI _), (3, vI _), (4, vI _), (5, vI _), (6, vI _)]) (st2 := [vI _, vR 68]) (fun ad S Q _ k => V_iload_n (pc2 := 144) (dk D_X5_readValues 70 rfl) rfl (V_lg 2 rfl) rfl k) ?_
  refine K_p (pc2 := 146) (lv2 := [(0, vR 77), (1, vI _), (2, vI _), (3, vI _), (4, vI _), (5, vI _), (6, vI _)]) (st2 := [vI _, vI _, vR 68]) (fun ad S Q _ k => V_bipush (x := 8) (pc2 := 146) (dk D_X5_readValues 71 rfl) (by decide) rfl k) ?_
  refine K_p (pc2 := 147) (lv2 := [(0, vR 77), (1, vI _), (2, vI _), (3, vI _), (4, vI _), (5, vI _), (6, vI _)]) (st2 := [vI _, vI _, vI _, vR 68]) (fun ad S Q _ k => V_iload_n (pc2 := 147) (dk D_X5_readValues 72 rfl) rfl (V_lg 1 rfl) rfl k) ?_
  refine K_p (pc2 := 148) (lv2 := [(0, vR 77), (1, vI _), (2, vI _), (3, vI _), (4, vI _), (5, vI _), (6, vI _)]) (st2 := [vI _, vI _, vR 68]) (fun ad S Q _ k => V_imul (pc2 := 148) (dk D_X5_readValues 73 rfl) rfl k) ?_
  refine K_p (pc2 := 150) (lv2 := [(0, vR 77), (1, vI _), (2, vI _), (3, vI _), (4, vI _), (5, vI _), (6, vI _)]) (st2 := [vI _, vI _, vI _, vR 68]) (fun ad S Q _ k => V_iload (pc2 := 150) (dk D_X5_readValues 74 rfl) (V_lg 4 rfl) rfl k) ?_
  refine K_p (pc2 := 151) (lv2 := [(0, vR 77), (1, vI _), (2, vI _), (3, vI _), (4, vI _), (5, vI _), (6, vI _)]) (st2 := [vI _, vI _, vR 68]) (fun ad S Q _ k => V_iadd (pc2 := 151) (dk D_X5_readValues 75 rfl) rfl k) ?_
  obtain ⟨e1, he2, hc3⟩ := h
  refine K_call (as := [vR 68, vI _, vI _]) (st := []) (pc2 := 154) (okL.all _ ⟨(Or.inr ⟨Or.inl ⟨by decide, by decide⟩, by decide⟩), trivial, trivial, trivial, trivial, trivial, trivial, trivial⟩) (okS.all _ trivial) (fun ad S Q Qc hC hc k => V_callV (as := [_, _]) (st := []) (M' := MX1_add) (ci := 1) (pc2 := 154) (dk D_X5_readValues 76 rfl) ml_5_57 mv_X1_add rfl rfl (by decide) rfl (Nat.le_of_ble_eq_true rfl) rfl he2 (hC.k' (fixH 68 1 (by decide) rfl)) hc k) hc3 (kRI.k fun y4 κ5 h mo6 => ?_)
  refine K_p (pc2 := 155) (lv2 := [(0, vR 77), (1, vI _), (2, vI _), (3, vI _), (4, vI _), (5, vI _), (6, vI _)]) (st2 := []) (fun ad S Q _ k => V_pop (pc2 := 155) (dk D_X5_readValues 77 rfl) rfl rfl k) ?_
  refine K_p (pc2 := 156) (lv2 := [(0, vR 77), (1, vI _), (2, vI _), (3, vI _), (4, vI _), (5, vI _), (6, vI _)]) (st2 := [vI _]) (fun ad S Q _ k => V_iconst (x := 1) (pc2 := 156) (dk D_X5_readValues 78 rfl) (by decide) rfl k) ?_
  exact K_ret (r := .inl (some (vI _))) (fun ad S Q _ k => V_zreturn (dk D_X5_readValues 79 rfl) rfl (Or.inr rfl) k) h
