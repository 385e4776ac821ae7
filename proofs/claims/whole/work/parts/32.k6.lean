theorem k_11_feed_0 {X : Cx} {d : Nat} {κ : Km} {Q : Res → Km → Prop} (l1 : Int64) (x3 : Int32) (h : ((x3 < 1 → K X d MX11_feed 11 [(0, vR 64), (1, vL l1), (3, vI x3)] [] κ Q) ∧ (¬ x3 < 1 → ((x3 ≤ 8 → ∃ e3 : Nat, e3 + 1 ≤ d ∧ KC' X e3 MX8_hasRoom [vR 65, vI x3] κ (kRI fun y6 κ7 => ((y6 = 0 → Q (.inl (some (vI (-3)))) κ7) ∧ (¬ y6 = 0 → K X d MX11_feed 30 [(0, vR 64), (1, vL l1), (3, vI x3), (4, vI 0)] [] κ7 Q)))) ∧ (¬ x3 ≤ 8 → K X d MX11_feed 11 [(0, vR 64), (1, vL l1), (3, vI x3)] [] κ Q))))) : K X d MX11_feed 0 [(0, vR 64), (1, vL l1), (3, vI x3)] [] κ Q := by
  refine K_p (pc2 := 1) (lv2 := [(0, vR 64), (1, vL _), (3, vI _)]) (st2 := [vI _]) (fun ad S Q _ k => V_iload_n (pc2 := 1) (dk D_X11_feed 0 rfl) rfl (V_lg 2 rfl) rfl k) ?_
  refine K_p (pc2 := 2) (lv2 := [(0, vR 64), (1, vL _), (3, vI _)]) (st2 := [vI _, vI _]) (fun ad S Q _ k => V_iconst (x := 1) (pc2 := 2) (dk D_X11_feed 1 rfl) (by decide) rfl k) ?_
  refine K_if (pa := 11) (pb := 5) (lv2 := [(0, vR 64), (1, vL _), (3, vI _)]) (st2 := []) (fun ad S Q _ k1 k2 => V_cmplt (tgt := 11) (pc2 := 5) (dk D_X11_feed 2 rfl) (by decide) rfl (fun q => k1 q) (fun q => k2 q)) (fun q1 => ?_) (fun q1 => ?_)
  · have h := h.1 q1
    exact h
  · have h := h.2 q1
    refine K_p (pc2 := 6) (lv2 := [(0, vR 64), (1, vL _), (3, vI _)]) (st2 := [vI _]) (fun ad S Q _ k => V_iload_n (pc2 := 6) (dk D_X11_feed 3 rfl) rfl (V_lg 2 rfl) rfl k) ?_
    refine K_p (pc2 := 8) (lv2 := [(0, vR 64), (1, vL _), (3, vI _)]) (st2 := [vI _, vI _]) (fun ad S Q _ k => V_bipush (x := 8) (pc2 := 8) (dk D_X11_feed 4 rfl) (by decide) rfl k) ?_
    refine K_if (pa := 13) (pb := 11) (lv2 := [(0, vR 64), (1, vL _), (3, vI _)]) (st2 := []) (fun ad S Q _ k1 k2 => V_cmple (tgt := 13) (pc2 := 11) (dk D_X11_feed 5 rfl) (by decide) rfl (fun q => k1 q) (fun q => k2 q)) (fun q2 => ?_) (fun q2 => ?_)
    · have h := h.1 q2
      refine K_p (pc2 := 14) (lv2 := [(0, vR 64), (1, vL _), (3, vI _)]) (st2 := [vR 64]) (fun ad S Q _ k => V_aload_n (pc2 := 14) (dk D_X11_feed 8 rfl) rfl (V_lg 0 rfl) rfl k) ?_
      refine K_getF kc11 (h' := 65) (pc2 := 17) 0 (by decide) (dk D_X11_feed 9 rfl) fl_11_10 (by decide) (fun _ _ => rfl) rfl (fixH 64 11 (by decide) rfl) (by decide) ?_
      refine K_p (pc2 := 18) (lv2 := [(0, vR 64), (1, vL _), (3, vI _)]) (st2 := [vI _, vR 65]) (fun ad S Q _ k => V_iload_n (pc2 := 18) (dk D_X11_feed 10 rfl) rfl (V_lg 2 rfl) rfl k) ?_
      obtain ⟨e3, he4, hc5⟩ := h
      refine K_call (as := [vR 65, vI _]) (st := []) (pc2 := 21) (okL.all _ ⟨(Or.inr ⟨Or.inl ⟨by decide, by decide⟩, by decide⟩), trivial, trivial, trivial⟩) (okS.all _ trivial) (fun ad S Q Qc hC hc k => V_callV (as := [_]) (st := []) (M' := MX8_hasRoom) (ci := 8) (pc2 := 21) (dk D_X11_feed 11 rfl) ml_11_53 mv_X8_hasRoom rfl rfl (by decide) rfl (Nat.le_of_ble_eq_true rfl) rfl he4 (hC.k' (fixH 65 8 (by decide) rfl)) hc k) hc5 (kRI.k fun y6 κ7 h mo8 => ?_)
      refine K_if (pa := 24) (pb := 27) (lv2 := [(0, vR 64), (1, vL _), (3, vI _)]) (st2 := []) (fun ad S Q _ k1 k2 => V_ifne (tgt := 27) (pc2 := 24) (dk D_X11_feed 12 rfl) (by decide) rfl (fun q => k2 q) (fun q => k1 q)) (fun q9 => ?_) (fun q9 => ?_)
      · have h := h.1 q9
        refine K_p (pc2 := 26) (lv2 := [(0, vR 64), (1, vL _), (3, vI _)]) (st2 := [vI _]) (fun ad S Q _ k => V_bipush (x := (-3)) (pc2 := 26) (dk D_X11_feed 13 rfl) (by decide) rfl k) ?_
        exact K_ret (r := .inl (some (vI _))) (fun ad S Q _ k => V_ireturn (dk D_X11_feed 14 rfl) rfl k) h
      · have h := h.2 q9
        refine K_p (pc2 := 28) (lv2 := [(0, vR 64), (1, vL _), (3, vI _)]) (st2 := [vI _]) (fun ad S Q _ k => V_iconst (x := 0) (pc2 := 28) (dk D_X11_feed 15 rfl) (by decide) rfl k) ?_
        refine K_p (pc2 := 30) (lv2 := [(0, vR 64), (1, vL _), (3, vI _), (4, vI _)]) (st2 := []) (fun ad S Q _ k => V_istore (pc2 := 30) (lv2 := [(0, _), (1, _), (3, _), (4, _)]) (dk D_X11_feed 16 rfl) (by decide) rfl rfl k) ?_
        exact h
    · have h := h.2 q2
      exact h
theorem k_11_feed_11 {X : Cx} {d : Nat} {κ : Km} {Q : Res → Km → Prop} (l1 : Int64) (x3 : Int32) (h : Q (.inl (some (vI (-1)))) κ) : K X d MX11_feed 11 [(0, vR 64), (1, vL l1), (3, vI x3)] [] κ Q := by
  refine K_p (pc2 := 12) (lv2 := [(0, vR 64), (1, vL _), (3, vI _)]) (st2 := [vI _]) (fun ad S Q _ k => V_iconst (x := (-1)) (pc2 := 12) (dk D_X11_feed 6 rfl) (by decide) rfl k) ?_
  exact K_ret (r := .inl (some (vI _))) (fun ad S Q _ k => V_ireturn (dk D_X11_feed 7 rfl) rfl k) h
theorem k_11_feed_30 {X : Cx} {d : Nat} {κ : Km} {Q : Res → Km → Prop} (l1 : Int64) (x3 : Int32) (x4 : Int32) (h : ((x3 ≤ x4 → ∃ e2 : Nat, e2 + 1 ≤ d ∧ KC' X e2 MX8_size [vR 65] κ (kRI fun y5 κ6 => Q (.inl (some (vI y5))) κ6)) ∧ (¬ x3 ≤ x4 → ∃ e8 : Nat, e8 + 1 ≤ d ∧ KC' X e8 MX8_add [vR 65, vI (((((l1 : Int64).toUInt64 >>> (((8 * x4) : Int32).toInt64.toUInt64 &&& Int64.toUInt64 63)).toInt64) : Int64).toInt32)] κ (kRV fun  κ11 => K X d MX11_feed 30 [(0, vR 64), (1, vL l1), (3, vI x3), (4, vI (x4 + 1))] [] κ11 Q)))) : K X d MX11_feed 30 [(0, vR 64), (1, vL l1), (3, vI x3), (4, vI x4)] [] κ Q := by
  refine K_p (pc2 := 32) (lv2 := [(0, vR 64), (1, vL _), (3, vI _), (4, vI _)]) (st2 := [vI _]) (fun ad S Q _ k => V_iload (pc2 := 32) (dk D_X11_feed 17 rfl) (V_lg 3 rfl) rfl k) ?_
  refine K_p (pc2 := 33) (lv2 := [(0, vR 64), (1, vL _), (3, vI _), (4, vI _)]) (st2 := [vI _, vI _]) (fun ad S Q _ k => V_iload_n (pc2 := 33) (dk D_X11_feed 18 rfl) rfl (V_lg 2 rfl) rfl k) ?_
  refine K_if (pa := 57) (pb := 36) (lv2 := [(0, vR 64), (1, vL _), (3, vI _), (4, vI _)]) (st2 := []) (fun ad S Q _ k1 k2 => V_cmpge (tgt := 57) (pc2 := 36) (dk D_X11_feed 19 rfl) (by decide) rfl (fun q => k1 q) (fun q => k2 q)) (fun q1 => ?_) (fun q1 => ?_)
  · have h := h.1 q1
    refine K_p (pc2 := 58) (lv2 := [(0, vR 64), (1, vL _), (3, vI _), (4, vI _)]) (st2 := [vR 64]) (fun ad S Q _ k => V_aload_n (pc2 := 58) (dk D_X11_feed 31 rfl) rfl (V_lg 0 rfl) rfl k) ?_
    refine K_getF kc11 (h' := 65) (pc2 := 61) 0 (by decide) (dk D_X11_feed 32 rfl) fl_11_10 (by decide) (fun _ _ => rfl) rfl (fixH 64 11 (by decide) rfl) (by decide) ?_
    obtain ⟨e2, he3, hc4⟩ := h
    refine K_call (as := [vR 65]) (st := []) (pc2 := 64) (okL.all _ ⟨(Or.inr ⟨Or.inl ⟨by decide, by decide⟩, by decide⟩), trivial, trivial, trivial, trivial⟩) (okS.all _ trivial) (fun ad S Q Qc hC hc k => V_callV (as := []) (st := []) (M' := MX8_size) (ci := 8) (pc2 := 64) (dk D_X11_feed 33 rfl) ml_11_61 mv_X8_size rfl rfl (by decide) rfl (Nat.le_of_ble_eq_true rfl) rfl he3 (hC.k' (fixH 65 8 (by decide) rfl)) hc k) hc4 (kRI.k fun y5 κ6 h mo7 => ?_)
    exact K_ret (r := .inl (some (vI _))) (fun ad S Q _ k => V_ireturn (dk D_X11_feed 34 rfl) rfl k) h
  · have h := h.2 q1
    refine K_p (pc2 := 37) (lv2 := [(0, vR 64), (1, vL _), (3, vI _), (4, vI _)]) (st2 := [vR 64]) (fun ad S Q _ k => V_aload_n (pc2 := 37) (dk D_X11_feed 20 rfl) rfl (V_lg 0 rfl) rfl k) ?_
    refine K_getF kc11 (h' := 65) (pc2 := 40) 0 (by decide) (dk D_X11_feed 21 rfl) fl_11_10 (by decide) (fun _ _ => rfl) rfl (fixH 64 11 (by decide) rfl) (by decide) ?_
    refine K_p (pc2 := 41) (lv2 := [(0, vR 64), (1, vL _), (3, vI _), (4, vI _)]) (st2 := [vL _, vR 65]) (fun ad S Q _ k => V_lload_n (pc2 := 41) (dk D_X11_feed 22 rfl) rfl (V_lg 1 rfl) rfl k) ?_
    refine K_p (pc2 := 43) (lv2 := [(0, vR 64), (1, vL _), (3, vI _), (4, vI _)]) (st2 := [vI _, vL _, vR 65]) (fun ad S Q _ k => V_bipush (x := 8) (pc2 := 43) (dk D_X11_feed 23 rfl) (by decide) rfl k) ?_
    refine K_p (pc2 := 45) (lv2 := [(0, vR 64), (1, vL _), (3, vI _), (4, vI _)]) (st2 := [vI _, vI _, vL _, vR 65]) (fun ad S Q _ k => V_iload (pc2 := 45) (dk D_X11_feed 24 rfl) (V_lg 3 rfl) rfl k) ?_
    refine K_p (pc2 := 46) (lv2 := [(0, vR 64), (1, vL _), (3, vI _), (4, vI _)]) (st2 := [vI _, vL _, vR 65]) (fun ad S Q _ k => V_imul (pc2 := 46) (dk D_X11_feed 25 rfl) rfl k) ?_
    refine K_p (pc2 := 47) (lv2 := [(0, vR 64), (1, vL _), (3, vI _), (4, vI _)]) (st2 := [vL _, vR 65]) (fun ad S Q _ k => V_lushr (pc2 := 47) (dk D_X11_feed 26 rfl) rfl k) ?_
    refine K_p (pc2 := 48) (lv2 := [(0, vR 64), (1, vL _), (3, vI _), (4, vI _)]) (st2 := [vI _, vR 65]) (fun ad S Q _ k => V_l2i (pc2 := 48) (dk D_X11_feed 27 rfl) rfl k) ?_
    obtain ⟨e8, he9, hc10⟩ := h
    refine K_call (as := [vR 65, vI _]) (st := []) (pc2 := 51) (okL.all _ ⟨(Or.inr ⟨Or.inl ⟨by decide, by decide⟩, by decide⟩), trivial, trivial, trivial, trivial⟩) (okS.all _ trivial) (fun ad S Q Qc hC hc k => V_callV (as := [_]) (st := []) (M' := MX8_add) (ci := 8) (pc2 := 51) (dk D_X11_feed 28 rfl) ml_11_57 mv_X8_add rfl rfl (by decide) rfl (Nat.le_of_ble_eq_true rfl) rfl he9 (hC.k' (fixH 65 8 (by decide) rfl)) hc k) hc10 (kRV.k fun  κ11 h mo12 => ?_)
    refine K_p (pc2 := 54) (lv2 := [(0, vR 64), (1, vL _), (3, vI _), (4, vI _)]) (st2 := []) (fun ad S Q _ k => V_iinc (y := _ + 1) (pc2 := 54) (lv2 := [(0, _), (1, _), (3, _), (4, _)]) (dk D_X11_feed 29 rfl) (V_lg 3 rfl) rfl (by decide) rfl rfl k) ?_
    refine K_p (pc2 := 30) (lv2 := [(0, vR 64), (1, vL _), (3, vI _), (4, vI _)]) (st2 := []) (fun ad S Q _ k => V_goto (tgt := 30) (dk D_X11_feed 30 rfl) (by decide) k) ?_
    exact h
theorem k_11_drop_0 {X : Cx} {d : Nat} {κ : Km} {Q : Res → Km → Prop}  (h : ∃ e1 : Nat, e1 + 1 ≤ d ∧ KC' X e1 MX8_size [vR 65] κ (kRI fun y4 κ5 => ∃ e7 : Nat, e7 + 1 ≤ d ∧ KC' X e7 MX8_clear [vR 65] κ5 (kRV fun  κ10 => Q (.inl (some (vI y4))) κ10))) : K X d MX11_drop 0 [(0, vR 64)] [] κ Q := by
  refine K_p (pc2 := 1) (lv2 := [(0, vR 64)]) (st2 := [vR 64]) (fun ad S Q _ k => V_aload_n (pc2 := 1) (dk D_X11_drop 0 rfl) rfl (V_lg 0 rfl) rfl k) ?_
  refine K_getF kc11 (h' := 65) (pc2 := 4) 0 (by decide) (dk D_X11_drop 1 rfl) fl_11_10 (by decide) (fun _ _ => rfl) rfl (fixH 64 11 (by decide) rfl) (by decide) ?_
  obtain ⟨e1, he2, hc3⟩ := h
  refine K_call (as := [vR 65]) (st := []) (pc2 := 7) (okL.all _ ⟨(Or.inr ⟨Or.inl ⟨by decide, by decide⟩, by decide⟩), trivial⟩) (okS.all _ trivial) (fun ad S Q Qc hC hc k => V_callV (as := []) (st := []) (M' := MX8_size) (ci := 8) (pc2 := 7) (dk D_X11_drop 2 rfl) ml_11_61 mv_X8_size rfl rfl (by decide) rfl (Nat.le_of_ble_eq_true rfl) rfl he2 (hC.k' (fixH 65 8 (by decide) rfl)) hc k) hc3 (kRI.k fun y4 κ5 h mo6 => ?_)
  refine K_p (pc2 := 8) (lv2 := [(0, vR 64), (1, vI _)]) (st2 := []) (fun ad S Q _ k => V_istore_n (pc2 := 8) (lv2 := [(0, _), (1, _)]) (dk D_X11_drop 3 rfl) rfl (by decide) rfl rfl k) ?_
  refine K_p (pc2 := 9) (lv2 := [(0, vR 64), (1, vI _)]) (st2 := [vR 64]) (fun ad S Q _ k => V_aload_n (pc2 := 9) (dk D_X11_drop 4 rfl) rfl (V_lg 0 rfl) rfl k) ?_
  refine K_getF kc11 (h' := 65) (pc2 := 12) 0 (by decide) (dk D_X11_drop 5 rfl) fl_11_10 (by decide) (fun _ _ => rfl) rfl (fixH 64 11 (by decide) rfl) (by decide) ?_
  obtain ⟨e7, he8, hc9⟩ := h
  refine K_call (as := [vR 65]) (st := []) (pc2 := 15) (okL.all _ ⟨(Or.inr ⟨Or.inl ⟨by decide, by decide⟩, by decide⟩), trivial, trivial⟩) (okS.all _ trivial) (fun ad S Q Qc hC hc k => V_callV (as := []) (st := []) (M' := MX8_clear) (ci := 8) (pc2 := 15) (dk D_X11_drop 6 rfl) ml_11_65 mv_X8_clear rfl rfl (by decide) rfl (Nat.le_of_ble_eq_true rfl) rfl he8 (hC.k' (fixH 65 8 (by decide) rfl)) hc k) hc9 (kRV.k fun  κ10 h mo11 => ?_)
  refine K_p (pc2 := 16) (lv2 := [(0, vR 64), (1, vI _)]) (st2 := [vI _]) (fun ad S Q _ k => V_iload_n (pc2 := 16) (dk D_X11_drop 7 rfl) rfl (V_lg 1 rfl) rfl k) ?_
  exact K_ret (r := .inl (some (vI _))) (fun ad S Q _ k => V_ireturn (dk D_X11_drop 8 rfl) rfl k) h
theorem k_11_compile_0 {X : Cx} {d : Nat} {κ : Km} {Q : Res → Km → Prop}  (h : ∃ e1 : Nat, e1 + 1 ≤ d ∧ KC' X e1 MX5_read [vR 77] κ (kRI fun y4 κ5 => ((0 ≤ y4 → K X d MX11_compile 20 [(0, vR 64), (1, vI y4)] [] κ5 Q) ∧ (¬ 0 ≤ y4 → ∃ e8 : Nat, e8 + 1 ≤ d ∧ KC' X e8 MX3_link [vR 78] κ5 (kRI fun y11 κ12 => K X d MX11_compile 20 [(0, vR 64), (1, vI y11)] [] κ12 Q))))) : K X d MX11_compile 0 [(0, vR 64)] [] κ Q := by
  refine K_p (pc2 := 1) (lv2 := [(0, vR 64)]) (st2 := [vR 64]) (fun ad S Q _ k => V_aload_n (pc2 := 1) (dk D_X11_compile 0 rfl) rfl (V_lg 0 rfl) rfl k) ?_
  refine K_getF kc11 (h' := 77) (pc2 := 4) 2 (by decide) (dk D_X11_compile 1 rfl) fl_11_33 (by decide) (fun _ _ => rfl) rfl (fixH 64 11 (by decide) rfl) (by decide) ?_
  obtain ⟨e1, he2, hc3⟩ := h
  refine K_call (as := [vR 77]) (st := []) (pc2 := 7) (okL.all _ ⟨(Or.inr ⟨Or.inl ⟨by decide, by decide⟩, by decide⟩), trivial⟩) (okS.all _ trivial) (fun ad S Q Qc hC hc k => V_callV (as := []) (st := []) (M' := MX5_read) (ci := 5) (pc2 := 7) (dk D_X11_compile 2 rfl) ml_11_68 mv_X5_read rfl rfl (by decide) rfl (Nat.le_of_ble_eq_true rfl) rfl he2 (hC.k' (fixH 77 5 (by decide) rfl)) hc k) hc3 (kRI.k fun y4 κ5 h mo6 => ?_)
  refine K_p (pc2 := 8) (lv2 := [(0, vR 64), (1, vI _)]) (st2 := []) (fun ad S Q _ k => V_istore_n (pc2 := 8) (lv2 := [(0, _), (1, _)]) (dk D_X11_compile 3 rfl) rfl (by decide) rfl rfl k) ?_
  refine K_p (pc2 := 9) (lv2 := [(0, vR 64), (1, vI _)]) (st2 := [vI _]) (fun ad S Q _ k => V_iload_n (pc2 := 9) (dk D_X11_compile 4 rfl) rfl (V_lg 1 rfl) rfl k) ?_
  refine K_if (pa := 20) (pb := 12) (lv2 := [(0, vR 64), (1, vI _)]) (st2 := []) (fun ad S Q _ k1 k2 => V_ifge (tgt := 20) (pc2 := 12) (dk D_X11_compile 5 rfl) (by decide) rfl (fun q => k1 q) (fun q => k2 q)) (fun q7 => ?_) (fun q7 => ?_)
  · have h := h.1 q7
    exact h
  · have h := h.2 q7
    refine K_p (pc2 := 13) (lv2 := [(0, vR 64), (1, vI _)]) (st2 := [vR 64]) (fun ad S Q _ k => V_aload_n (pc2 := 13) (dk D_X11_compile 6 rfl) rfl (V_lg 0 rfl) rfl k) ?_
    refine K_getF kc11 (h' := 78) (pc2 := 16) 3 (by decide) (dk D_X11_compile 7 rfl) fl_11_40 (by decide) (fun _ _ => rfl) rfl (fixH 64 11 (by decide) rfl) (by decide) ?_
    obtain ⟨e8, he9, hc10⟩ := h
    refine K_call (as := [vR 78]) (st := []) (pc2 := 19) (okL.all _ ⟨(Or.inr ⟨Or.inl ⟨by decide, by decide⟩, by decide⟩), trivial, trivial⟩) (okS.all _ trivial) (fun ad S Q Qc hC hc k => V_callV (as := []) (st := []) (M' := MX3_link) (ci := 3) (pc2 := 19) (dk D_X11_compile 8 rfl) ml_11_71 mv_X3_link rfl rfl (by decide) rfl (Nat.le_of_ble_eq_true rfl) rfl he9 (hC.k' (fixH 78 3 (by decide) rfl)) hc k) hc10 (kRI.k fun y11 κ12 h mo13 => ?_)
    refine K_p (pc2 := 20) (lv2 := [(0, vR 64), (1, vI _)]) (st2 := []) (fun ad S Q _ k => V_istore_n (pc2 := 20) (lv2 := [(0, _), (1, _)]) (dk D_X11_compile 9 rfl) rfl (by decide) rfl rfl k) ?_
    exact h
theorem k_11_compile_20 {X : Cx} {d : Nat} {κ : Km} {Q : Res → Km → Prop} (x1 : Int32) (h : ∃ e1 : Nat, e1 + 1 ≤ d ∧ KC' X e1 MX8_clear [vR 65] κ (kRV fun  κ4 => ∃ e6 : Nat, e6 + 1 ≤ d ∧ KC' X e6 MX6_reset [vR 79] κ4 (kRV fun  κ9 => ((0 ≤ x1 → K X d MX11_compile 44 [(0, vR 64), (1, vI x1)] [vI 0, vR 64] κ9 Q) ∧ (¬ 0 ≤ x1 → K X d MX11_compile 44 [(0, vR 64), (1, vI x1)] [vI 1, vR 64] κ9 Q))))) : K X d MX11_compile 20 [(0, vR 64), (1, vI x1)] [] κ Q := by
  refine K_p (pc2 := 21) (lv2 := [(0, vR 64), (1, vI _)]) (st2 := [vR 64]) (fun ad S Q _ k => V_aload_n (pc2 := 21) (dk D_X11_compile 10 rfl) rfl (V_lg 0 rfl) rfl k) ?_
  refine K_getF kc11 (h' := 65) (pc2 := 24) 0 (by decide) (dk D_X11_compile 11 rfl) fl_11_10 (by decide) (fun _ _ => rfl) rfl (fixH 64 11 (by decide) rfl) (by decide) ?_
  obtain ⟨e1, he2, hc3⟩ := h
  refine K_call (as := [vR 65]) (st := []) (pc2 := 27) (okL.all _ ⟨(Or.inr ⟨Or.inl ⟨by decide, by decide⟩, by decide⟩), trivial, trivial⟩) (okS.all _ trivial) (fun ad S Q Qc hC hc k => V_callV (as := []) (st := []) (M' := MX8_clear) (ci := 8) (pc2 := 27) (dk D_X11_compile 12 rfl) ml_11_65 mv_X8_clear rfl rfl (by decide) rfl (Nat.le_of_ble_eq_true rfl) rfl he2 (hC.k' (fixH 65 8 (by decide) rfl)) hc k) hc3 (kRV.k fun  κ4 h mo5 => ?_)
  refine K_p (pc2 := 28) (lv2 := [(0, vR 64), (1, vI _)]) (st2 := [vR 64]) (fun ad S Q _ k => V_aload_n (pc2 := 28) (dk D_X11_compile 13 rfl) rfl (V_lg 0 rfl) rfl k) ?_
  refine K_getF kc11 (h' := 79) (pc2 := 31) 4 (by decide) (dk D_X11_compile 14 rfl) fl_11_49 (by decide) (fun _ _ => rfl) rfl (fixH 64 11 (by decide) rfl) (by decide) ?_
  obtain ⟨e6, he7, hc8⟩ := h
  refine K_call (as := [vR 79]) (st := []) (pc2 := 34) (okL.all _ ⟨(Or.inr ⟨Or.inl ⟨by decide, by decide⟩, by decide⟩), trivial, trivial⟩) (okS.all _ trivial) (fun ad S Q Qc hC hc k => V_callV (as := []) (st := []) (M' := MX6_reset) (ci := 6) (pc2 := 34) (dk D_X11_compile 15 rfl) ml_11_74 mv_X6_reset rfl rfl (by decide) rfl (Nat.le_of_ble_eq_true rfl) rfl he7 (hC.k' (fixH 79 6 (by decide) rfl)) hc k) hc8 (kRV.k fun  κ9 h mo10 => ?_)
  refine K_p (pc2 := 35) (lv2 := [(0, vR 64), (1, vI _)]) (st2 := [vR 64]) (fun ad S Q _ k => V_aload_n (pc2 := 35) (dk D_X11_compile 16 rfl) rfl (V_lg 0 rfl) rfl k) ?_
  refine K_p (pc2 := 36) (lv2 := [(0, vR 64), (1, vI _)]) (st2 := [vI _, vR 64]) (fun ad S Q _ k => V_iload_n (pc2 := 36) (dk D_X11_compile 17 rfl) rfl (V_lg 1 rfl) rfl k) ?_
  refine K_if (pa := 43) (pb := 39) (lv2 := [(0, vR 64), (1, vI _)]) (st2 := [vR 64]) (fun ad S Q _ k1 k2 => V_ifge (tgt := 43) (pc2 := 39) (dk D_X11_compile 18 rfl) (by decide) rfl (fun q => k1 q) (fun q => k2 q)) (fun q11 => ?_) (fun q11 => ?_)
  · have h := h.1 q11
    refine K_p (pc2 := 44) (lv2 := [(0, vR 64), (1, vI _)]) (st2 := [vI _, vR 64]) (fun ad S Q _ k => V_iconst (x := 0) (pc2 := 44) (dk D_X11_compile 21 rfl) (by decide) rfl k) ?_
    exact h
  · have h := h.2 q11
    refine K_p (pc2 := 40) (lv2 := [(0, vR 64), (1, vI _)]) (st2 := [vI _, vR 64]) (fun ad S Q _ k => V_iconst (x := 1) (pc2 := 40) (dk D_X11_compile 19 rfl) (by decide) rfl k) ?_
    refine K_p (pc2 := 44) (lv2 := [(0, vR 64), (1, vI _)]) (st2 := [vI _, vR 64]) (fun ad S Q _ k => V_goto (tgt := 44) (dk D_X11_compile 20 rfl) (by decide) k) ?_
    exact h
theorem k_11_compile_44 {X : Cx} {d : Nat} {κ : Km} {Q : Res → Km → Prop} (x1 : Int32) (t1 : Int32) (h : (t1 = 0 ∨ t1 = 1) ∧ ∀ κ2 : Km, κ2 = cI κ 64 5 t1 → (((kI κ2 64 5) = 0 → K X d MX11_compile 68 [(0, vR 64), (1, vI x1)] [vI ((-10) - x1)] κ2 Q) ∧ (¬ (kI κ2 64 5) = 0 → ∃ e4 : Nat, e4 + 1 ≤ d ∧ KC' X e4 MX7_size [vR 67] κ2 (kRI fun y7 κ8 => K X d MX11_compile 68 [(0, vR 64), (1, vI x1)] [vI y7] κ8 Q)))) : K X d MX11_compile 44 [(0, vR 64), (1, vI x1)] [vI t1, vR 64] κ Q := by
  obtain ⟨h1, h⟩ := h
  refine K_putZ kc11 (pc2 := 47) 5 (dk D_X11_compile 22 rfl) fl_11_77 (by decide) (Or.inl rfl) rfl rfl (fixH 64 11 (by decide) rfl) (by decide) h1 ?_
  have h := h _ rfl
  refine K_p (pc2 := 48) (lv2 := [(0, vR 64), (1, vI _)]) (st2 := [vR 64]) (fun ad S Q _ k => V_aload_n (pc2 := 48) (dk D_X11_compile 23 rfl) rfl (V_lg 0 rfl) rfl k) ?_
  refine K_getI kc11 (pc2 := 51) 5 (dk D_X11_compile 24 rfl) fl_11_77 (by decide) (fun _ _ => rfl) rfl (fixH 64 11 (by decide) rfl) ?_
  refine K_if (pa := 64) (pb := 54) (lv2 := [(0, vR 64), (1, vI _)]) (st2 := []) (fun ad S Q _ k1 k2 => V_ifeq (tgt := 64) (pc2 := 54) (dk D_X11_compile 25 rfl) (by decide) rfl (fun q => k1 q) (fun q => k2 q)) (fun q3 => ?_) (fun q3 => ?_)
  · have h := h.1 q3
    refine K_p (pc2 := 66) (lv2 := [(0, vR 64), (1, vI _)]) (st2 := [vI _]) (fun ad S Q _ k => V_bipush (x := (-10)) (pc2 := 66) (dk D_X11_compile 30 rfl) (by decide) rfl k) ?_
    refine K_p (pc2 := 67) (lv2 := [(0, vR 64), (1, vI _)]) (st2 := [vI _, vI _]) (fun ad S Q _ k => V_iload_n (pc2 := 67) (dk D_X11_compile 31 rfl) rfl (V_lg 1 rfl) rfl k) ?_
    refine K_p (pc2 := 68) (lv2 := [(0, vR 64), (1, vI _)]) (st2 := [vI _]) (fun ad S Q _ k => V_isub (pc2 := 68) (dk D_X11_compile 32 rfl) rfl k) ?_
    exact h
  · have h := h.2 q3
    refine K_p (pc2 := 55) (lv2 := [(0, vR 64), (1, vI _)]) (st2 := [vR 64]) (fun ad S Q _ k => V_aload_n (pc2 := 55) (dk D_X11_compile 26 rfl) rfl (V_lg 0 rfl) rfl k) ?_
    refine K_getF kc11 (h' := 67) (pc2 := 58) 1 (by decide) (dk D_X11_compile 27 rfl) fl_11_19 (by decide) (fun _ _ => rfl) rfl (fixH 64 11 (by decide) rfl) (by decide) ?_
    obtain ⟨e4, he5, hc6⟩ := h
    refine K_call (as := [vR 67]) (st := []) (pc2 := 61) (okL.all _ ⟨(Or.inr ⟨Or.inl ⟨by decide, by decide⟩, by decide⟩), trivial, trivial⟩) (okS.all _ trivial) (fun ad S Q Qc hC hc k => V_callV (as := []) (st := []) (M' := MX7_size) (ci := 7) (pc2 := 61) (dk D_X11_compile 28 rfl) ml_11_81 mv_X7_size rfl rfl (by decide) rfl (Nat.le_of_ble_eq_true rfl) rfl he5 (hC.k' (fixH 67 7 (by decide) rfl)) hc k) hc6 (kRI.k fun y7 κ8 h mo9 => ?_)
    refine K_p (pc2 := 68) (lv2 := [(0, vR 64), (1, vI _)]) (st2 := [vI _]) (fun ad S Q _ k => V_goto (tgt := 68) (dk D_X11_compile 29 rfl) (by decide) k) ?_
    exact h
theorem k_11_compile_68 {X : Cx} {d : Nat} {κ : Km} {Q : Res → Km → Prop} (x1 : Int32) (t0 : Int32) (h : Q (.inl (some (vI t0))) κ) : K X d MX11_compile 68 [(0, vR 64), (1, vI x1)] [vI t0] κ Q := by
  exact K_ret (r := .inl (some (vI _))) (fun ad S Q _ k => V_ireturn (dk D_X11_compile 33 rfl) rfl k) h
theorem k_11_body_0 {X : Cx} {d : Nat} {κ : Km} {Q : Res → Km → Prop} (x1 : Int32) (x2 : Int32) (h : (((kI κ 64 5) = 0 → Q (.inl (some (vI (-2)))) κ) ∧ (¬ (kI κ 64 5) = 0 → ∃ e2 : Nat, e2 + 1 ≤ d ∧ KC' X e2 MX7_at [vR 67, vI x1] κ (kRR fun p5 κ6 => (p5 = 0 ∨ live κ6 p5) ∧ ((p5 = 0 → K X d MX11_body 32 [(0, vR 64), (1, vI x1), (2, vI x2), (3, vR p5)] [vI (-1)] κ6 Q) ∧ (¬ p5 = 0 → (isH κ6 p5 0) ∧ ∃ e10 : Nat, e10 + 1 ≤ d ∧ KC' X e10 MX0_fact [vR p5, vI x2] κ6 (kRI fun y13 κ15 => K X d MX11_body 32 [(0, vR 64), (1, vI x1), (2, vI x2), (3, vR p5)] [vI y13] κ15 Q))))))) : K X d MX11_body 0 [(0, vR 64), (1, vI x1), (2, vI x2)] [] κ Q := by
  refine K_p (pc2 := 1) (lv2 := [(0, vR 64), (1, vI _), (2, vI _)]) (st2 := [vR 64]) (fun ad S Q _ k => V_aload_n (pc2 := 1) (dk D_X11_body 0 rfl) rfl (V_lg 0 rfl) rfl k) ?_
  refine K_getI kc11 (pc2 := 4) 5 (dk D_X11_body 1 rfl) fl_11_77 (by decide) (fun _ _ => rfl) rfl (fixH 64 11 (by decide) rfl) ?_
  refine K_if (pa := 7) (pb := 10) (lv2 := [(0, vR 64), (1, vI _), (2, vI _)]) (st2 := []) (fun ad S Q _ k1 k2 => V_ifne (tgt := 10) (pc2 := 7) (dk D_X11_body 2 rfl) (by decide) rfl (fun q => k2 q) (fun q => k1 q)) (fun q1 => ?_) (fun q1 => ?_)
  · have h := h.1 q1
    refine K_p (pc2 := 9) (lv2 := [(0, vR 64), (1, vI _), (2, vI _)]) (st2 := [vI _]) (fun ad S Q _ k => V_bipush (x := (-2)) (pc2 := 9) (dk D_X11_body 3 rfl) (by decide) rfl k) ?_
    exact K_ret (r := .inl (some (vI _))) (fun ad S Q _ k => V_ireturn (dk D_X11_body 4 rfl) rfl k) h
  · have h := h.2 q1
    refine K_p (pc2 := 11) (lv2 := [(0, vR 64), (1, vI _), (2, vI _)]) (st2 := [vR 64]) (fun ad S Q _ k => V_aload_n (pc2 := 11) (dk D_X11_body 5 rfl) rfl (V_lg 0 rfl) rfl k) ?_
    refine K_getF kc11 (h' := 67) (pc2 := 14) 1 (by decide) (dk D_X11_body 6 rfl) fl_11_19 (by decide) (fun _ _ => rfl) rfl (fixH 64 11 (by decide) rfl) (by decide) ?_
    refine K_p (pc2 := 15) (lv2 := [(0, vR 64), (1, vI _), (2, vI _)]) (st2 := [vI _, vR 67]) (fun ad S Q _ k => V_iload_n (pc2 := 15) (dk D_X11_body 7 rfl) rfl (V_lg 1 rfl) rfl k) ?_
    obtain ⟨e2, he3, hc4⟩ := h
    refine K_call (as := [vR 67, vI _]) (st := []) (pc2 := 18) (okL.all _ ⟨(Or.inr ⟨Or.inl ⟨by decide, by decide⟩, by decide⟩), trivial, trivial, trivial⟩) (okS.all _ trivial) (fun ad S Q Qc hC hc k => V_callV (as := [_]) (st := []) (M' := MX7_at) (ci := 7) (pc2 := 18) (dk D_X11_body 8 rfl) ml_11_82 mv_X7_at rfl rfl (by decide) rfl (Nat.le_of_ble_eq_true rfl) rfl he3 (hC.k' (fixH 67 7 (by decide) rfl)) hc k) hc4 (kRR.k fun p5 κ6 h mo7 => ?_)
    refine K_p (pc2 := 19) (lv2 := [(0, vR 64), (1, vI _), (2, vI _), (3, vR _)]) (st2 := []) (fun ad S Q _ k => V_astore_n (pc2 := 19) (lv2 := [(0, _), (1, _), (2, _), (3, _)]) (dk D_X11_body 9 rfl) rfl (by decide) rfl rfl k) ?_
    refine K_p (pc2 := 20) (lv2 := [(0, vR 64), (1, vI _), (2, vI _), (3, vR _)]) (st2 := [vR _]) (fun ad S Q _ k => V_aload_n (pc2 := 20) (dk D_X11_body 10 rfl) rfl (V_lg 3 rfl) rfl k) ?_
    obtain ⟨h9, h⟩ := h
    refine K_ifnonnull (tgt := 27) (pc2 := 23) (dk D_X11_body 11 rfl) (by decide) rfl h9 (fun q8 => ?_) (fun q8 => ?_)
    · have h := h.1 q8
      refine K_p (pc2 := 24) (lv2 := [(0, vR 64), (1, vI _), (2, vI _), (3, vR _)]) (st2 := [vI _]) (fun ad S Q _ k => V_iconst (x := (-1)) (pc2 := 24) (dk D_X11_body 12 rfl) (by decide) rfl k) ?_
      refine K_p (pc2 := 32) (lv2 := [(0, vR 64), (1, vI _), (2, vI _), (3, vR _)]) (st2 := [vI _]) (fun ad S Q _ k => V_goto (tgt := 32) (dk D_X11_body 13 rfl) (by decide) k) ?_
      exact h
    · have h := h.2 q8
      refine K_p (pc2 := 28) (lv2 := [(0, vR 64), (1, vI _), (2, vI _), (3, vR _)]) (st2 := [vR _]) (fun ad S Q _ k => V_aload_n (pc2 := 28) (dk D_X11_body 14 rfl) rfl (V_lg 3 rfl) rfl k) ?_
      refine K_p (pc2 := 29) (lv2 := [(0, vR 64), (1, vI _), (2, vI _), (3, vR _)]) (st2 := [vI _, vR _]) (fun ad S Q _ k => V_iload_n (pc2 := 29) (dk D_X11_body 15 rfl) rfl (V_lg 2 rfl) rfl k) ?_
      obtain ⟨h14, h⟩ := h
      obtain ⟨e10, he11, hc12⟩ := h
      refine K_call (as := [vR _, vI _]) (st := []) (pc2 := 32) (okL.all _ ⟨(Or.inr ⟨Or.inl ⟨by decide, by decide⟩, by decide⟩), trivial, trivial, (isH.ok h14 (by decide)), trivial⟩) (okS.all _ trivial) (fun ad S Q Qc hC hc k => V_callV (as := [_]) (st := []) (M' := MX0_fact) (ci := 0) (pc2 := 32) (dk D_X11_body 16 rfl) ml_11_86 mv_X0_fact rfl rfl (by decide) rfl (Nat.le_of_ble_eq_true rfl) rfl he11 (hC.k' h14) hc k) hc12 (kRI.k fun y13 κ15 h mo16 => ?_)
      exact h
theorem k_11_body_32 {X : Cx} {d : Nat} {κ : Km} {Q : Res → Km → Prop} (x1 : Int32) (x2 : Int32) (r3 : Nat) (t0 : Int32) (h : Q (.inl (some (vI t0))) κ) : K X d MX11_body 32 [(0, vR 64), (1, vI x1), (2, vI x2), (3, vR r3)] [vI t0] κ Q := by
  exact K_ret (r := .inl (some (vI _))) (fun ad S Q _ k => V_ireturn (dk D_X11_body 17 rfl) rfl k) h
theorem k_11_voice_0 {X : Cx} {d : Nat} {κ : Km} {Q : Res → Km → Prop} (x1 : Int32) (x2 : Int32) (h : ∃ e1 : Nat, e1 + 1 ≤ d ∧ KC' X e1 MX11_plays [vR 64] κ (kRI fun y4 κ5 => ((y4 = 0 → Q (.inl (some (vI (-2)))) κ5) ∧ (¬ y4 = 0 → ∃ e8 : Nat, e8 + 1 ≤ d ∧ KC' X e8 MX7_at [vR 67, vI x1] κ5 (kRR fun p11 κ12 => (p11 = 0 ∨ live κ12 p11) ∧ ((p11 = 0 → K X d MX11_voice 30 [(0, vR 64), (1, vI x1), (2, vI x2), (3, vR p11)] [] κ12 Q) ∧ (¬ p11 = 0 → (isH κ12 p11 0) ∧ (((kI κ12 p11 2) = 0 → K X d MX11_voice 30 [(0, vR 64), (1, vI x1), (2, vI x2), (3, vR p11)] [] κ12 Q) ∧ (¬ (kI κ12 p11 2) = 0 → ∃ e18 : Nat, e18 + 1 ≤ d ∧ KC' X e18 MX6_isFull [vR 79] κ12 (kRI fun y21 κ22 => ((y21 = 0 → (((kI κ22 p11 4) = 0 → K X d MX11_voice 64 [(0, vR 64), (1, vI x1), (2, vI x2), (3, vR p11)] [vI 0, vI x1, vR 79] κ22 Q) ∧ (¬ (kI κ22 p11 4) = 0 → K X d MX11_voice 64 [(0, vR 64), (1, vI x1), (2, vI x2), (3, vR p11)] [vI x2, vI x1, vR 79] κ22 Q))) ∧ (¬ y21 = 0 → K X d MX11_voice 68 [(0, vR 64), (1, vI x1), (2, vI x2), (3, vR p11)] [vI (-3)] κ22 Q)))))))))))) : K X d MX11_voice 0 [(0, vR 64), (1, vI x1), (2, vI x2)] [] κ Q := by
  refine K_p (pc2 := 1) (lv2 := [(0, vR 64), (1, vI _), (2, vI _)]) (st2 := [vR 64]) (fun ad S Q _ k => V_aload_n (pc2 := 1) (dk D_X11_voice 0 rfl) rfl (V_lg 0 rfl) rfl k) ?_
  obtain ⟨e1, he2, hc3⟩ := h
  refine K_call (as := [vR 64]) (st := []) (pc2 := 4) (okL.all _ ⟨(Or.inr ⟨Or.inl ⟨by decide, by decide⟩, by decide⟩), trivial, trivial, trivial⟩) (okS.all _ trivial) (fun ad S Q Qc hC hc k => V_callV (as := []) (st := []) (M' := MX11_plays) (ci := 11) (pc2 := 4) (dk D_X11_voice 1 rfl) ml_11_92 mv_X11_plays rfl rfl (by decide) rfl (Nat.le_of_ble_eq_true rfl) rfl he2 (hC.k' (fixH 64 11 (by decide) rfl)) hc k) hc3 (kRI.k fun y4 κ5 h mo6 => ?_)
  refine K_if (pa := 7) (pb := 10) (lv2 := [(0, vR 64), (1, vI _), (2, vI _)]) (st2 := []) (fun ad S Q _ k1 k2 => V_ifne (tgt := 10) (pc2 := 7) (dk D_X11_voice 2 rfl) (by decide) rfl (fun q => k2 q) (fun q => k1 q)) (fun q7 => ?_) (fun q7 => ?_)
  · have h := h.1 q7
    refine K_p (pc2 := 9) (lv2 := [(0, vR 64), (1, vI _), (2, vI _)]) (st2 := [vI _]) (fun ad S Q _ k => V_bipush (x := (-2)) (pc2 := 9) (dk D_X11_voice 3 rfl) (by decide) rfl k) ?_
    exact K_ret (r := .inl (some (vI _))) (fun ad S Q _ k => V_ireturn (dk D_X11_voice 4 rfl) rfl k) h
  · have h := h.2 q7
    refine K_p (pc2 := 11) (lv2 := [(0, vR 64), (1, vI _), (2, vI _)]) (st2 := [vR 64]) (fun ad S Q _ k => V_aload_n (pc2 := 11) (dk D_X11_voice 5 rfl) rfl (V_lg 0 rfl) rfl k) ?_
    refine K_getF kc11 (h' := 67) (pc2 := 14) 1 (by decide) (dk D_X11_voice 6 rfl) fl_11_19 (by decide) (fun _ _ => rfl) rfl (fixH 64 11 (by decide) rfl) (by decide) ?_
    refine K_p (pc2 := 15) (lv2 := [(0, vR 64), (1, vI _), (2, vI _)]) (st2 := [vI _, vR 67]) (fun ad S Q _ k => V_iload_n (pc2 := 15) (dk D_X11_voice 7 rfl) rfl (V_lg 1 rfl) rfl k) ?_
    obtain ⟨e8, he9, hc10⟩ := h
    refine K_call (as := [vR 67, vI _]) (st := []) (pc2 := 18) (okL.all _ ⟨(Or.inr ⟨Or.inl ⟨by decide, by decide⟩, by decide⟩), trivial, trivial, trivial⟩) (okS.all _ trivial) (fun ad S Q Qc hC hc k => V_callV (as := [_]) (st := []) (M' := MX7_at) (ci := 7) (pc2 := 18) (dk D_X11_voice 8 rfl) ml_11_82 mv_X7_at rfl rfl (by decide) rfl (Nat.le_of_ble_eq_true rfl) rfl he9 (hC.k' (fixH 67 7 (by decide) rfl)) hc k) hc10 (kRR.k fun p11 κ12 h mo13 => ?_)
    refine K_p (pc2 := 19) (lv2 := [(0, vR 64), (1, vI _), (2, vI _), (3, vR _)]) (st2 := []) (fun ad S Q _ k => V_astore_n (pc2 := 19) (lv2 := [(0, _), (1, _), (2, _), (3, _)]) (dk D_X11_voice 9 rfl) rfl (by decide) rfl rfl k) ?_
    refine K_p (pc2 := 20) (lv2 := [(0, vR 64), (1, vI _), (2, vI _), (3, vR _)]) (st2 := [vR _]) (fun ad S Q _ k => V_aload_n (pc2 := 20) (dk D_X11_voice 10 rfl) rfl (V_lg 3 rfl) rfl k) ?_
    obtain ⟨h15, h⟩ := h
    refine K_ifnull (tgt := 30) (pc2 := 23) (dk D_X11_voice 11 rfl) (by decide) rfl h15 (fun q14 => ?_) (fun q14 => ?_)
    · have h := h.1 q14
      exact h
    · have h := h.2 q14
      refine K_p (pc2 := 24) (lv2 := [(0, vR 64), (1, vI _), (2, vI _), (3, vR _)]) (st2 := [vR _]) (fun ad S Q _ k => V_aload_n (pc2 := 24) (dk D_X11_voice 12 rfl) rfl (V_lg 3 rfl) rfl k) ?_
      obtain ⟨h16, h⟩ := h
      refine K_getI kc0 (pc2 := 27) 2 (dk D_X11_voice 13 rfl) fl_11_96 (by decide) (fun _ _ => rfl) rfl h16 ?_
      refine K_if (pa := 30) (pb := 32) (lv2 := [(0, vR 64), (1, vI _), (2, vI _), (3, vR _)]) (st2 := []) (fun ad S Q _ k1 k2 => V_ifne (tgt := 32) (pc2 := 30) (dk D_X11_voice 14 rfl) (by decide) rfl (fun q => k2 q) (fun q => k1 q)) (fun q17 => ?_) (fun q17 => ?_)
      · have h := h.1 q17
        exact h
      · have h := h.2 q17
        refine K_p (pc2 := 33) (lv2 := [(0, vR 64), (1, vI _), (2, vI _), (3, vR _)]) (st2 := [vR 64]) (fun ad S Q _ k => V_aload_n (pc2 := 33) (dk D_X11_voice 17 rfl) rfl (V_lg 0 rfl) rfl k) ?_
        refine K_getF kc11 (h' := 79) (pc2 := 36) 4 (by decide) (dk D_X11_voice 18 rfl) fl_11_49 (by decide) (fun _ _ => rfl) rfl (fixH 64 11 (by decide) rfl) (by decide) ?_
        obtain ⟨e18, he19, hc20⟩ := h
        refine K_call (as := [vR 79]) (st := []) (pc2 := 39) (okL.all _ ⟨(Or.inr ⟨Or.inl ⟨by decide, by decide⟩, by decide⟩), trivial, trivial, (isH.ok h16 (by decide)), trivial⟩) (okS.all _ trivial) (fun ad S Q Qc hC hc k => V_callV (as := []) (st := []) (M' := MX6_isFull) (ci := 6) (pc2 := 39) (dk D_X11_voice 19 rfl) ml_11_99 mv_X6_isFull rfl rfl (by decide) rfl (Nat.le_of_ble_eq_true rfl) rfl he19 (hC.k' (fixH 79 6 (by decide) rfl)) hc k) hc20 (kRI.k fun y21 κ22 h mo23 => ?_)
        refine K_if (pa := 47) (pb := 42) (lv2 := [(0, vR 64), (1, vI _), (2, vI _), (3, vR _)]) (st2 := []) (fun ad S Q _ k1 k2 => V_ifeq (tgt := 47) (pc2 := 42) (dk D_X11_voice 20 rfl) (by decide) rfl (fun q => k1 q) (fun q => k2 q)) (fun q24 => ?_) (fun q24 => ?_)
        · have h := h.1 q24
          refine K_p (pc2 := 48) (lv2 := [(0, vR 64), (1, vI _), (2, vI _), (3, vR _)]) (st2 := [vR 64]) (fun ad S Q _ k => V_aload_n (pc2 := 48) (dk D_X11_voice 23 rfl) rfl (V_lg 0 rfl) rfl k) ?_
          refine K_getF kc11 (h' := 79) (pc2 := 51) 4 (by decide) (dk D_X11_voice 24 rfl) fl_11_49 (by decide) (fun _ _ => rfl) rfl (fixH 64 11 (by decide) rfl) (by decide) ?_
          refine K_p (pc2 := 52) (lv2 := [(0, vR 64), (1, vI _), (2, vI _), (3, vR _)]) (st2 := [vI _, vR 79]) (fun ad S Q _ k => V_iload_n (pc2 := 52) (dk D_X11_voice 25 rfl) rfl (V_lg 1 rfl) rfl k) ?_
          refine K_p (pc2 := 53) (lv2 := [(0, vR 64), (1, vI _), (2, vI _), (3, vR _)]) (st2 := [vR _, vI _, vR 79]) (fun ad S Q _ k => V_aload_n (pc2 := 53) (dk D_X11_voice 26 rfl) rfl (V_lg 3 rfl) rfl k) ?_
          refine K_getI kc0 (pc2 := 56) 4 (dk D_X11_voice 27 rfl) fl_11_102 (by decide) (fun _ _ => rfl) rfl (isH.mo h16 (by decide) mo23) ?_
          refine K_if (pa := 59) (pb := 63) (lv2 := [(0, vR 64), (1, vI _), (2, vI _), (3, vR _)]) (st2 := [vI _, vR 79]) (fun ad S Q _ k1 k2 => V_ifne (tgt := 63) (pc2 := 59) (dk D_X11_voice 28 rfl) (by decide) rfl (fun q => k2 q) (fun q => k1 q)) (fun q25 => ?_) (fun q25 => ?_)
          · have h := h.1 q25
            refine K_p (pc2 := 60) (lv2 := [(0, vR 64), (1, vI _), (2, vI _), (3, vR _)]) (st2 := [vI _, vI _, vR 79]) (fun ad S Q _ k => V_iconst (x := 0) (pc2 := 60) (dk D_X11_voice 29 rfl) (by decide) rfl k) ?_
            refine K_p (pc2 := 64) (lv2 := [(0, vR 64), (1, vI _), (2, vI _), (3, vR _)]) (st2 := [vI _, vI _, vR 79]) (fun ad S Q _ k => V_goto (tgt := 64) (dk D_X11_voice 30 rfl) (by decide) k) ?_
            exact h
          · have h := h.2 q25
            refine K_p (pc2 := 64) (lv2 := [(0, vR 64), (1, vI _), (2, vI _), (3, vR _)]) (st2 := [vI _, vI _, vR 79]) (fun ad S Q _ k => V_iload_n (pc2 := 64) (dk D_X11_voice 31 rfl) rfl (V_lg 2 rfl) rfl k) ?_
            exact h
        · have h := h.2 q24
          refine K_p (pc2 := 44) (lv2 := [(0, vR 64), (1, vI _), (2, vI _), (3, vR _)]) (st2 := [vI _]) (fun ad S Q _ k => V_bipush (x := (-3)) (pc2 := 44) (dk D_X11_voice 21 rfl) (by decide) rfl k) ?_
          refine K_p (pc2 := 68) (lv2 := [(0, vR 64), (1, vI _), (2, vI _), (3, vR _)]) (st2 := [vI _]) (fun ad S Q _ k => V_goto (tgt := 68) (dk D_X11_voice 22 rfl) (by decide) k) ?_
          exact h
theorem k_11_voice_30 {X : Cx} {d : Nat} {κ : Km} {Q : Res → Km → Prop} (x1 : Int32) (x2 : Int32) (r3 : Nat) (h : Q (.inl (some (vI (-1)))) κ) : K X d MX11_voice 30 [(0, vR 64), (1, vI x1), (2, vI x2), (3, vR r3)] [] κ Q := by
  refine K_p (pc2 := 31) (lv2 := [(0, vR 64), (1, vI _), (2, vI _), (3, vR _)]) (st2 := [vI _]) (fun ad S Q _ k => V_iconst (x := (-1)) (pc2 := 31) (dk D_X11_voice 15 rfl) (by decide) rfl k) ?_
  exact K_ret (r := .inl (some (vI _))) (fun ad S Q _ k => V_ireturn (dk D_X11_voice 16 rfl) rfl k) h
theorem k_11_voice_64 {X : Cx} {d : Nat} {κ : Km} {Q : Res → Km → Prop} (x1 : Int32) (x2 : Int32) (r3 : Nat) (t1 : Int32) (t2 : Int32) (h : (isH κ r3 0) ∧ ∃ e1 : Nat, e1 + 1 ≤ d ∧ KC' X e1 MX6_make [vR 79, vI t1, vI t2, vI 0] κ (kRI fun y4 κ6 => K X d MX11_voice 68 [(0, vR 64), (1, vI x1), (2, vI x2), (3, vR r3)] [vI y4] κ6 Q)) : K X d MX11_voice 64 [(0, vR 64), (1, vI x1), (2, vI x2), (3, vR r3)] [vI t2, vI t1, vR 79] κ Q := by
  refine K_p (pc2 := 65) (lv2 := [(0, vR 64), (1, vI _), (2, vI _), (3, vR _)]) (st2 := [vI _, vI _, vI _, vR 79]) (fun ad S Q _ k => V_iconst (x := 0) (pc2 := 65) (dk D_X11_voice 32 rfl) (by decide) rfl k) ?_
  obtain ⟨h5, h⟩ := h
  obtain ⟨e1, he2, hc3⟩ := h
  refine K_call (as := [vR 79, vI _, vI _, vI _]) (st := []) (pc2 := 68) (okL.all _ ⟨(Or.inr ⟨Or.inl ⟨by decide, by decide⟩, by decide⟩), trivial, trivial, (isH.ok h5 (by decide)), trivial⟩) (okS.all _ trivial) (fun ad S Q Qc hC hc k => V_callV (as := [_, _, _]) (st := []) (M' := MX6_make) (ci := 6) (pc2 := 68) (dk D_X11_voice 33 rfl) ml_11_106 mv_X6_make rfl rfl (by decide) rfl (Nat.le_of_ble_eq_true rfl) rfl he2 (hC.k' (fixH 79 6 (by decide) rfl)) hc k) hc3 (kRI.k fun y4 κ6 h mo7 => ?_)
  exact h
theorem k_11_voice_68 {X : Cx} {d : Nat} {κ : Km} {Q : Res → Km → Prop} (x1 : Int32) (x2 : Int32) (r3 : Nat) (t0 : Int32) (h : Q (.inl (some (vI t0))) κ) : K X d MX11_voice 68 [(0, vR 64), (1, vI x1), (2, vI x2), (3, vR r3)] [vI t0] κ Q := by
  exact K_ret (r := .inl (some (vI _))) (fun ad S Q _ k => V_ireturn (dk D_X11_voice 34 rfl) rfl k) h
theorem k_11_resume_0 {X : Cx} {d : Nat} {κ : Km} {Q : Res → Km → Prop} (x1 : Int32) (x2 : Int32) (h : ∃ e1 : Nat, e1 + 1 ≤ d ∧ KC' X e1 MX11_plays [vR 64] κ (kRI fun y4 κ5 => ((y4 = 0 → Q (.inl (some (vI (-2)))) κ5) ∧ (¬ y4 = 0 → ∃ e8 : Nat, e8 + 1 ≤ d ∧ KC' X e8 MX6_find [vR 79, vI x1] κ5 (kRR fun p11 κ12 => (p11 = 0 ∨ live κ12 p11) ∧ ((p11 = 0 → Q (.inl (some (vI (-1)))) κ12) ∧ (¬ p11 = 0 → (isH κ12 p11 10) ∧ ∃ e16 : Nat, e16 + 1 ≤ d ∧ KC' X e16 MX10_isOver [vR p11] κ12 (kRI fun y19 κ21 => ((y19 = 0 → ∃ e24 : Nat, e24 + 1 ≤ d ∧ KC' X e24 MX6_deskResumes [vR 79, vR p11, vI x2] κ21 (kRV fun  κ27 => ∃ e29 : Nat, e29 + 1 ≤ d ∧ KC' X e29 MX6_run [vR 79] κ27 (kRV fun  κ32 => ∃ e34 : Nat, e34 + 1 ≤ d ∧ KC' X e34 MX6_outcome [vR 79] κ32 (kRI fun y37 κ38 => Q (.inl (some (vI y37))) κ38)))) ∧ (¬ y19 = 0 → Q (.inl (some (vI 3))) κ21)))))))))) : K X d MX11_resume 0 [(0, vR 64), (1, vI x1), (2, vI x2)] [] κ Q := by
  refine K_p (pc2 := 1) (lv2 := [(0, vR 64), (1, vI _), (2, vI _)]) (st2 := [vR 64]) (fun ad S Q _ k => V_aload_n (pc2 := 1) (dk D_X11_resume 0 rfl) rfl (V_lg 0 rfl) rfl k) ?_
  obtain ⟨e1, he2, hc3⟩ := h
  refine K_call (as := [vR 64]) (st := []) (pc2 := 4) (okL.all _ ⟨(Or.inr ⟨Or.inl ⟨by decide, by decide⟩, by decide⟩), trivial, trivial, trivial⟩) (okS.all _ trivial) (fun ad S Q Qc hC hc k => V_callV (as := []) (st := []) (M' := MX11_plays) (ci := 11) (pc2 := 4) (dk D_X11_resume 1 rfl) ml_11_92 mv_X11_plays rfl rfl (by decide) rfl (Nat.le_of_ble_eq_true rfl) rfl he2 (hC.k' (fixH 64 11 (by decide) rfl)) hc k) hc3 (kRI.k fun y4 κ5 h mo6 => ?_)
  refine K_if (pa := 7) (pb := 10) (lv2 := [(0, vR 64), (1, vI _), (2, vI _)]) (st2 := []) (fun ad S Q _ k1 k2 => V_ifne (tgt := 10) (pc2 := 7) (dk D_X11_resume 2 rfl) (by decide) rfl (fun q => k2 q) (fun q => k1 q)) (fun q7 => ?_) (fun q7 => ?_)
  · have h := h.1 q7
    refine K_p (pc2 := 9) (lv2 := [(0, vR 64), (1, vI _), (2, vI _)]) (st2 := [vI _]) (fun ad S Q _ k => V_bipush (x := (-2)) (pc2 := 9) (dk D_X11_resume 3 rfl) (by decide) rfl k) ?_
    exact K_ret (r := .inl (some (vI _))) (fun ad S Q _ k => V_ireturn (dk D_X11_resume 4 rfl) rfl k) h
  · have h := h.2 q7
    refine K_p (pc2 := 11) (lv2 := [(0, vR 64), (1, vI _), (2, vI _)]) (st2 := [vR 64]) (fun ad S Q _ k => V_aload_n (pc2 := 11) (dk D_X11_resume 5 rfl) rfl (V_lg 0 rfl) rfl k) ?_
    refine K_getF kc11 (h' := 79) (pc2 := 14) 4 (by decide) (dk D_X11_resume 6 rfl) fl_11_49 (by decide) (fun _ _ => rfl) rfl (fixH 64 11 (by decide) rfl) (by decide) ?_
    refine K_p (pc2 := 15) (lv2 := [(0, vR 64), (1, vI _), (2, vI _)]) (st2 := [vI _, vR 79]) (fun ad S Q _ k => V_iload_n (pc2 := 15) (dk D_X11_resume 7 rfl) rfl (V_lg 1 rfl) rfl k) ?_
    obtain ⟨e8, he9, hc10⟩ := h
    refine K_call (as := [vR 79, vI _]) (st := []) (pc2 := 18) (okL.all _ ⟨(Or.inr ⟨Or.inl ⟨by decide, by decide⟩, by decide⟩), trivial, trivial, trivial⟩) (okS.all _ trivial) (fun ad S Q Qc hC hc k => V_callV (as := [_]) (st := []) (M' := MX6_find) (ci := 6) (pc2 := 18) (dk D_X11_resume 8 rfl) ml_11_110 mv_X6_find rfl rfl (by decide) rfl (Nat.le_of_ble_eq_true rfl) rfl he9 (hC.k' (fixH 79 6 (by decide) rfl)) hc k) hc10 (kRR.k fun p11 κ12 h mo13 => ?_)
    refine K_p (pc2 := 19) (lv2 := [(0, vR 64), (1, vI _), (2, vI _), (3, vR _)]) (st2 := []) (fun ad S Q _ k => V_astore_n (pc2 := 19) (lv2 := [(0, _), (1, _), (2, _), (3, _)]) (dk D_X11_resume 9 rfl) rfl (by decide) rfl rfl k) ?_
    refine K_p (pc2 := 20) (lv2 := [(0, vR 64), (1, vI _), (2, vI _), (3, vR _)]) (st2 := [vR _]) (fun ad S Q _ k => V_aload_n (pc2 := 20) (dk D_X11_resume 10 rfl) rfl (V_lg 3 rfl) rfl k) ?_
    obtain ⟨h15, h⟩ := h
    refine K_ifnonnull (tgt := 25) (pc2 := 23) (dk D_X11_resume 11 rfl) (by decide) rfl h15 (fun q14 => ?_) (fun q14 => ?_)
    · have h := h.1 q14
      refine K_p (pc2 := 24) (lv2 := [(0, vR 64), (1, vI _), (2, vI _), (3, vR _)]) (st2 := [vI _]) (fun ad S Q _ k => V_iconst (x := (-1)) (pc2 := 24) (dk D_X11_resume 12 rfl) (by decide) rfl k) ?_
      exact K_ret (r := .inl (some (vI _))) (fun ad S Q _ k => V_ireturn (dk D_X11_resume 13 rfl) rfl k) h
    · have h := h.2 q14
      refine K_p (pc2 := 26) (lv2 := [(0, vR 64), (1, vI _), (2, vI _), (3, vR _)]) (st2 := [vR _]) (fun ad S Q _ k => V_aload_n (pc2 := 26) (dk D_X11_resume 14 rfl) rfl (V_lg 3 rfl) rfl k) ?_
      obtain ⟨h20, h⟩ := h
      obtain ⟨e16, he17, hc18⟩ := h
      refine K_call (as := [vR _]) (st := []) (pc2 := 29) (okL.all _ ⟨(Or.inr ⟨Or.inl ⟨by decide, by decide⟩, by decide⟩), trivial, trivial, (isH.ok h20 (by decide)), trivial⟩) (okS.all _ trivial) (fun ad S Q Qc hC hc k => V_callV (as := []) (st := []) (M' := MX10_isOver) (ci := 10) (pc2 := 29) (dk D_X11_resume 15 rfl) ml_11_114 mv_X10_isOver rfl rfl (by decide) rfl (Nat.le_of_ble_eq_true rfl) rfl he17 (hC.k' h20) hc k) hc18 (kRI.k fun y19 κ21 h mo22 => ?_)
      refine K_if (pa := 34) (pb := 32) (lv2 := [(0, vR 64), (1, vI _), (2, vI _), (3, vR _)]) (st2 := []) (fun ad S Q _ k1 k2 => V_ifeq (tgt := 34) (pc2 := 32) (dk D_X11_resume 16 rfl) (by decide) rfl (fun q => k1 q) (fun q => k2 q)) (fun q23 => ?_) (fun q23 => ?_)
      · have h := h.1 q23
        refine K_p (pc2 := 35) (lv2 := [(0, vR 64), (1, vI _), (2, vI _), (3, vR _)]) (st2 := [vR 64]) (fun ad S Q _ k => V_aload_n (pc2 := 35) (dk D_X11_resume 19 rfl) rfl (V_lg 0 rfl) rfl k) ?_
        refine K_getF kc11 (h' := 79) (pc2 := 38) 4 (by decide) (dk D_X11_resume 20 rfl) fl_11_49 (by decide) (fun _ _ => rfl) rfl (fixH 64 11 (by decide) rfl) (by decide) ?_
        refine K_p (pc2 := 39) (lv2 := [(0, vR 64), (1, vI _), (2, vI _), (3, vR _)]) (st2 := [vR _, vR 79]) (fun ad S Q _ k => V_aload_n (pc2 := 39) (dk D_X11_resume 21 rfl) rfl (V_lg 3 rfl) rfl k) ?_
        refine K_p (pc2 := 40) (lv2 := [(0, vR 64), (1, vI _), (2, vI _), (3, vR _)]) (st2 := [vI _, vR _, vR 79]) (fun ad S Q _ k => V_iload_n (pc2 := 40) (dk D_X11_resume 22 rfl) rfl (V_lg 2 rfl) rfl k) ?_
        obtain ⟨e24, he25, hc26⟩ := h
        refine K_call (as := [vR 79, vR _, vI _]) (st := []) (pc2 := 43) (okL.all _ ⟨(Or.inr ⟨Or.inl ⟨by decide, by decide⟩, by decide⟩), trivial, trivial, (isH.ok (isH.mo h20 (by decide) mo22) (by decide)), trivial⟩) (okS.all _ trivial) (fun ad S Q Qc hC hc k => V_callV (as := [_, _]) (st := []) (M' := MX6_deskResumes) (ci := 6) (pc2 := 43) (dk D_X11_resume 23 rfl) ml_11_119 mv_X6_deskResumes rfl rfl (by decide) rfl (Nat.le_of_ble_eq_true rfl) rfl he25 (hC.k' (fixH 79 6 (by decide) rfl)) hc k) hc26 (kRV.k fun  κ27 h mo28 => ?_)
        refine K_p (pc2 := 44) (lv2 := [(0, vR 64), (1, vI _), (2, vI _), (3, vR _)]) (st2 := [vR 64]) (fun ad S Q _ k => V_aload_n (pc2 := 44) (dk D_X11_resume 24 rfl) rfl (V_lg 0 rfl) rfl k) ?_
        refine K_getF kc11 (h' := 79) (pc2 := 47) 4 (by decide) (dk D_X11_resume 25 rfl) fl_11_49 (by decide) (fun _ _ => rfl) rfl (fixH 64 11 (by decide) rfl) (by decide) ?_
        obtain ⟨e29, he30, hc31⟩ := h
        refine K_call (as := [vR 79]) (st := []) (pc2 := 50) (okL.all _ ⟨(Or.inr ⟨Or.inl ⟨by decide, by decide⟩, by decide⟩), trivial, trivial, (isH.ok (isH.mo (isH.mo h20 (by decide) mo22) (by decide) mo28) (by decide)), trivial⟩) (okS.all _ trivial) (fun ad S Q Qc hC hc k => V_callV (as := []) (st := []) (M' := MX6_run) (ci := 6) (pc2 := 50) (dk D_X11_resume 26 rfl) ml_11_123 mv_X6_run rfl rfl (by decide) rfl (Nat.le_of_ble_eq_true rfl) rfl he30 (hC.k' (fixH 79 6 (by decide) rfl)) hc k) hc31 (kRV.k fun  κ32 h mo33 => ?_)
        refine K_p (pc2 := 51) (lv2 := [(0, vR 64), (1, vI _), (2, vI _), (3, vR _)]) (st2 := [vR 64]) (fun ad S Q _ k => V_aload_n (pc2 := 51) (dk D_X11_resume 27 rfl) rfl (V_lg 0 rfl) rfl k) ?_
        refine K_getF kc11 (h' := 79) (pc2 := 54) 4 (by decide) (dk D_X11_resume 28 rfl) fl_11_49 (by decide) (fun _ _ => rfl) rfl (fixH 64 11 (by decide) rfl) (by decide) ?_
        obtain ⟨e34, he35, hc36⟩ := h
        refine K_call (as := [vR 79]) (st := []) (pc2 := 57) (okL.all _ ⟨(Or.inr ⟨Or.inl ⟨by decide, by decide⟩, by decide⟩), trivial, trivial, (isH.ok (isH.mo (isH.mo (isH.mo h20 (by decide) mo22) (by decide) mo28) (by decide) mo33) (by decide)), trivial⟩) (okS.all _ trivial) (fun ad S Q Qc hC hc k => V_callV (as := []) (st := []) (M' := MX6_outcome) (ci := 6) (pc2 := 57) (dk D_X11_resume 29 rfl) ml_11_126 mv_X6_outcome rfl rfl (by decide) rfl (Nat.le_of_ble_eq_true rfl) rfl he35 (hC.k' (fixH 79 6 (by decide) rfl)) hc k) hc36 (kRI.k fun y37 κ38 h mo39 => ?_)
        exact K_ret (r := .inl (some (vI _))) (fun ad S Q _ k => V_ireturn (dk D_X11_resume 30 rfl) rfl k) h
      · have h := h.2 q23
        refine K_p (pc2 := 33) (lv2 := [(0, vR 64), (1, vI _), (2, vI _), (3, vR _)]) (st2 := [vI _]) (fun ad S Q _ k => V_iconst (x := 3) (pc2 := 33) (dk D_X11_resume 17 rfl) (by decide) rfl k) ?_
        exact K_ret (r := .inl (some (vI _))) (fun ad S Q _ k => V_ireturn (dk D_X11_resume 18 rfl) rfl k) h
theorem k_11_inject_0 {X : Cx} {d : Nat} {κ : Km} {Q : Res → Km → Prop} (x1 : Int32) (x2 : Int32) (x3 : Int32) (h : ∃ e1 : Nat, e1 + 1 ≤ d ∧ KC' X e1 MX11_plays [vR 64] κ (kRI fun y4 κ5 => ((y4 = 0 → Q (.inl (some (vI (-2)))) κ5) ∧ (¬ y4 = 0 → ∃ e8 : Nat, e8 + 1 ≤ d ∧ KC' X e8 MX6_find [vR 79, vI x1] κ5 (kRR fun p11 κ12 => (p11 = 0 ∨ live κ12 p11) ∧ ((p11 = 0 → K X d MX11_inject 35 [(0, vR 64), (1, vI x1), (2, vI x2), (3, vI x3), (4, vR p11)] [] κ12 Q) ∧ (¬ p11 = 0 → ((x2 < 0 → K X d MX11_inject 35 [(0, vR 64), (1, vI x1), (2, vI x2), (3, vI x3), (4, vR p11)] [] κ12 Q) ∧ (¬ x2 < 0 → ((x2 ≤ 9 → (isH κ12 p11 10) ∧ ∃ e18 : Nat, e18 + 1 ≤ d ∧ KC' X e18 MX10_isOver [vR p11] κ12 (kRI fun y21 κ23 => ((y21 = 0 → ∃ e26 : Nat, e26 + 1 ≤ d ∧ KC' X e26 MX6_deskInjects [vR 79, vR p11, vI x2, vI x3] κ23 (kRV fun  κ29 => ∃ e31 : Nat, e31 + 1 ≤ d ∧ KC' X e31 MX6_run [vR 79] κ29 (kRV fun  κ34 => ∃ e36 : Nat, e36 + 1 ≤ d ∧ KC' X e36 MX6_outcome [vR 79] κ34 (kRI fun y39 κ40 => Q (.inl (some (vI y39))) κ40)))) ∧ (¬ y21 = 0 → Q (.inl (some (vI 3))) κ23)))) ∧ (¬ x2 ≤ 9 → K X d MX11_inject 35 [(0, vR 64), (1, vI x1), (2, vI x2), (3, vI x3), (4, vR p11)] [] κ12 Q))))))))))) : K X d MX11_inject 0 [(0, vR 64), (1, vI x1), (2, vI x2), (3, vI x3)] [] κ Q := by
  refine K_p (pc2 := 1) (lv2 := [(0, vR 64), (1, vI _), (2, vI _), (3, vI _)]) (st2 := [vR 64]) (fun ad S Q _ k => V_aload_n (pc2 := 1) (dk D_X11_inject 0 rfl) rfl (V_lg 0 rfl) rfl k) ?_
  obtain ⟨e1, he2, hc3⟩ := h
  refine K_call (as := [vR 64]) (st := []) (pc2 := 4) (okL.all _ ⟨(Or.inr ⟨Or.inl ⟨by decide, by decide⟩, by decide⟩), trivial, trivial, trivial, trivial⟩) (okS.all _ trivial) (fun ad S Q Qc hC hc k => V_callV (as := []) (st := []) (M' := MX11_plays) (ci := 11) (pc2 := 4) (dk D_X11_inject 1 rfl) ml_11_92 mv_X11_plays rfl rfl (by decide) rfl (Nat.le_of_ble_eq_true rfl) rfl he2 (hC.k' (fixH 64 11 (by decide) rfl)) hc k) hc3 (kRI.k fun y4 κ5 h mo6 => ?_)
  refine K_if (pa := 7) (pb := 10) (lv2 := [(0, vR 64), (1, vI _), (2, vI _), (3, vI _)]) (st2 := []) (fun ad S Q _ k1 k2 => V_ifne (tgt := 10) (pc2 := 7) (dk D_X11_inject 2 rfl) (by decide) rfl (fun q => k2 q) (fun q => k1 q)) (fun q7 => ?_) (fun q7 => ?_)
  · have h := h.1 q7
    refine K_p (pc2 := 9) (lv2 := [(0, vR 64), (1, vI _), (2, vI _), (3, vI _)]) (st2 := [vI _]) (fun ad S Q _ k => V_bipush (x := (-2)) (pc2 := 9) (dk D_X11_inject 3 rfl) (by decide) rfl k) ?_
    exact K_ret (r := .inl (some (vI _))) (fun ad S Q _ k => V_ireturn (dk D_X11_inject 4 rfl) rfl k) h
  · have h := h.2 q7
    refine K_p (pc2 := 11) (lv2 := [(0, vR 64), (1, vI _), (2, vI _), (3, vI _)]) (st2 := [vR 64]) (fun ad S Q _ k => V_aload_n (pc2 := 11) (dk D_X11_inject 5 rfl) rfl (V_lg 0 rfl) rfl k) ?_
    refine K_getF kc11 (h' := 79) (pc2 := 14) 4 (by decide) (dk D_X11_inject 6 rfl) fl_11_49 (by decide) (fun _ _ => rfl) rfl (fixH 64 11 (by decide) rfl) (by decide) ?_
    refine K_p (pc2 := 15) (lv2 := [(0, vR 64), (1, vI _), (2, vI _), (3, vI _)]) (st2 := [vI _, vR 79]) (fun ad S Q _ k => V_iload_n (pc2 := 15) (dk D_X11_inject 7 rfl) rfl (V_lg 1 rfl) rfl k) ?_
    obtain ⟨e8, he9, hc10⟩ := h
    refine K_call (as := [vR 79, vI _]) (st := []) (pc2 := 18) (okL.all _ ⟨(Or.inr ⟨Or.inl ⟨by decide, by decide⟩, by decide⟩), trivial, trivial, trivial, trivial⟩) (okS.all _ trivial) (fun ad S Q Qc hC hc k => V_callV (as := [_]) (st := []) (M' := MX6_find) (ci := 6) (pc2 := 18) (dk D_X11_inject 8 rfl) ml_11_110 mv_X6_find rfl rfl (by decide) rfl (Nat.le_of_ble_eq_true rfl) rfl he9 (hC.k' (fixH 79 6 (by decide) rfl)) hc k) hc10 (kRR.k fun p11 κ12 h mo13 => ?_)
    refine K_p (pc2 := 20) (lv2 := [(0, vR 64), (1, vI _), (2, vI _), (3, vI _), (4, vR _)]) (st2 := []) (fun ad S Q _ k => V_astore (pc2 := 20) (lv2 := [(0, _), (1, _), (2, _), (3, _), (4, _)]) (dk D_X11_inject 9 rfl) (by decide) rfl rfl k) ?_
    refine K_p (pc2 := 22) (lv2 := [(0, vR 64), (1, vI _), (2, vI _), (3, vI _), (4, vR _)]) (st2 := [vR _]) (fun ad S Q _ k => V_aload (pc2 := 22) (dk D_X11_inject 10 rfl) (V_lg 4 rfl) rfl k) ?_
    obtain ⟨h15, h⟩ := h
    refine K_ifnull (tgt := 35) (pc2 := 25) (dk D_X11_inject 11 rfl) (by decide) rfl h15 (fun q14 => ?_) (fun q14 => ?_)
    · have h := h.1 q14
      exact h
    · have h := h.2 q14
      refine K_p (pc2 := 26) (lv2 := [(0, vR 64), (1, vI _), (2, vI _), (3, vI _), (4, vR _)]) (st2 := [vI _]) (fun ad S Q _ k => V_iload_n (pc2 := 26) (dk D_X11_inject 12 rfl) rfl (V_lg 2 rfl) rfl k) ?_
      refine K_if (pa := 35) (pb := 29) (lv2 := [(0, vR 64), (1, vI _), (2, vI _), (3, vI _), (4, vR _)]) (st2 := []) (fun ad S Q _ k1 k2 => V_iflt (tgt := 35) (pc2 := 29) (dk D_X11_inject 13 rfl) (by decide) rfl (fun q => k1 q) (fun q => k2 q)) (fun q16 => ?_) (fun q16 => ?_)
      · have h := h.1 q16
        exact h
      · have h := h.2 q16
        refine K_p (pc2 := 30) (lv2 := [(0, vR 64), (1, vI _), (2, vI _), (3, vI _), (4, vR _)]) (st2 := [vI _]) (fun ad S Q _ k => V_iload_n (pc2 := 30) (dk D_X11_inject 14 rfl) rfl (V_lg 2 rfl) rfl k) ?_
        refine K_p (pc2 := 32) (lv2 := [(0, vR 64), (1, vI _), (2, vI _), (3, vI _), (4, vR _)]) (st2 := [vI _, vI _]) (fun ad S Q _ k => V_bipush (x := 9) (pc2 := 32) (dk D_X11_inject 15 rfl) (by decide) rfl k) ?_
        refine K_if (pa := 37) (pb := 35) (lv2 := [(0, vR 64), (1, vI _), (2, vI _), (3, vI _), (4, vR _)]) (st2 := []) (fun ad S Q _ k1 k2 => V_cmple (tgt := 37) (pc2 := 35) (dk D_X11_inject 16 rfl) (by decide) rfl (fun q => k1 q) (fun q => k2 q)) (fun q17 => ?_) (fun q17 => ?_)
        · have h := h.1 q17
          refine K_p (pc2 := 39) (lv2 := [(0, vR 64), (1, vI _), (2, vI _), (3, vI _), (4, vR _)]) (st2 := [vR _]) (fun ad S Q _ k => V_aload (pc2 := 39) (dk D_X11_inject 19 rfl) (V_lg 4 rfl) rfl k) ?_
          obtain ⟨h22, h⟩ := h
          obtain ⟨e18, he19, hc20⟩ := h
          refine K_call (as := [vR _]) (st := []) (pc2 := 42) (okL.all _ ⟨(Or.inr ⟨Or.inl ⟨by decide, by decide⟩, by decide⟩), trivial, trivial, trivial, (isH.ok h22 (by decide)), trivial⟩) (okS.all _ trivial) (fun ad S Q Qc hC hc k => V_callV (as := []) (st := []) (M' := MX10_isOver) (ci := 10) (pc2 := 42) (dk D_X11_inject 20 rfl) ml_11_114 mv_X10_isOver rfl rfl (by decide) rfl (Nat.le_of_ble_eq_true rfl) rfl he19 (hC.k' h22) hc k) hc20 (kRI.k fun y21 κ23 h mo24 => ?_)
          refine K_if (pa := 47) (pb := 45) (lv2 := [(0, vR 64), (1, vI _), (2, vI _), (3, vI _), (4, vR _)]) (st2 := []) (fun ad S Q _ k1 k2 => V_ifeq (tgt := 47) (pc2 := 45) (dk D_X11_inject 21 rfl) (by decide) rfl (fun q => k1 q) (fun q => k2 q)) (fun q25 => ?_) (fun q25 => ?_)
          · have h := h.1 q25
            refine K_p (pc2 := 48) (lv2 := [(0, vR 64), (1, vI _), (2, vI _), (3, vI _), (4, vR _)]) (st2 := [vR 64]) (fun ad S Q _ k => V_aload_n (pc2 := 48) (dk D_X11_inject 24 rfl) rfl (V_lg 0 rfl) rfl k) ?_
            refine K_getF kc11 (h' := 79) (pc2 := 51) 4 (by decide) (dk D_X11_inject 25 rfl) fl_11_49 (by decide) (fun _ _ => rfl) rfl (fixH 64 11 (by decide) rfl) (by decide) ?_
            refine K_p (pc2 := 53) (lv2 := [(0, vR 64), (1, vI _), (2, vI _), (3, vI _), (4, vR _)]) (st2 := [vR _, vR 79]) (fun ad S Q _ k => V_aload (pc2 := 53) (dk D_X11_inject 26 rfl) (V_lg 4 rfl) rfl k) ?_
            refine K_p (pc2 := 54) (lv2 := [(0, vR 64), (1, vI _), (2, vI _), (3, vI _), (4, vR _)]) (st2 := [vI _, vR _, vR 79]) (fun ad S Q _ k => V_iload_n (pc2 := 54) (dk D_X11_inject 27 rfl) rfl (V_lg 2 rfl) rfl k) ?_
            refine K_p (pc2 := 55) (lv2 := [(0, vR 64), (1, vI _), (2, vI _), (3, vI _), (4, vR _)]) (st2 := [vI _, vI _, vR _, vR 79]) (fun ad S Q _ k => V_iload_n (pc2 := 55) (dk D_X11_inject 28 rfl) rfl (V_lg 3 rfl) rfl k) ?_
            obtain ⟨e26, he27, hc28⟩ := h
            refine K_call (as := [vR 79, vR _, vI _, vI _]) (st := []) (pc2 := 58) (okL.all _ ⟨(Or.inr ⟨Or.inl ⟨by decide, by decide⟩, by decide⟩), trivial, trivial, trivial, (isH.ok (isH.mo h22 (by decide) mo24) (by decide)), trivial⟩) (okS.all _ trivial) (fun ad S Q Qc hC hc k => V_callV (as := [_, _, _]) (st := []) (M' := MX6_deskInjects) (ci := 6) (pc2 := 58) (dk D_X11_inject 29 rfl) ml_11_129 mv_X6_deskInjects rfl rfl (by decide) rfl (Nat.le_of_ble_eq_true rfl) rfl he27 (hC.k' (fixH 79 6 (by decide) rfl)) hc k) hc28 (kRV.k fun  κ29 h mo30 => ?_)
            refine K_p (pc2 := 59) (lv2 := [(0, vR 64), (1, vI _), (2, vI _), (3, vI _), (4, vR _)]) (st2 := [vR 64]) (fun ad S Q _ k => V_aload_n (pc2 := 59) (dk D_X11_inject 30 rfl) rfl (V_lg 0 rfl) rfl k) ?_
            refine K_getF kc11 (h' := 79) (pc2 := 62) 4 (by decide) (dk D_X11_inject 31 rfl) fl_11_49 (by decide) (fun _ _ => rfl) rfl (fixH 64 11 (by decide) rfl) (by decide) ?_
            obtain ⟨e31, he32, hc33⟩ := h
            refine K_call (as := [vR 79]) (st := []) (pc2 := 65) (okL.all _ ⟨(Or.inr ⟨Or.inl ⟨by decide, by decide⟩, by decide⟩), trivial, trivial, trivial, (isH.ok (isH.mo (isH.mo h22 (by decide) mo24) (by decide) mo30) (by decide)), trivial⟩) (okS.all _ trivial) (fun ad S Q Qc hC hc k => V_callV (as := []) (st := []) (M' := MX6_run) (ci := 6) (pc2 := 65) (dk D_X11_inject 32 rfl) ml_11_123 mv_X6_run rfl rfl (by decide) rfl (Nat.le_of_ble_eq_true rfl) rfl he32 (hC.k' (fixH 79 6 (by decide) rfl)) hc k) hc33 (kRV.k fun  κ34 h mo35 => ?_)
            refine K_p (pc2 := 66) (lv2 := [(0, vR 64), (1, vI _), (2, vI _), (3, vI _), (4, vR _)]) (st2 := [vR 64]) (fun ad S Q _ k => V_aload_n (pc2 := 66) (dk D_X11_inject 33 rfl) rfl (V_lg 0 rfl) rfl k) ?_
            refine K_getF kc11 (h' := 79) (pc2 := 69) 4 (by decide) (dk D_X11_inject 34 rfl) fl_11_49 (by decide) (fun _ _ => rfl) rfl (fixH 64 11 (by decide) rfl) (by decide) ?_
            obtain ⟨e36, he37, hc38⟩ := h
            refine K_call (as := [vR 79]) (st := []) (pc2 := 72) (okL.all _ ⟨(Or.inr ⟨Or.inl ⟨by decide, by decide⟩, by decide⟩), trivial, trivial, trivial, (isH.ok (isH.mo (isH.mo (isH.mo h22 (by decide) mo24) (by decide) mo30) (by decide) mo35) (by decide)), trivial⟩) (okS.all _ trivial) (fun ad S Q Qc hC hc k => V_callV (as := []) (st := []) (M' := MX6_outcome) (ci := 6) (pc2 := 72) (dk D_X11_inject 35 rfl) ml_11_126 mv_X6_outcome rfl rfl (by decide) rfl (Nat.le_of_ble_eq_true rfl) rfl he37 (hC.k' (fixH 79 6 (by decide) rfl)) hc k) hc38 (kRI.k fun y39 κ40 h mo41 => ?_)
            exact K_ret (r := .inl (some (vI _))) (fun ad S Q _ k => V_ireturn (dk D_X11_inject 36 rfl) rfl k) h
          · have h := h.2 q25
            refine K_p (pc2 := 46) (lv2 := [(0, vR 64), (1, vI _), (2, vI _), (3, vI _), (4, vR _)]) (st2 := [vI _]) (fun ad S Q _ k => V_iconst (x := 3) (pc2 := 46) (dk D_X11_inject 22 rfl) (by decide) rfl k) ?_
            exact K_ret (r := .inl (some (vI _))) (fun ad S Q _ k => V_ireturn (dk D_X11_inject 23 rfl) rfl k) h
        · have h := h.2 q17
          exact h
theorem k_11_inject_35 {X : Cx} {d : Nat} {κ : Km} {Q : Res → Km → Prop} (x1 : Int32) (x2 : Int32) (x3 : Int32) (r4 : Nat) (h : Q (.inl (some (vI (-1)))) κ) : K X d MX11_inject 35 [(0, vR 64), (1, vI x1), (2, vI x2), (3, vI x3), (4, vR r4)] [] κ Q := by
  refine K_p (pc2 := 36) (lv2 := [(0, vR 64), (1, vI _), (2, vI _), (3, vI _), (4, vR _)]) (st2 := [vI _]) (fun ad S Q _ k => V_iconst (x := (-1)) (pc2 := 36) (dk D_X11_inject 17 rfl) (by decide) rfl k) ?_
  exact K_ret (r := .inl (some (vI _))) (fun ad S Q _ k => V_ireturn (dk D_X11_inject 18 rfl) rfl k) h
theorem k_11_close_0 {X : Cx} {d : Nat} {κ : Km} {Q : Res → Km → Prop} (x1 : Int32) (h : ∃ e1 : Nat, e1 + 1 ≤ d ∧ KC' X e1 MX11_plays [vR 64] κ (kRI fun y4 κ5 => ((y4 = 0 → Q (.inl (some (vI (-2)))) κ5) ∧ (¬ y4 = 0 → ∃ e8 : Nat, e8 + 1 ≤ d ∧ KC' X e8 MX6_find [vR 79, vI x1] κ5 (kRR fun p11 κ12 => (p11 = 0 ∨ live κ12 p11) ∧ ((p11 = 0 → Q (.inl (some (vI (-1)))) κ12) ∧ (¬ p11 = 0 → (isH κ12 p11 10) ∧ ∃ e16 : Nat, e16 + 1 ≤ d ∧ KC' X e16 MX10_isOver [vR p11] κ12 (kRI fun y19 κ21 => ((y19 = 0 → ∃ e24 : Nat, e24 + 1 ≤ d ∧ KC' X e24 MX6_deskCloses [vR 79, vR p11] κ21 (kRV fun  κ27 => ∃ e29 : Nat, e29 + 1 ≤ d ∧ KC' X e29 MX6_run [vR 79] κ27 (kRV fun  κ32 => ∃ e34 : Nat, e34 + 1 ≤ d ∧ KC' X e34 MX6_outcome [vR 79] κ32 (kRI fun y37 κ38 => Q (.inl (some (vI y37))) κ38)))) ∧ (¬ y19 = 0 → Q (.inl (some (vI 0))) κ21)))))))))) : K X d MX11_close 0 [(0, vR 64), (1, vI x1)] [] κ Q := by
  refine K_p (pc2 := 1) (lv2 := [(0, vR 64), (1, vI _)]) (st2 := [vR 64]) (fun ad S Q _ k => V_aload_n (pc2 := 1) (dk D_X11_close 0 rfl) rfl (V_lg 0 rfl) rfl k) ?_
  obtain ⟨e1, he2, hc3⟩ := h
  refine K_call (as := [vR 64]) (st := []) (pc2 := 4) (okL.all _ ⟨(Or.inr ⟨Or.inl ⟨by decide, by decide⟩, by decide⟩), trivial, trivial⟩) (okS.all _ trivial) (fun ad S Q Qc hC hc k => V_callV (as := []) (st := []) (M' := MX11_plays) (ci := 11) (pc2 := 4) (dk D_X11_close 1 rfl) ml_11_92 mv_X11_plays rfl rfl (by decide) rfl (Nat.le_of_ble_eq_true rfl) rfl he2 (hC.k' (fixH 64 11 (by decide) rfl)) hc k) hc3 (kRI.k fun y4 κ5 h mo6 => ?_)
  refine K_if (pa := 7) (pb := 10) (lv2 := [(0, vR 64), (1, vI _)]) (st2 := []) (fun ad S Q _ k1 k2 => V_ifne (tgt := 10) (pc2 := 7) (dk D_X11_close 2 rfl) (by decide) rfl (fun q => k2 q) (fun q => k1 q)) (fun q7 => ?_) (fun q7 => ?_)
  · have h := h.1 q7
    refine K_p (pc2 := 9) (lv2 := [(0, vR 64), (1, vI _)]) (st2 := [vI _]) (fun ad S Q _ k => V_bipush (x := (-2)) (pc2 := 9) (dk D_X11_close 3 rfl) (by decide) rfl k) ?_
    exact K_ret (r := .inl (some (vI _))) (fun ad S Q _ k => V_ireturn (dk D_X11_close 4 rfl) rfl k) h
  · have h := h.2 q7
    refine K_p (pc2 := 11) (lv2 := [(0, vR 64), (1, vI _)]) (st2 := [vR 64]) (fun ad S Q _ k => V_aload_n (pc2 := 11) (dk D_X11_close 5 rfl) rfl (V_lg 0 rfl) rfl k) ?_
    refine K_getF kc11 (h' := 79) (pc2 := 14) 4 (by decide) (dk D_X11_close 6 rfl) fl_11_49 (by decide) (fun _ _ => rfl) rfl (fixH 64 11 (by decide) rfl) (by decide) ?_
    refine K_p (pc2 := 15) (lv2 := [(0, vR 64), (1, vI _)]) (st2 := [vI _, vR 79]) (fun ad S Q _ k => V_iload_n (pc2 := 15) (dk D_X11_close 7 rfl) rfl (V_lg 1 rfl) rfl k) ?_
    obtain ⟨e8, he9, hc10⟩ := h
    refine K_call (as := [vR 79, vI _]) (st := []) (pc2 := 18) (okL.all _ ⟨(Or.inr ⟨Or.inl ⟨by decide, by decide⟩, by decide⟩), trivial, trivial⟩) (okS.all _ trivial) (fun ad S Q Qc hC hc k => V_callV (as := [_]) (st := []) (M' := MX6_find) (ci := 6) (pc2 := 18) (dk D_X11_close 8 rfl) ml_11_110 mv_X6_find rfl rfl (by decide) rfl (Nat.le_of_ble_eq_true rfl) rfl he9 (hC.k' (fixH 79 6 (by decide) rfl)) hc k) hc10 (kRR.k fun p11 κ12 h mo13 => ?_)
    refine K_p (pc2 := 19) (lv2 := [(0, vR 64), (1, vI _), (2, vR _)]) (st2 := []) (fun ad S Q _ k => V_astore_n (pc2 := 19) (lv2 := [(0, _), (1, _), (2, _)]) (dk D_X11_close 9 rfl) rfl (by decide) rfl rfl k) ?_
    refine K_p (pc2 := 20) (lv2 := [(0, vR 64), (1, vI _), (2, vR _)]) (st2 := [vR _]) (fun ad S Q _ k => V_aload_n (pc2 := 20) (dk D_X11_close 10 rfl) rfl (V_lg 2 rfl) rfl k) ?_
    obtain ⟨h15, h⟩ := h
    refine K_ifnonnull (tgt := 25) (pc2 := 23) (dk D_X11_close 11 rfl) (by decide) rfl h15 (fun q14 => ?_) (fun q14 => ?_)
    · have h := h.1 q14
      refine K_p (pc2 := 24) (lv2 := [(0, vR 64), (1, vI _), (2, vR _)]) (st2 := [vI _]) (fun ad S Q _ k => V_iconst (x := (-1)) (pc2 := 24) (dk D_X11_close 12 rfl) (by decide) rfl k) ?_
      exact K_ret (r := .inl (some (vI _))) (fun ad S Q _ k => V_ireturn (dk D_X11_close 13 rfl) rfl k) h
    · have h := h.2 q14
      refine K_p (pc2 := 26) (lv2 := [(0, vR 64), (1, vI _), (2, vR _)]) (st2 := [vR _]) (fun ad S Q _ k => V_aload_n (pc2 := 26) (dk D_X11_close 14 rfl) rfl (V_lg 2 rfl) rfl k) ?_
      obtain ⟨h20, h⟩ := h
      obtain ⟨e16, he17, hc18⟩ := h
      refine K_call (as := [vR _]) (st := []) (pc2 := 29) (okL.all _ ⟨(Or.inr ⟨Or.inl ⟨by decide, by decide⟩, by decide⟩), trivial, (isH.ok h20 (by decide)), trivial⟩) (okS.all _ trivial) (fun ad S Q Qc hC hc k => V_callV (as := []) (st := []) (M' := MX10_isOver) (ci := 10) (pc2 := 29) (dk D_X11_close 15 rfl) ml_11_114 mv_X10_isOver rfl rfl (by decide) rfl (Nat.le_of_ble_eq_true rfl) rfl he17 (hC.k' h20) hc k) hc18 (kRI.k fun y19 κ21 h mo22 => ?_)
      refine K_if (pa := 34) (pb := 32) (lv2 := [(0, vR 64), (1, vI _), (2, vR _)]) (st2 := []) (fun ad S Q _ k1 k2 => V_ifeq (tgt := 34) (pc2 := 32) (dk D_X11_close 16 rfl) (by decide) rfl (fun q => k1 q) (fun q => k2 q)) (fun q23 => ?_) (fun q23 => ?_)
      · have h := h.1 q23
        refine K_p (pc2 := 35) (lv2 := [(0, vR 64), (1, vI _), (2, vR _)]) (st2 := [vR 64]) (fun ad S Q _ k => V_aload_n (pc2 := 35) (dk D_X11_close 19 rfl) rfl (V_lg 0 rfl) rfl k) ?_
        refine K_getF kc11 (h' := 79) (pc2 := 38) 4 (by decide) (dk D_X11_close 20 rfl) fl_11_49 (by decide) (fun _ _ => rfl) rfl (fixH 64 11 (by decide) rfl) (by decide) ?_
        refine K_p (pc2 := 39) (lv2 := [(0, vR 64), (1, vI _), (2, vR _)]) (st2 := [vR _, vR 79]) (fun ad S Q _ k => V_aload_n (pc2 := 39) (dk D_X11_close 21 rfl) rfl (V_lg 2 rfl) rfl k) ?_
        obtain ⟨e24, he25, hc26⟩ := h
        refine K_call (as := [vR 79, vR _]) (st := []) (pc2 := 42) (okL.all _ ⟨(Or.inr ⟨Or.inl ⟨by decide, by decide⟩, by decide⟩), trivial, (isH.ok (isH.mo h20 (by decide) mo22) (by decide)), trivial⟩) (okS.all _ trivial) (fun ad S Q Qc hC hc k => V_callV (as := [_]) (st := []) (M' := MX6_deskCloses) (ci := 6) (pc2 := 42) (dk D_X11_close 22 rfl) ml_11_133 mv_X6_deskCloses rfl rfl (by decide) rfl (Nat.le_of_ble_eq_true rfl) rfl he25 (hC.k' (fixH 79 6 (by decide) rfl)) hc k) hc26 (kRV.k fun  κ27 h mo28 => ?_)
        refine K_p (pc2 := 43) (lv2 := [(0, vR 64), (1, vI _), (2, vR _)]) (st2 := [vR 64]) (fun ad S Q _ k => V_aload_n (pc2 := 43) (dk D_X11_close 23 rfl) rfl (V_lg 0 rfl) rfl k) ?_
        refine K_getF kc11 (h' := 79) (pc2 := 46) 4 (by decide) (dk D_X11_close 24 rfl) fl_11_49 (by decide) (fun _ _ => rfl) rfl (fixH 64 11 (by decide) rfl) (by decide) ?_
        obtain ⟨e29, he30, hc31⟩ := h
        refine K_call (as := [vR 79]) (st := []) (pc2 := 49) (okL.all _ ⟨(Or.inr ⟨Or.inl ⟨by decide, by decide⟩, by decide⟩), trivial, (isH.ok (isH.mo (isH.mo h20 (by decide) mo22) (by decide) mo28) (by decide)), trivial⟩) (okS.all _ trivial) (fun ad S Q Qc hC hc k => V_callV (as := []) (st := []) (M' := MX6_run) (ci := 6) (pc2 := 49) (dk D_X11_close 25 rfl) ml_11_123 mv_X6_run rfl rfl (by decide) rfl (Nat.le_of_ble_eq_true rfl) rfl he30 (hC.k' (fixH 79 6 (by decide) rfl)) hc k) hc31 (kRV.k fun  κ32 h mo33 => ?_)
        refine K_p (pc2 := 50) (lv2 := [(0, vR 64), (1, vI _), (2, vR _)]) (st2 := [vR 64]) (fun ad S Q _ k => V_aload_n (pc2 := 50) (dk D_X11_close 26 rfl) rfl (V_lg 0 rfl) rfl k) ?_
        refine K_getF kc11 (h' := 79) (pc2 := 53) 4 (by decide) (dk D_X11_close 27 rfl) fl_11_49 (by decide) (fun _ _ => rfl) rfl (fixH 64 11 (by decide) rfl) (by decide) ?_
        obtain ⟨e34, he35, hc36⟩ := h
        refine K_call (as := [vR 79]) (st := []) (pc2 := 56) (okL.all _ ⟨(Or.inr ⟨Or.inl ⟨by decide, by decide⟩, by decide⟩), trivial, (isH.ok (isH.mo (isH.mo (isH.mo h20 (by decide) mo22) (by decide) mo28) (by decide) mo33) (by decide)), trivial⟩) (okS.all _ trivial) (fun ad S Q Qc hC hc k => V_callV (as := []) (st := []) (M' := MX6_outcome) (ci := 6) (pc2 := 56) (dk D_X11_close 28 rfl) ml_11_126 mv_X6_outcome rfl rfl (by decide) rfl (Nat.le_of_ble_eq_true rfl) rfl he35 (hC.k' (fixH 79 6 (by decide) rfl)) hc k) hc36 (kRI.k fun y37 κ38 h mo39 => ?_)
        exact K_ret (r := .inl (some (vI _))) (fun ad S Q _ k => V_ireturn (dk D_X11_close 29 rfl) rfl k) h
      · have h := h.2 q23
        refine K_p (pc2 := 33) (lv2 := [(0, vR 64), (1, vI _), (2, vR _)]) (st2 := [vI _]) (fun ad S Q _ k => V_iconst (x := 0) (pc2 := 33) (dk D_X11_close 17 rfl) (by decide) rfl k) ?_
        exact K_ret (r := .inl (some (vI _))) (fun ad S Q _ k => V_ireturn (dk D_X11_close 18 rfl) rfl k) h
theorem k_11_sweep_0 {X : Cx} {d : Nat} {κ : Km} {Q : Res → Km → Prop}  (h : ∃ e1 : Nat, e1 + 1 ≤ d ∧ KC' X e1 MX11_plays [vR 64] κ (kRI fun y4 κ5 => ((y4 = 0 → Q (.inl (some (vI (-2)))) κ5) ∧ (¬ y4 = 0 → ∃ e8 : Nat, e8 + 1 ≤ d ∧ KC' X e8 MX6_findReached [vR 79] κ5 (kRI fun y11 κ12 => K X d MX11_sweep 22 [(0, vR 64), (1, vI y11), (2, vI 0), (3, vI 1)] [] κ12 Q))))) : K X d MX11_sweep 0 [(0, vR 64)] [] κ Q := by
  refine K_p (pc2 := 1) (lv2 := [(0, vR 64)]) (st2 := [vR 64]) (fun ad S Q _ k => V_aload_n (pc2 := 1) (dk D_X11_sweep 0 rfl) rfl (V_lg 0 rfl) rfl k) ?_
  obtain ⟨e1, he2, hc3⟩ := h
  refine K_call (as := [vR 64]) (st := []) (pc2 := 4) (okL.all _ ⟨(Or.inr ⟨Or.inl ⟨by decide, by decide⟩, by decide⟩), trivial⟩) (okS.all _ trivial) (fun ad S Q Qc hC hc k => V_callV (as := []) (st := []) (M' := MX11_plays) (ci := 11) (pc2 := 4) (dk D_X11_sweep 1 rfl) ml_11_92 mv_X11_plays rfl rfl (by decide) rfl (Nat.le_of_ble_eq_true rfl) rfl he2 (hC.k' (fixH 64 11 (by decide) rfl)) hc k) hc3 (kRI.k fun y4 κ5 h mo6 => ?_)
  refine K_if (pa := 7) (pb := 10) (lv2 := [(0, vR 64)]) (st2 := []) (fun ad S Q _ k1 k2 => V_ifne (tgt := 10) (pc2 := 7) (dk D_X11_sweep 2 rfl) (by decide) rfl (fun q => k2 q) (fun q => k1 q)) (fun q7 => ?_) (fun q7 => ?_)
  · have h := h.1 q7
    refine K_p (pc2 := 9) (lv2 := [(0, vR 64)]) (st2 := [vI _]) (fun ad S Q _ k => V_bipush (x := (-2)) (pc2 := 9) (dk D_X11_sweep 3 rfl) (by decide) rfl k) ?_
    exact K_ret (r := .inl (some (vI _))) (fun ad S Q _ k => V_ireturn (dk D_X11_sweep 4 rfl) rfl k) h
  · have h := h.2 q7
    refine K_p (pc2 := 11) (lv2 := [(0, vR 64)]) (st2 := [vR 64]) (fun ad S Q _ k => V_aload_n (pc2 := 11) (dk D_X11_sweep 5 rfl) rfl (V_lg 0 rfl) rfl k) ?_
    refine K_getF kc11 (h' := 79) (pc2 := 14) 4 (by decide) (dk D_X11_sweep 6 rfl) fl_11_49 (by decide) (fun _ _ => rfl) rfl (fixH 64 11 (by decide) rfl) (by decide) ?_
    obtain ⟨e8, he9, hc10⟩ := h
    refine K_call (as := [vR 79]) (st := []) (pc2 := 17) (okL.all _ ⟨(Or.inr ⟨Or.inl ⟨by decide, by decide⟩, by decide⟩), trivial⟩) (okS.all _ trivial) (fun ad S Q Qc hC hc k => V_callV (as := []) (st := []) (M' := MX6_findReached) (ci := 6) (pc2 := 17) (dk D_X11_sweep 7 rfl) ml_11_137 mv_X6_findReached rfl rfl (by decide) rfl (Nat.le_of_ble_eq_true rfl) rfl he9 (hC.k' (fixH 79 6 (by decide) rfl)) hc k) hc10 (kRI.k fun y11 κ12 h mo13 => ?_)
    refine K_p (pc2 := 18) (lv2 := [(0, vR 64), (1, vI _)]) (st2 := []) (fun ad S Q _ k => V_istore_n (pc2 := 18) (lv2 := [(0, _), (1, _)]) (dk D_X11_sweep 8 rfl) rfl (by decide) rfl rfl k) ?_
    refine K_p (pc2 := 19) (lv2 := [(0, vR 64), (1, vI _)]) (st2 := [vI _]) (fun ad S Q _ k => V_iconst (x := 0) (pc2 := 19) (dk D_X11_sweep 9 rfl) (by decide) rfl k) ?_
    refine K_p (pc2 := 20) (lv2 := [(0, vR 64), (1, vI _), (2, vI _)]) (st2 := []) (fun ad S Q _ k => V_istore_n (pc2 := 20) (lv2 := [(0, _), (1, _), (2, _)]) (dk D_X11_sweep 10 rfl) rfl (by decide) rfl rfl k) ?_
    refine K_p (pc2 := 21) (lv2 := [(0, vR 64), (1, vI _), (2, vI _)]) (st2 := [vI _]) (fun ad S Q _ k => V_iconst (x := 1) (pc2 := 21) (dk D_X11_sweep 11 rfl) (by decide) rfl k) ?_
    refine K_p (pc2 := 22) (lv2 := [(0, vR 64), (1, vI _), (2, vI _), (3, vI _)]) (st2 := []) (fun ad S Q _ k => V_istore_n (pc2 := 22) (lv2 := [(0, _), (1, _), (2, _), (3, _)]) (dk D_X11_sweep 12 rfl) rfl (by decide) rfl rfl k) ?_
    exact h
theorem k_11_sweep_22 {X : Cx} {d : Nat} {κ : Km} {Q : Res → Km → Prop} (x1 : Int32) (x2 : Int32) (x3 : Int32) (h : ((x1 < x3 → K X d MX11_sweep 85 [(0, vR 64), (1, vI x1), (2, vI x2), (3, vI x3)] [] κ Q) ∧ (¬ x1 < x3 → ∃ e2 : Nat, e2 + 1 ≤ d ∧ KC' X e2 MX6_isSpent [vR 79] κ (kRI fun y5 κ6 => ((y5 = 0 → ∃ e9 : Nat, e9 + 1 ≤ d ∧ KC' X e9 MX6_find [vR 79, vI x3] κ6 (kRR fun p12 κ13 => (p12 = 0 ∨ live κ13 p12) ∧ ((p12 = 0 → K X d MX11_sweep 79 [(0, vR 64), (1, vI x1), (2, vI x2), (3, vI x3), (4, vR p12)] [] κ13 Q) ∧ (¬ p12 = 0 → (isH κ13 p12 10) ∧ ∃ e17 : Nat, e17 + 1 ≤ d ∧ KC' X e17 MX10_isLost [vR p12] κ13 (kRI fun y20 κ22 => ((y20 = 0 → K X d MX11_sweep 79 [(0, vR 64), (1, vI x1), (2, vI x2), (3, vI x3), (4, vR p12)] [] κ22 Q) ∧ (¬ y20 = 0 → ∃ e25 : Nat, e25 + 1 ≤ d ∧ KC' X e25 MX6_deskCloses [vR 79, vR p12] κ22 (kRV fun  κ28 => ∃ e30 : Nat, e30 + 1 ≤ d ∧ KC' X e30 MX6_run [vR 79] κ28 (kRV fun  κ33 => K X d MX11_sweep 79 [(0, vR 64), (1, vI x1), (2, vI (x2 + 1)), (3, vI x3), (4, vR p12)] [] κ33 Q))))))))) ∧ (¬ y5 = 0 → K X d MX11_sweep 85 [(0, vR 64), (1, vI x1), (2, vI x2), (3, vI x3)] [] κ6 Q)))))) : K X d MX11_sweep 22 [(0, vR 64), (1, vI x1), (2, vI x2), (3, vI x3)] [] κ Q := by
  refine K_p (pc2 := 23) (lv2 := [(0, vR 64), (1, vI _), (2, vI _), (3, vI _)]) (st2 := [vI _]) (fun ad S Q _ k => V_iload_n (pc2 := 23) (dk D_X11_sweep 13 rfl) rfl (V_lg 3 rfl) rfl k) ?_
  refine K_p (pc2 := 24) (lv2 := [(0, vR 64), (1, vI _), (2, vI _), (3, vI _)]) (st2 := [vI _, vI _]) (fun ad S Q _ k => V_iload_n (pc2 := 24) (dk D_X11_sweep 14 rfl) rfl (V_lg 1 rfl) rfl k) ?_
  refine K_if (pa := 85) (pb := 27) (lv2 := [(0, vR 64), (1, vI _), (2, vI _), (3, vI _)]) (st2 := []) (fun ad S Q _ k1 k2 => V_cmpgt (tgt := 85) (pc2 := 27) (dk D_X11_sweep 15 rfl) (by decide) rfl (fun q => k1 q) (fun q => k2 q)) (fun q1 => ?_) (fun q1 => ?_)
  · have h := h.1 q1
    exact h
  · have h := h.2 q1
    refine K_p (pc2 := 28) (lv2 := [(0, vR 64), (1, vI _), (2, vI _), (3, vI _)]) (st2 := [vR 64]) (fun ad S Q _ k => V_aload_n (pc2 := 28) (dk D_X11_sweep 16 rfl) rfl (V_lg 0 rfl) rfl k) ?_
    refine K_getF kc11 (h' := 79) (pc2 := 31) 4 (by decide) (dk D_X11_sweep 17 rfl) fl_11_49 (by decide) (fun _ _ => rfl) rfl (fixH 64 11 (by decide) rfl) (by decide) ?_
    obtain ⟨e2, he3, hc4⟩ := h
    refine K_call (as := [vR 79]) (st := []) (pc2 := 34) (okL.all _ ⟨(Or.inr ⟨Or.inl ⟨by decide, by decide⟩, by decide⟩), trivial, trivial, trivial, trivial⟩) (okS.all _ trivial) (fun ad S Q Qc hC hc k => V_callV (as := []) (st := []) (M' := MX6_isSpent) (ci := 6) (pc2 := 34) (dk D_X11_sweep 18 rfl) ml_11_140 mv_X6_isSpent rfl rfl (by decide) rfl (Nat.le_of_ble_eq_true rfl) rfl he3 (hC.k' (fixH 79 6 (by decide) rfl)) hc k) hc4 (kRI.k fun y5 κ6 h mo7 => ?_)
    refine K_if (pa := 37) (pb := 85) (lv2 := [(0, vR 64), (1, vI _), (2, vI _), (3, vI _)]) (st2 := []) (fun ad S Q _ k1 k2 => V_ifne (tgt := 85) (pc2 := 37) (dk D_X11_sweep 19 rfl) (by decide) rfl (fun q => k2 q) (fun q => k1 q)) (fun q8 => ?_) (fun q8 => ?_)
    · have h := h.1 q8
      refine K_p (pc2 := 38) (lv2 := [(0, vR 64), (1, vI _), (2, vI _), (3, vI _)]) (st2 := [vR 64]) (fun ad S Q _ k => V_aload_n (pc2 := 38) (dk D_X11_sweep 20 rfl) rfl (V_lg 0 rfl) rfl k) ?_
      refine K_getF kc11 (h' := 79) (pc2 := 41) 4 (by decide) (dk D_X11_sweep 21 rfl) fl_11_49 (by decide) (fun _ _ => rfl) rfl (fixH 64 11 (by decide) rfl) (by decide) ?_
      refine K_p (pc2 := 42) (lv2 := [(0, vR 64), (1, vI _), (2, vI _), (3, vI _)]) (st2 := [vI _, vR 79]) (fun ad S Q _ k => V_iload_n (pc2 := 42) (dk D_X11_sweep 22 rfl) rfl (V_lg 3 rfl) rfl k) ?_
      obtain ⟨e9, he10, hc11⟩ := h
      refine K_call (as := [vR 79, vI _]) (st := []) (pc2 := 45) (okL.all _ ⟨(Or.inr ⟨Or.inl ⟨by decide, by decide⟩, by decide⟩), trivial, trivial, trivial, trivial⟩) (okS.all _ trivial) (fun ad S Q Qc hC hc k => V_callV (as := [_]) (st := []) (M' := MX6_find) (ci := 6) (pc2 := 45) (dk D_X11_sweep 23 rfl) ml_11_110 mv_X6_find rfl rfl (by decide) rfl (Nat.le_of_ble_eq_true rfl) rfl he10 (hC.k' (fixH 79 6 (by decide) rfl)) hc k) hc11 (kRR.k fun p12 κ13 h mo14 => ?_)
      refine K_p (pc2 := 47) (lv2 := [(0, vR 64), (1, vI _), (2, vI _), (3, vI _), (4, vR _)]) (st2 := []) (fun ad S Q _ k => V_astore (pc2 := 47) (lv2 := [(0, _), (1, _), (2, _), (3, _), (4, _)]) (dk D_X11_sweep 24 rfl) (by decide) rfl rfl k) ?_
      refine K_p (pc2 := 49) (lv2 := [(0, vR 64), (1, vI _), (2, vI _), (3, vI _), (4, vR _)]) (st2 := [vR _]) (fun ad S Q _ k => V_aload (pc2 := 49) (dk D_X11_sweep 25 rfl) (V_lg 4 rfl) rfl k) ?_
      obtain ⟨h16, h⟩ := h
      refine K_ifnull (tgt := 79) (pc2 := 52) (dk D_X11_sweep 26 rfl) (by decide) rfl h16 (fun q15 => ?_) (fun q15 => ?_)
      · have h := h.1 q15
        exact h
      · have h := h.2 q15
        refine K_p (pc2 := 54) (lv2 := [(0, vR 64), (1, vI _), (2, vI _), (3, vI _), (4, vR _)]) (st2 := [vR _]) (fun ad S Q _ k => V_aload (pc2 := 54) (dk D_X11_sweep 27 rfl) (V_lg 4 rfl) rfl k) ?_
        obtain ⟨h21, h⟩ := h
        obtain ⟨e17, he18, hc19⟩ := h
        refine K_call (as := [vR _]) (st := []) (pc2 := 57) (okL.all _ ⟨(Or.inr ⟨Or.inl ⟨by decide, by decide⟩, by decide⟩), trivial, trivial, trivial, (isH.ok h21 (by decide)), trivial⟩) (okS.all _ trivial) (fun ad S Q Qc hC hc k => V_callV (as := []) (st := []) (M' := MX10_isLost) (ci := 10) (pc2 := 57) (dk D_X11_sweep 28 rfl) ml_11_143 mv_X10_isLost rfl rfl (by decide) rfl (Nat.le_of_ble_eq_true rfl) rfl he18 (hC.k' h21) hc k) hc19 (kRI.k fun y20 κ22 h mo23 => ?_)
        refine K_if (pa := 79) (pb := 60) (lv2 := [(0, vR 64), (1, vI _), (2, vI _), (3, vI _), (4, vR _)]) (st2 := []) (fun ad S Q _ k1 k2 => V_ifeq (tgt := 79) (pc2 := 60) (dk D_X11_sweep 29 rfl) (by decide) rfl (fun q => k1 q) (fun q => k2 q)) (fun q24 => ?_) (fun q24 => ?_)
        · have h := h.1 q24
          exact h
        · have h := h.2 q24
          refine K_p (pc2 := 63) (lv2 := [(0, vR 64), (1, vI _), (2, vI _), (3, vI _), (4, vR _)]) (st2 := []) (fun ad S Q _ k => V_iinc (y := _ + 1) (pc2 := 63) (lv2 := [(0, _), (1, _), (2, _), (3, _), (4, _)]) (dk D_X11_sweep 30 rfl) (V_lg 2 rfl) rfl (by decide) rfl rfl k) ?_
          refine K_p (pc2 := 64) (lv2 := [(0, vR 64), (1, vI _), (2, vI _), (3, vI _), (4, vR _)]) (st2 := [vR 64]) (fun ad S Q _ k => V_aload_n (pc2 := 64) (dk D_X11_sweep 31 rfl) rfl (V_lg 0 rfl) rfl k) ?_
          refine K_getF kc11 (h' := 79) (pc2 := 67) 4 (by decide) (dk D_X11_sweep 32 rfl) fl_11_49 (by decide) (fun _ _ => rfl) rfl (fixH 64 11 (by decide) rfl) (by decide) ?_
          refine K_p (pc2 := 69) (lv2 := [(0, vR 64), (1, vI _), (2, vI _), (3, vI _), (4, vR _)]) (st2 := [vR _, vR 79]) (fun ad S Q _ k => V_aload (pc2 := 69) (dk D_X11_sweep 33 rfl) (V_lg 4 rfl) rfl k) ?_
          obtain ⟨e25, he26, hc27⟩ := h
          refine K_call (as := [vR 79, vR _]) (st := []) (pc2 := 72) (okL.all _ ⟨(Or.inr ⟨Or.inl ⟨by decide, by decide⟩, by decide⟩), trivial, trivial, trivial, (isH.ok (isH.mo h21 (by decide) mo23) (by decide)), trivial⟩) (okS.all _ trivial) (fun ad S Q Qc hC hc k => V_callV (as := [_]) (st := []) (M' := MX6_deskCloses) (ci := 6) (pc2 := 72) (dk D_X11_sweep 34 rfl) ml_11_133 mv_X6_deskCloses rfl rfl (by decide) rfl (Nat.le_of_ble_eq_true rfl) rfl he26 (hC.k' (fixH 79 6 (by decide) rfl)) hc k) hc27 (kRV.k fun  κ28 h mo29 => ?_)
          refine K_p (pc2 := 73) (lv2 := [(0, vR 64), (1, vI _), (2, vI _), (3, vI _), (4, vR _)]) (st2 := [vR 64]) (fun ad S Q _ k => V_aload_n (pc2 := 73) (dk D_X11_sweep 35 rfl) rfl (V_lg 0 rfl) rfl k) ?_
          refine K_getF kc11 (h' := 79) (pc2 := 76) 4 (by decide) (dk D_X11_sweep 36 rfl) fl_11_49 (by decide) (fun _ _ => rfl) rfl (fixH 64 11 (by decide) rfl) (by decide) ?_
          obtain ⟨e30, he31, hc32⟩ := h
          refine K_call (as := [vR 79]) (st := []) (pc2 := 79) (okL.all _ ⟨(Or.inr ⟨Or.inl ⟨by decide, by decide⟩, by decide⟩), trivial, trivial, trivial, (isH.ok (isH.mo (isH.mo h21 (by decide) mo23) (by decide) mo29) (by decide)), trivial⟩) (okS.all _ trivial) (fun ad S Q Qc hC hc k => V_callV (as := []) (st := []) (M' := MX6_run) (ci := 6) (pc2 := 79) (dk D_X11_sweep 37 rfl) ml_11_123 mv_X6_run rfl rfl (by decide) rfl (Nat.le_of_ble_eq_true rfl) rfl he31 (hC.k' (fixH 79 6 (by decide) rfl)) hc k) hc32 (kRV.k fun  κ33 h mo34 => ?_)
          exact h
    · have h := h.2 q8
      exact h
theorem k_11_sweep_79 {X : Cx} {d : Nat} {κ : Km} {Q : Res → Km → Prop} (x1 : Int32) (x2 : Int32) (x3 : Int32) (r4 : Nat) (h : K X d MX11_sweep 22 [(0, vR 64), (1, vI x1), (2, vI x2), (3, vI (x3 + 1))] [] κ Q) : K X d MX11_sweep 79 [(0, vR 64), (1, vI x1), (2, vI x2), (3, vI x3), (4, vR r4)] [] κ Q := by
  refine K_p (pc2 := 82) (lv2 := [(0, vR 64), (1, vI _), (2, vI _), (3, vI _), (4, vR _)]) (st2 := []) (fun ad S Q _ k => V_iinc (y := _ + 1) (pc2 := 82) (lv2 := [(0, _), (1, _), (2, _), (3, _), (4, _)]) (dk D_X11_sweep 38 rfl) (V_lg 3 rfl) rfl (by decide) rfl rfl k) ?_
  refine K_p (pc2 := 22) (lv2 := [(0, vR 64), (1, vI _), (2, vI _), (3, vI _), (4, vR _)]) (st2 := []) (fun ad S Q _ k => V_goto (tgt := 22) (dk D_X11_sweep 39 rfl) (by decide) k) ?_
  refine K_p (pc2 := 22) (lv2 := [(0, vR 64), (1, vI _), (2, vI _), (3, vI _)]) (st2 := []) (fun ad S Q _ k => V_pick [0, 1, 2, 3] (lv2 := [(0, _), (1, _), (2, _), (3, _)]) rfl k) ?_
  exact h
theorem k_11_sweep_85 {X : Cx} {d : Nat} {κ : Km} {Q : Res → Km → Prop} (x1 : Int32) (x2 : Int32) (x3 : Int32) (h : Q (.inl (some (vI x2))) κ) : K X d MX11_sweep 85 [(0, vR 64), (1, vI x1), (2, vI x2), (3, vI x3)] [] κ Q := by
  refine K_p (pc2 := 86) (lv2 := [(0, vR 64), (1, vI _), (2, vI _), (3, vI _)]) (st2 := [vI _]) (fun ad S Q _ k => V_iload_n (pc2 := 86) (dk D_X11_sweep 40 rfl) rfl (V_lg 2 rfl) rfl k) ?_
  exact K_ret (r := .inl (some (vI _))) (fun ad S Q _ k => V_ireturn (dk D_X11_sweep 41 rfl) rfl k) h
theorem k_11_answer_0 {X : Cx} {d : Nat} {κ : Km} {Q : Res → Km → Prop}  (h : (((kI κ 64 5) = 0 → K X d MX11_answer 19 [(0, vR 64)] [vI (-2)] κ Q) ∧ (¬ (kI κ 64 5) = 0 → ∃ e2 : Nat, e2 + 1 ≤ d ∧ KC' X e2 MX6_given [vR 79] κ (kRI fun y5 κ6 => K X d MX11_answer 19 [(0, vR 64)] [vI y5] κ6 Q)))) : K X d MX11_answer 0 [(0, vR 64)] [] κ Q := by
  refine K_p (pc2 := 1) (lv2 := [(0, vR 64)]) (st2 := [vR 64]) (fun ad S Q _ k => V_aload_n (pc2 := 1) (dk D_X11_answer 0 rfl) rfl (V_lg 0 rfl) rfl k) ?_
  refine K_getI kc11 (pc2 := 4) 5 (dk D_X11_answer 1 rfl) fl_11_77 (by decide) (fun _ _ => rfl) rfl (fixH 64 11 (by decide) rfl) ?_
  refine K_if (pa := 17) (pb := 7) (lv2 := [(0, vR 64)]) (st2 := []) (fun ad S Q _ k1 k2 => V_ifeq (tgt := 17) (pc2 := 7) (dk D_X11_answer 2 rfl) (by decide) rfl (fun q => k1 q) (fun q => k2 q)) (fun q1 => ?_) (fun q1 => ?_)
  · have h := h.1 q1
    refine K_p (pc2 := 19) (lv2 := [(0, vR 64)]) (st2 := [vI _]) (fun ad S Q _ k => V_bipush (x := (-2)) (pc2 := 19) (dk D_X11_answer 7 rfl) (by decide) rfl k) ?_
    exact h
  · have h := h.2 q1
    refine K_p (pc2 := 8) (lv2 := [(0, vR 64)]) (st2 := [vR 64]) (fun ad S Q _ k => V_aload_n (pc2 := 8) (dk D_X11_answer 3 rfl) rfl (V_lg 0 rfl) rfl k) ?_
    refine K_getF kc11 (h' := 79) (pc2 := 11) 4 (by decide) (dk D_X11_answer 4 rfl) fl_11_49 (by decide) (fun _ _ => rfl) rfl (fixH 64 11 (by decide) rfl) (by decide) ?_
    obtain ⟨e2, he3, hc4⟩ := h
    refine K_call (as := [vR 79]) (st := []) (pc2 := 14) (okL.all _ ⟨(Or.inr ⟨Or.inl ⟨by decide, by decide⟩, by decide⟩), trivial⟩) (okS.all _ trivial) (fun ad S Q Qc hC hc k => V_callV (as := []) (st := []) (M' := MX6_given) (ci := 6) (pc2 := 14) (dk D_X11_answer 5 rfl) ml_11_146 mv_X6_given rfl rfl (by decide) rfl (Nat.le_of_ble_eq_true rfl) rfl he3 (hC.k' (fixH 79 6 (by decide) rfl)) hc k) hc4 (kRI.k fun y5 κ6 h mo7 => ?_)
    refine K_p (pc2 := 19) (lv2 := [(0, vR 64)]) (st2 := [vI _]) (fun ad S Q _ k => V_goto (tgt := 19) (dk D_X11_answer 6 rfl) (by decide) k) ?_
    exact h
theorem k_11_answer_19 {X : Cx} {d : Nat} {κ : Km} {Q : Res → Km → Prop} (t0 : Int32) (h : Q (.inl (some (vI t0))) κ) : K X d MX11_answer 19 [(0, vR 64)] [vI t0] κ Q := by
  exact K_ret (r := .inl (some (vI _))) (fun ad S Q _ k => V_ireturn (dk D_X11_answer 8 rfl) rfl k) h
theorem k_11_told_0 {X : Cx} {d : Nat} {κ : Km} {Q : Res → Km → Prop} (x1 : Int32) (x2 : Int32) (h : (((kI κ 64 5) = 0 → Q (.inl (some (vI (-2)))) κ) ∧ (¬ (kI κ 64 5) = 0 → ∃ e2 : Nat, e2 + 1 ≤ d ∧ KC' X e2 MX6_find [vR 79, vI x1] κ (kRR fun p5 κ6 => (p5 = 0 ∨ live κ6 p5) ∧ ((p5 = 0 → K X d MX11_told 33 [(0, vR 64), (1, vI x1), (2, vI x2), (3, vR p5)] [] κ6 Q) ∧ (¬ p5 = 0 → ((x2 < 0 → K X d MX11_told 33 [(0, vR 64), (1, vI x1), (2, vI x2), (3, vR p5)] [] κ6 Q) ∧ (¬ x2 < 0 → ((x2 ≤ 6 → (isH κ6 p5 10) ∧ ∃ e12 : Nat, e12 + 1 ≤ d ∧ KC' X e12 MX10_fact [vR p5, vI x2] κ6 (kRI fun y15 κ17 => K X d MX11_told 42 [(0, vR 64), (1, vI x1), (2, vI x2), (3, vR p5)] [vI y15] κ17 Q)) ∧ (¬ x2 ≤ 6 → K X d MX11_told 33 [(0, vR 64), (1, vI x1), (2, vI x2), (3, vR p5)] [] κ6 Q)))))))))) : K X d MX11_told 0 [(0, vR 64), (1, vI x1), (2, vI x2)] [] κ Q := by
  refine K_p (pc2 := 1) (lv2 := [(0, vR 64), (1, vI _), (2, vI _)]) (st2 := [vR 64]) (fun ad S Q _ k => V_aload_n (pc2 := 1) (dk D_X11_told 0 rfl) rfl (V_lg 0 rfl) rfl k) ?_
  refine K_getI kc11 (pc2 := 4) 5 (dk D_X11_told 1 rfl) fl_11_77 (by decide) (fun _ _ => rfl) rfl (fixH 64 11 (by decide) rfl) ?_
  refine K_if (pa := 7) (pb := 10) (lv2 := [(0, vR 64), (1, vI _), (2, vI _)]) (st2 := []) (fun ad S Q _ k1 k2 => V_ifne (tgt := 10) (pc2 := 7) (dk D_X11_told 2 rfl) (by decide) rfl (fun q => k2 q) (fun q => k1 q)) (fun q1 => ?_) (fun q1 => ?_)
  · have h := h.1 q1
    refine K_p (pc2 := 9) (lv2 := [(0, vR 64), (1, vI _), (2, vI _)]) (st2 := [vI _]) (fun ad S Q _ k => V_bipush (x := (-2)) (pc2 := 9) (dk D_X11_told 3 rfl) (by decide) rfl k) ?_
    exact K_ret (r := .inl (some (vI _))) (fun ad S Q _ k => V_ireturn (dk D_X11_told 4 rfl) rfl k) h
  · have h := h.2 q1
    refine K_p (pc2 := 11) (lv2 := [(0, vR 64), (1, vI _), (2, vI _)]) (st2 := [vR 64]) (fun ad S Q _ k => V_aload_n (pc2 := 11) (dk D_X11_told 5 rfl) rfl (V_lg 0 rfl) rfl k) ?_
    refine K_getF kc11 (h' := 79) (pc2 := 14) 4 (by decide) (dk D_X11_told 6 rfl) fl_11_49 (by decide) (fun _ _ => rfl) rfl (fixH 64 11 (by decide) rfl) (by decide) ?_
    refine K_p (pc2 := 15) (lv2 := [(0, vR 64), (1, vI _), (2, vI _)]) (st2 := [vI _, vR 79]) (fun ad S Q _ k => V_iload_n (pc2 := 15) (dk D_X11_told 7 rfl) rfl (V_lg 1 rfl) rfl k) ?_
    obtain ⟨e2, he3, hc4⟩ := h
    refine K_call (as := [vR 79, vI _]) (st := []) (pc2 := 18) (okL.all _ ⟨(Or.inr ⟨Or.inl ⟨by decide, by decide⟩, by decide⟩), trivial, trivial, trivial⟩) (okS.all _ trivial) (fun ad S Q Qc hC hc k => V_callV (as := [_]) (st := []) (M' := MX6_find) (ci := 6) (pc2 := 18) (dk D_X11_told 8 rfl) ml_11_110 mv_X6_find rfl rfl (by decide) rfl (Nat.le_of_ble_eq_true rfl) rfl he3 (hC.k' (fixH 79 6 (by decide) rfl)) hc k) hc4 (kRR.k fun p5 κ6 h mo7 => ?_)
    refine K_p (pc2 := 19) (lv2 := [(0, vR 64), (1, vI _), (2, vI _), (3, vR _)]) (st2 := []) (fun ad S Q _ k => V_astore_n (pc2 := 19) (lv2 := [(0, _), (1, _), (2, _), (3, _)]) (dk D_X11_told 9 rfl) rfl (by decide) rfl rfl k) ?_
    refine K_p (pc2 := 20) (lv2 := [(0, vR 64), (1, vI _), (2, vI _), (3, vR _)]) (st2 := [vR _]) (fun ad S Q _ k => V_aload_n (pc2 := 20) (dk D_X11_told 10 rfl) rfl (V_lg 3 rfl) rfl k) ?_
    obtain ⟨h9, h⟩ := h
    refine K_ifnull (tgt := 33) (pc2 := 23) (dk D_X11_told 11 rfl) (by decide) rfl h9 (fun q8 => ?_) (fun q8 => ?_)
    · have h := h.1 q8
      exact h
    · have h := h.2 q8
      refine K_p (pc2 := 24) (lv2 := [(0, vR 64), (1, vI _), (2, vI _), (3, vR _)]) (st2 := [vI _]) (fun ad S Q _ k => V_iload_n (pc2 := 24) (dk D_X11_told 12 rfl) rfl (V_lg 2 rfl) rfl k) ?_
      refine K_if (pa := 33) (pb := 27) (lv2 := [(0, vR 64), (1, vI _), (2, vI _), (3, vR _)]) (st2 := []) (fun ad S Q _ k1 k2 => V_iflt (tgt := 33) (pc2 := 27) (dk D_X11_told 13 rfl) (by decide) rfl (fun q => k1 q) (fun q => k2 q)) (fun q10 => ?_) (fun q10 => ?_)
      · have h := h.1 q10
        exact h
      · have h := h.2 q10
        refine K_p (pc2 := 28) (lv2 := [(0, vR 64), (1, vI _), (2, vI _), (3, vR _)]) (st2 := [vI _]) (fun ad S Q _ k => V_iload_n (pc2 := 28) (dk D_X11_told 14 rfl) rfl (V_lg 2 rfl) rfl k) ?_
        refine K_p (pc2 := 30) (lv2 := [(0, vR 64), (1, vI _), (2, vI _), (3, vR _)]) (st2 := [vI _, vI _]) (fun ad S Q _ k => V_bipush (x := 6) (pc2 := 30) (dk D_X11_told 15 rfl) (by decide) rfl k) ?_
        refine K_if (pa := 37) (pb := 33) (lv2 := [(0, vR 64), (1, vI _), (2, vI _), (3, vR _)]) (st2 := []) (fun ad S Q _ k1 k2 => V_cmple (tgt := 37) (pc2 := 33) (dk D_X11_told 16 rfl) (by decide) rfl (fun q => k1 q) (fun q => k2 q)) (fun q11 => ?_) (fun q11 => ?_)
        · have h := h.1 q11
          refine K_p (pc2 := 38) (lv2 := [(0, vR 64), (1, vI _), (2, vI _), (3, vR _)]) (st2 := [vR _]) (fun ad S Q _ k => V_aload_n (pc2 := 38) (dk D_X11_told 19 rfl) rfl (V_lg 3 rfl) rfl k) ?_
          refine K_p (pc2 := 39) (lv2 := [(0, vR 64), (1, vI _), (2, vI _), (3, vR _)]) (st2 := [vI _, vR _]) (fun ad S Q _ k => V_iload_n (pc2 := 39) (dk D_X11_told 20 rfl) rfl (V_lg 2 rfl) rfl k) ?_
          obtain ⟨h16, h⟩ := h
          obtain ⟨e12, he13, hc14⟩ := h
          refine K_call (as := [vR _, vI _]) (st := []) (pc2 := 42) (okL.all _ ⟨(Or.inr ⟨Or.inl ⟨by decide, by decide⟩, by decide⟩), trivial, trivial, (isH.ok h16 (by decide)), trivial⟩) (okS.all _ trivial) (fun ad S Q Qc hC hc k => V_callV (as := [_]) (st := []) (M' := MX10_fact) (ci := 10) (pc2 := 42) (dk D_X11_told 21 rfl) ml_11_149 mv_X10_fact rfl rfl (by decide) rfl (Nat.le_of_ble_eq_true rfl) rfl he13 (hC.k' h16) hc k) hc14 (kRI.k fun y15 κ17 h mo18 => ?_)
          exact h
        · have h := h.2 q11
          exact h
theorem k_11_told_33 {X : Cx} {d : Nat} {κ : Km} {Q : Res → Km → Prop} (x1 : Int32) (x2 : Int32) (r3 : Nat) (h : K X d MX11_told 42 [(0, vR 64), (1, vI x1), (2, vI x2), (3, vR r3)] [vI (-1)] κ Q) : K X d MX11_told 33 [(0, vR 64), (1, vI x1), (2, vI x2), (3, vR r3)] [] κ Q := by
  refine K_p (pc2 := 34) (lv2 := [(0, vR 64), (1, vI _), (2, vI _), (3, vR _)]) (st2 := [vI _]) (fun ad S Q _ k => V_iconst (x := (-1)) (pc2 := 34) (dk D_X11_told 17 rfl) (by decide) rfl k) ?_
  refine K_p (pc2 := 42) (lv2 := [(0, vR 64), (1, vI _), (2, vI _), (3, vR _)]) (st2 := [vI _]) (fun ad S Q _ k => V_goto (tgt := 42) (dk D_X11_told 18 rfl) (by decide) k) ?_
  exact h
theorem k_11_told_42 {X : Cx} {d : Nat} {κ : Km} {Q : Res → Km → Prop} (x1 : Int32) (x2 : Int32) (r3 : Nat) (t0 : Int32) (h : Q (.inl (some (vI t0))) κ) : K X d MX11_told 42 [(0, vR 64), (1, vI x1), (2, vI x2), (3, vR r3)] [vI t0] κ Q := by
  exact K_ret (r := .inl (some (vI _))) (fun ad S Q _ k => V_ireturn (dk D_X11_told 22 rfl) rfl k) h
theorem k_11_local_0 {X : Cx} {d : Nat} {κ : Km} {Q : Res → Km → Prop} (x1 : Int32) (x2 : Int32) (x3 : Int32) (h : (((kI κ 64 5) = 0 → Q (.inl (some (vI (-2)))) κ) ∧ (¬ (kI κ 64 5) = 0 → ∃ e2 : Nat, e2 + 1 ≤ d ∧ KC' X e2 MX6_find [vR 79, vI x1] κ (kRR fun p5 κ6 => (p5 = 0 ∨ live κ6 p5) ∧ ((p5 = 0 → Q (.inl (some (vI (-1)))) κ6) ∧ (¬ p5 = 0 → (isH κ6 p5 10) ∧ (((kI κ6 p5 1) = 0 → ((x2 = 0 → ((x3 = 0 → ∃ e14 : Nat, e14 + 1 ≤ d ∧ KC' X e14 MX11_hasArgument [vR 64, vR p5] κ6 (kRI fun y17 κ18 => ((y17 = 0 → K X d MX11_local 60 [(0, vR 64), (1, vI x1), (2, vI x2), (3, vI x3), (4, vR p5)] [] κ18 Q) ∧ (¬ y17 = 0 → K X d MX11_local 61 [(0, vR 64), (1, vI x1), (2, vI x2), (3, vI x3), (4, vR p5)] [vI (kI κ18 p5 3)] κ18 Q)))) ∧ (¬ x3 = 0 → K X d MX11_local 60 [(0, vR 64), (1, vI x1), (2, vI x2), (3, vI x3), (4, vR p5)] [] κ6 Q))) ∧ (¬ x2 = 0 → K X d MX11_local 60 [(0, vR 64), (1, vI x1), (2, vI x2), (3, vI x3), (4, vR p5)] [] κ6 Q))) ∧ (¬ (kI κ6 p5 1) = 0 → ∃ e21 : Nat, e21 + 1 ≤ d ∧ KC' X e21 MX10_frameOf [vR p5, vI x2] κ6 (kRI fun y24 κ25 => ((x3 < 0 → K X d MX11_local 85 [(0, vR 64), (1, vI x1), (2, vI x2), (3, vI x3), (4, vR p5), (5, vI y24)] [] κ25 Q) ∧ (¬ x3 < 0 → ∃ e28 : Nat, e28 + 1 ≤ d ∧ KC' X e28 MX10_variablesOf [vR p5, vI y24] κ25 (kRI fun y31 κ32 => ((x3 < y31 → ∃ e35 : Nat, e35 + 1 ≤ d ∧ KC' X e35 MX10_variable [vR p5, vI y24, vI x3] κ32 (kRI fun y38 κ39 => K X d MX11_local 97 [(0, vR 64), (1, vI x1), (2, vI x2), (3, vI x3), (4, vR p5), (5, vI y24)] [vI y38] κ39 Q)) ∧ (¬ x3 < y31 → K X d MX11_local 85 [(0, vR 64), (1, vI x1), (2, vI x2), (3, vI x3), (4, vR p5), (5, vI y24)] [] κ32 Q)))))))))))))) : K X d MX11_local 0 [(0, vR 64), (1, vI x1), (2, vI x2), (3, vI x3)] [] κ Q := by
  refine K_p (pc2 := 1) (lv2 := [(0, vR 64), (1, vI _), (2, vI _), (3, vI _)]) (st2 := [vR 64]) (fun ad S Q _ k => V_aload_n (pc2 := 1) (dk D_X11_local 0 rfl) rfl (V_lg 0 rfl) rfl k) ?_
  refine K_getI kc11 (pc2 := 4) 5 (dk D_X11_local 1 rfl) fl_11_77 (by decide) (fun _ _ => rfl) rfl (fixH 64 11 (by decide) rfl) ?_
  refine K_if (pa := 7) (pb := 10) (lv2 := [(0, vR 64), (1, vI _), (2, vI _), (3, vI _)]) (st2 := []) (fun ad S Q _ k1 k2 => V_ifne (tgt := 10) (pc2 := 7) (dk D_X11_local 2 rfl) (by decide) rfl (fun q => k2 q) (fun q => k1 q)) (fun q1 => ?_) (fun q1 => ?_)
  · have h := h.1 q1
    refine K_p (pc2 := 9) (lv2 := [(0, vR 64), (1, vI _), (2, vI _), (3, vI _)]) (st2 := [vI _]) (fun ad S Q _ k => V_bipush (x := (-2)) (pc2 := 9) (dk D_X11_local 3 rfl) (by decide) rfl k) ?_
    exact K_ret (r := .inl (some (vI _))) (fun ad S Q _ k => V_ireturn (dk D_X11_local 4 rfl) rfl k) h
  · have h := h.2 q1
    refine K_p (pc2 := 11) (lv2 := [(0, vR 64), (1, vI _), (2, vI _), (3, vI _)]) (st2 := [vR 64]) (fun ad S Q _ k => V_aload_n (pc2 := 11) (dk D_X11_local 5 rfl) rfl (V_lg 0 rfl) rfl k) ?_
    refine K_getF kc11 (h' := 79) (pc2 := 14) 4 (by decide) (dk D_X11_local 6 rfl) fl_11_49 (by decide) (fun _ _ => rfl) rfl (fixH 64 11 (by decide) rfl) (by decide) ?_
    refine K_p (pc2 := 15) (lv2 := [(0, vR 64), (1, vI _), (2, vI _), (3, vI _)]) (st2 := [vI _, vR 79]) (fun ad S Q _ k => V_iload_n (pc2 := 15) (dk D_X11_local 7 rfl) rfl (V_lg 1 rfl) rfl k) ?_
    obtain ⟨e2, he3, hc4⟩ := h
    refine K_call (as := [vR 79, vI _]) (st := []) (pc2 := 18) (okL.all _ ⟨(Or.inr ⟨Or.inl ⟨by decide, by decide⟩, by decide⟩), trivial, trivial, trivial, trivial⟩) (okS.all _ trivial) (fun ad S Q Qc hC hc k => V_callV (as := [_]) (st := []) (M' := MX6_find) (ci := 6) (pc2 := 18) (dk D_X11_local 8 rfl) ml_11_110 mv_X6_find rfl rfl (by decide) rfl (Nat.le_of_ble_eq_true rfl) rfl he3 (hC.k' (fixH 79 6 (by decide) rfl)) hc k) hc4 (kRR.k fun p5 κ6 h mo7 => ?_)
    refine K_p (pc2 := 20) (lv2 := [(0, vR 64), (1, vI _), (2, vI _), (3, vI _), (4, vR _)]) (st2 := []) (fun ad S Q _ k => V_astore (pc2 := 20) (lv2 := [(0, _), (1, _), (2, _), (3, _), (4, _)]) (dk D_X11_local 9 rfl) (by decide) rfl rfl k) ?_
    refine K_p (pc2 := 22) (lv2 := [(0, vR 64), (1, vI _), (2, vI _), (3, vI _), (4, vR _)]) (st2 := [vR _]) (fun ad S Q _ k => V_aload (pc2 := 22) (dk D_X11_local 10 rfl) (V_lg 4 rfl) rfl k) ?_
    obtain ⟨h9, h⟩ := h
    refine K_ifnonnull (tgt := 27) (pc2 := 25) (dk D_X11_local 11 rfl) (by decide) rfl h9 (fun q8 => ?_) (fun q8 => ?_)
    · have h := h.1 q8
      refine K_p (pc2 := 26) (lv2 := [(0, vR 64), (1, vI _), (2, vI _), (3, vI _), (4, vR _)]) (st2 := [vI _]) (fun ad S Q _ k => V_iconst (x := (-1)) (pc2 := 26) (dk D_X11_local 12 rfl) (by decide) rfl k) ?_
      exact K_ret (r := .inl (some (vI _))) (fun ad S Q _ k => V_ireturn (dk D_X11_local 13 rfl) rfl k) h
    · have h := h.2 q8
      refine K_p (pc2 := 29) (lv2 := [(0, vR 64), (1, vI _), (2, vI _), (3, vI _), (4, vR _)]) (st2 := [vR _]) (fun ad S Q _ k => V_aload (pc2 := 29) (dk D_X11_local 14 rfl) (V_lg 4 rfl) rfl k) ?_
      obtain ⟨h10, h⟩ := h
      refine K_getI kc10 (pc2 := 32) 1 (dk D_X11_local 15 rfl) fl_11_150 (by decide) (fun _ _ => rfl) rfl h10 ?_
      refine K_if (pa := 35) (pb := 62) (lv2 := [(0, vR 64), (1, vI _), (2, vI _), (3, vI _), (4, vR _)]) (st2 := []) (fun ad S Q _ k1 k2 => V_ifne (tgt := 62) (pc2 := 35) (dk D_X11_local 16 rfl) (by decide) rfl (fun q => k2 q) (fun q => k1 q)) (fun q11 => ?_) (fun q11 => ?_)
      · have h := h.1 q11
        refine K_p (pc2 := 36) (lv2 := [(0, vR 64), (1, vI _), (2, vI _), (3, vI _), (4, vR _)]) (st2 := [vI _]) (fun ad S Q _ k => V_iload_n (pc2 := 36) (dk D_X11_local 17 rfl) rfl (V_lg 2 rfl) rfl k) ?_
        refine K_if (pa := 39) (pb := 60) (lv2 := [(0, vR 64), (1, vI _), (2, vI _), (3, vI _), (4, vR _)]) (st2 := []) (fun ad S Q _ k1 k2 => V_ifne (tgt := 60) (pc2 := 39) (dk D_X11_local 18 rfl) (by decide) rfl (fun q => k2 q) (fun q => k1 q)) (fun q12 => ?_) (fun q12 => ?_)
        · have h := h.1 q12
          refine K_p (pc2 := 40) (lv2 := [(0, vR 64), (1, vI _), (2, vI _), (3, vI _), (4, vR _)]) (st2 := [vI _]) (fun ad S Q _ k => V_iload_n (pc2 := 40) (dk D_X11_local 19 rfl) rfl (V_lg 3 rfl) rfl k) ?_
          refine K_if (pa := 43) (pb := 60) (lv2 := [(0, vR 64), (1, vI _), (2, vI _), (3, vI _), (4, vR _)]) (st2 := []) (fun ad S Q _ k1 k2 => V_ifne (tgt := 60) (pc2 := 43) (dk D_X11_local 20 rfl) (by decide) rfl (fun q => k2 q) (fun q => k1 q)) (fun q13 => ?_) (fun q13 => ?_)
          · have h := h.1 q13
            refine K_p (pc2 := 44) (lv2 := [(0, vR 64), (1, vI _), (2, vI _), (3, vI _), (4, vR _)]) (st2 := [vR 64]) (fun ad S Q _ k => V_aload_n (pc2 := 44) (dk D_X11_local 21 rfl) rfl (V_lg 0 rfl) rfl k) ?_
            refine K_p (pc2 := 46) (lv2 := [(0, vR 64), (1, vI _), (2, vI _), (3, vI _), (4, vR _)]) (st2 := [vR _, vR 64]) (fun ad S Q _ k => V_aload (pc2 := 46) (dk D_X11_local 22 rfl) (V_lg 4 rfl) rfl k) ?_
            obtain ⟨e14, he15, hc16⟩ := h
            refine K_call (as := [vR 64, vR _]) (st := []) (pc2 := 49) (okL.all _ ⟨(Or.inr ⟨Or.inl ⟨by decide, by decide⟩, by decide⟩), trivial, trivial, trivial, (isH.ok h10 (by decide)), trivial⟩) (okS.all _ trivial) (fun ad S Q Qc hC hc k => V_callV (as := [_]) (st := []) (M' := MX11_hasArgument) (ci := 11) (pc2 := 49) (dk D_X11_local 23 rfl) ml_11_153 mv_X11_hasArgument rfl rfl (by decide) rfl (Nat.le_of_ble_eq_true rfl) rfl he15 (hC.k' (fixH 64 11 (by decide) rfl)) hc k) hc16 (kRI.k fun y17 κ18 h mo19 => ?_)
            refine K_if (pa := 60) (pb := 52) (lv2 := [(0, vR 64), (1, vI _), (2, vI _), (3, vI _), (4, vR _)]) (st2 := []) (fun ad S Q _ k1 k2 => V_ifeq (tgt := 60) (pc2 := 52) (dk D_X11_local 24 rfl) (by decide) rfl (fun q => k1 q) (fun q => k2 q)) (fun q20 => ?_) (fun q20 => ?_)
            · have h := h.1 q20
              exact h
            · have h := h.2 q20
              refine K_p (pc2 := 54) (lv2 := [(0, vR 64), (1, vI _), (2, vI _), (3, vI _), (4, vR _)]) (st2 := [vR _]) (fun ad S Q _ k => V_aload (pc2 := 54) (dk D_X11_local 25 rfl) (V_lg 4 rfl) rfl k) ?_
              refine K_getI kc10 (pc2 := 57) 3 (dk D_X11_local 26 rfl) fl_11_157 (by decide) (fun _ _ => rfl) rfl (isH.mo h10 (by decide) mo19) ?_
              refine K_p (pc2 := 61) (lv2 := [(0, vR 64), (1, vI _), (2, vI _), (3, vI _), (4, vR _)]) (st2 := [vI _]) (fun ad S Q _ k => V_goto (tgt := 61) (dk D_X11_local 27 rfl) (by decide) k) ?_
              exact h
          · have h := h.2 q13
            exact h
        · have h := h.2 q12
          exact h
      · have h := h.2 q11
        refine K_p (pc2 := 64) (lv2 := [(0, vR 64), (1, vI _), (2, vI _), (3, vI _), (4, vR _)]) (st2 := [vR _]) (fun ad S Q _ k => V_aload (pc2 := 64) (dk D_X11_local 30 rfl) (V_lg 4 rfl) rfl k) ?_
        refine K_p (pc2 := 65) (lv2 := [(0, vR 64), (1, vI _), (2, vI _), (3, vI _), (4, vR _)]) (st2 := [vI _, vR _]) (fun ad S Q _ k => V_iload_n (pc2 := 65) (dk D_X11_local 31 rfl) rfl (V_lg 2 rfl) rfl k) ?_
        obtain ⟨e21, he22, hc23⟩ := h
        refine K_call (as := [vR _, vI _]) (st := []) (pc2 := 68) (okL.all _ ⟨(Or.inr ⟨Or.inl ⟨by decide, by decide⟩, by decide⟩), trivial, trivial, trivial, (isH.ok h10 (by decide)), trivial⟩) (okS.all _ trivial) (fun ad S Q Qc hC hc k => V_callV (as := [_]) (st := []) (M' := MX10_frameOf) (ci := 10) (pc2 := 68) (dk D_X11_local 32 rfl) ml_11_160 mv_X10_frameOf rfl rfl (by decide) rfl (Nat.le_of_ble_eq_true rfl) rfl he22 (hC.k' h10) hc k) hc23 (kRI.k fun y24 κ25 h mo26 => ?_)
        refine K_p (pc2 := 70) (lv2 := [(0, vR 64), (1, vI _), (2, vI _), (3, vI _), (4, vR _), (5, vI _)]) (st2 := []) (fun ad S Q _ k => V_istore (pc2 := 70) (lv2 := [(0, _), (1, _), (2, _), (3, _), (4, _), (5, _)]) (dk D_X11_local 33 rfl) (by decide) rfl rfl k) ?_
        refine K_p (pc2 := 71) (lv2 := [(0, vR 64), (1, vI _), (2, vI _), (3, vI _), (4, vR _), (5, vI _)]) (st2 := [vI _]) (fun ad S Q _ k => V_iload_n (pc2 := 71) (dk D_X11_local 34 rfl) rfl (V_lg 3 rfl) rfl k) ?_
        refine K_if (pa := 85) (pb := 74) (lv2 := [(0, vR 64), (1, vI _), (2, vI _), (3, vI _), (4, vR _), (5, vI _)]) (st2 := []) (fun ad S Q _ k1 k2 => V_iflt (tgt := 85) (pc2 := 74) (dk D_X11_local 35 rfl) (by decide) rfl (fun q => k1 q) (fun q => k2 q)) (fun q27 => ?_) (fun q27 => ?_)
        · have h := h.1 q27
          exact h
        · have h := h.2 q27
          refine K_p (pc2 := 75) (lv2 := [(0, vR 64), (1, vI _), (2, vI _), (3, vI _), (4, vR _), (5, vI _)]) (st2 := [vI _]) (fun ad S Q _ k => V_iload_n (pc2 := 75) (dk D_X11_local 36 rfl) rfl (V_lg 3 rfl) rfl k) ?_
          refine K_p (pc2 := 77) (lv2 := [(0, vR 64), (1, vI _), (2, vI _), (3, vI _), (4, vR _), (5, vI _)]) (st2 := [vR _, vI _]) (fun ad S Q _ k => V_aload (pc2 := 77) (dk D_X11_local 37 rfl) (V_lg 4 rfl) rfl k) ?_
          refine K_p (pc2 := 79) (lv2 := [(0, vR 64), (1, vI _), (2, vI _), (3, vI _), (4, vR _), (5, vI _)]) (st2 := [vI _, vR _, vI _]) (fun ad S Q _ k => V_iload (pc2 := 79) (dk D_X11_local 38 rfl) (V_lg 5 rfl) rfl k) ?_
          obtain ⟨e28, he29, hc30⟩ := h
          refine K_call (as := [vR _, vI _]) (st := [vI _]) (pc2 := 82) (okL.all _ ⟨(Or.inr ⟨Or.inl ⟨by decide, by decide⟩, by decide⟩), trivial, trivial, trivial, (isH.ok (isH.mo h10 (by decide) mo26) (by decide)), trivial, trivial⟩) (okS.all _ ⟨trivial, trivial⟩) (fun ad S Q Qc hC hc k => V_callV (as := [_]) (st := [_]) (M' := MX10_variablesOf) (ci := 10) (pc2 := 82) (dk D_X11_local 39 rfl) ml_11_163 mv_X10_variablesOf rfl rfl (by decide) rfl (Nat.le_of_ble_eq_true rfl) rfl he29 (hC.k' (isH.mo h10 (by decide) mo26)) hc k) hc30 (kRI.k fun y31 κ32 h mo33 => ?_)
          refine K_if (pa := 89) (pb := 85) (lv2 := [(0, vR 64), (1, vI _), (2, vI _), (3, vI _), (4, vR _), (5, vI _)]) (st2 := []) (fun ad S Q _ k1 k2 => V_cmplt (tgt := 89) (pc2 := 85) (dk D_X11_local 40 rfl) (by decide) rfl (fun q => k1 q) (fun q => k2 q)) (fun q34 => ?_) (fun q34 => ?_)
          · have h := h.1 q34
            refine K_p (pc2 := 91) (lv2 := [(0, vR 64), (1, vI _), (2, vI _), (3, vI _), (4, vR _), (5, vI _)]) (st2 := [vR _]) (fun ad S Q _ k => V_aload (pc2 := 91) (dk D_X11_local 43 rfl) (V_lg 4 rfl) rfl k) ?_
            refine K_p (pc2 := 93) (lv2 := [(0, vR 64), (1, vI _), (2, vI _), (3, vI _), (4, vR _), (5, vI _)]) (st2 := [vI _, vR _]) (fun ad S Q _ k => V_iload (pc2 := 93) (dk D_X11_local 44 rfl) (V_lg 5 rfl) rfl k) ?_
            refine K_p (pc2 := 94) (lv2 := [(0, vR 64), (1, vI _), (2, vI _), (3, vI _), (4, vR _), (5, vI _)]) (st2 := [vI _, vI _, vR _]) (fun ad S Q _ k => V_iload_n (pc2 := 94) (dk D_X11_local 45 rfl) rfl (V_lg 3 rfl) rfl k) ?_
            obtain ⟨e35, he36, hc37⟩ := h
            refine K_call (as := [vR _, vI _, vI _]) (st := []) (pc2 := 97) (okL.all _ ⟨(Or.inr ⟨Or.inl ⟨by decide, by decide⟩, by decide⟩), trivial, trivial, trivial, (isH.ok (isH.mo (isH.mo h10 (by decide) mo26) (by decide) mo33) (by decide)), trivial, trivial⟩) (okS.all _ trivial) (fun ad S Q Qc hC hc k => V_callV (as := [_, _]) (st := []) (M' := MX10_variable) (ci := 10) (pc2 := 97) (dk D_X11_local 46 rfl) ml_11_166 mv_X10_variable rfl rfl (by decide) rfl (Nat.le_of_ble_eq_true rfl) rfl he36 (hC.k' (isH.mo (isH.mo h10 (by decide) mo26) (by decide) mo33)) hc k) hc37 (kRI.k fun y38 κ39 h mo40 => ?_)
            exact h
          · have h := h.2 q34
            exact h
theorem k_11_local_60 {X : Cx} {d : Nat} {κ : Km} {Q : Res → Km → Prop} (x1 : Int32) (x2 : Int32) (x3 : Int32) (r4 : Nat) (h : K X d MX11_local 61 [(0, vR 64), (1, vI x1), (2, vI x2), (3, vI x3), (4, vR r4)] [vI (-1)] κ Q) : K X d MX11_local 60 [(0, vR 64), (1, vI x1), (2, vI x2), (3, vI x3), (4, vR r4)] [] κ Q := by
  refine K_p (pc2 := 61) (lv2 := [(0, vR 64), (1, vI _), (2, vI _), (3, vI _), (4, vR _)]) (st2 := [vI _]) (fun ad S Q _ k => V_iconst (x := (-1)) (pc2 := 61) (dk D_X11_local 28 rfl) (by decide) rfl k) ?_
  exact h
theorem k_11_local_61 {X : Cx} {d : Nat} {κ : Km} {Q : Res → Km → Prop} (x1 : Int32) (x2 : Int32) (x3 : Int32) (r4 : Nat) (t0 : Int32) (h : Q (.inl (some (vI t0))) κ) : K X d MX11_local 61 [(0, vR 64), (1, vI x1), (2, vI x2), (3, vI x3), (4, vR r4)] [vI t0] κ Q := by
  exact K_ret (r := .inl (some (vI _))) (fun ad S Q _ k => V_ireturn (dk D_X11_local 29 rfl) rfl k) h
theorem k_11_local_85 {X : Cx} {d : Nat} {κ : Km} {Q : Res → Km → Prop} (x1 : Int32) (x2 : Int32) (x3 : Int32) (r4 : Nat) (x5 : Int32) (h : K X d MX11_local 97 [(0, vR 64), (1, vI x1), (2, vI x2), (3, vI x3), (4, vR r4), (5, vI x5)] [vI (-1)] κ Q) : K X d MX11_local 85 [(0, vR 64), (1, vI x1), (2, vI x2), (3, vI x3), (4, vR r4), (5, vI x5)] [] κ Q := by
  refine K_p (pc2 := 86) (lv2 := [(0, vR 64), (1, vI _), (2, vI _), (3, vI _), (4, vR _), (5, vI _)]) (st2 := [vI _]) (fun ad S Q _ k => V_iconst (x := (-1)) (pc2 := 86) (dk D_X11_local 41 rfl) (by decide) rfl k) ?_
  refine K_p (pc2 := 97) (lv2 := [(0, vR 64), (1, vI _), (2, vI _), (3, vI _), (4, vR _), (5, vI _)]) (st2 := [vI _]) (fun ad S Q _ k => V_goto (tgt := 97) (dk D_X11_local 42 rfl) (by decide) k) ?_
  exact h
theorem k_11_local_97 {X : Cx} {d : Nat} {κ : Km} {Q : Res → Km → Prop} (x1 : Int32) (x2 : Int32) (x3 : Int32) (r4 : Nat) (x5 : Int32) (t0 : Int32) (h : Q (.inl (some (vI t0))) κ) : K X d MX11_local 97 [(0, vR 64), (1, vI x1), (2, vI x2), (3, vI x3), (4, vR r4), (5, vI x5)] [vI t0] κ Q := by
  exact K_ret (r := .inl (some (vI _))) (fun ad S Q _ k => V_ireturn (dk D_X11_local 47 rfl) rfl k) h
theorem k_11_lines_0 {X : Cx} {d : Nat} {κ : Km} {Q : Res → Km → Prop}  (h : (((kI κ 64 5) = 0 → K X d MX11_lines 22 [(0, vR 64)] [vI (-2)] κ Q) ∧ (¬ (kI κ 64 5) = 0 → ∃ e2 : Nat, e2 + 1 ≤ d ∧ KC' X e2 MX4_total [vR 80] κ (kRI fun y5 κ6 => K X d MX11_lines 22 [(0, vR 64)] [vI y5] κ6 Q)))) : K X d MX11_lines 0 [(0, vR 64)] [] κ Q := by
  refine K_p (pc2 := 1) (lv2 := [(0, vR 64)]) (st2 := [vR 64]) (fun ad S Q _ k => V_aload_n (pc2 := 1) (dk D_X11_lines 0 rfl) rfl (V_lg 0 rfl) rfl k) ?_
  refine K_getI kc11 (pc2 := 4) 5 (dk D_X11_lines 1 rfl) fl_11_77 (by decide) (fun _ _ => rfl) rfl (fixH 64 11 (by decide) rfl) ?_
  refine K_if (pa := 20) (pb := 7) (lv2 := [(0, vR 64)]) (st2 := []) (fun ad S Q _ k1 k2 => V_ifeq (tgt := 20) (pc2 := 7) (dk D_X11_lines 2 rfl) (by decide) rfl (fun q => k1 q) (fun q => k2 q)) (fun q1 => ?_) (fun q1 => ?_)
  · have h := h.1 q1
    refine K_p (pc2 := 22) (lv2 := [(0, vR 64)]) (st2 := [vI _]) (fun ad S Q _ k => V_bipush (x := (-2)) (pc2 := 22) (dk D_X11_lines 8 rfl) (by decide) rfl k) ?_
    exact h
  · have h := h.2 q1
    refine K_p (pc2 := 8) (lv2 := [(0, vR 64)]) (st2 := [vR 64]) (fun ad S Q _ k => V_aload_n (pc2 := 8) (dk D_X11_lines 3 rfl) rfl (V_lg 0 rfl) rfl k) ?_
    refine K_getF kc11 (h' := 79) (pc2 := 11) 4 (by decide) (dk D_X11_lines 4 rfl) fl_11_49 (by decide) (fun _ _ => rfl) rfl (fixH 64 11 (by decide) rfl) (by decide) ?_
    refine K_getF kc6 (h' := 80) (pc2 := 14) 0 (by decide) (dk D_X11_lines 5 rfl) fl_11_170 (by decide) (fun _ _ => rfl) rfl (fixH 79 6 (by decide) rfl) (by decide) ?_
    obtain ⟨e2, he3, hc4⟩ := h
    refine K_call (as := [vR 80]) (st := []) (pc2 := 17) (okL.all _ ⟨(Or.inr ⟨Or.inl ⟨by decide, by decide⟩, by decide⟩), trivial⟩) (okS.all _ trivial) (fun ad S Q Qc hC hc k => V_callV (as := []) (st := []) (M' := MX4_total) (ci := 4) (pc2 := 17) (dk D_X11_lines 6 rfl) ml_11_174 mv_X4_total rfl rfl (by decide) rfl (Nat.le_of_ble_eq_true rfl) rfl he3 (hC.k' (fixH 80 4 (by decide) rfl)) hc k) hc4 (kRI.k fun y5 κ6 h mo7 => ?_)
    refine K_p (pc2 := 22) (lv2 := [(0, vR 64)]) (st2 := [vI _]) (fun ad S Q _ k => V_goto (tgt := 22) (dk D_X11_lines 7 rfl) (by decide) k) ?_
    exact h
theorem k_11_lines_22 {X : Cx} {d : Nat} {κ : Km} {Q : Res → Km → Prop} (t0 : Int32) (h : Q (.inl (some (vI t0))) κ) : K X d MX11_lines 22 [(0, vR 64)] [vI t0] κ Q := by
  exact K_ret (r := .inl (some (vI _))) (fun ad S Q _ k => V_ireturn (dk D_X11_lines 9 rfl) rfl k) h
theorem k_11_line_0 {X : Cx} {d : Nat} {κ : Km} {Q : Res → Km → Prop} (x1 : Int32) (x2 : Int32) (h : (((kI κ 64 5) = 0 → K X d MX11_line 24 [(0, vR 64), (1, vI x1), (2, vI x2)] [vI (-2)] κ Q) ∧ (¬ (kI κ 64 5) = 0 → ∃ e2 : Nat, e2 + 1 ≤ d ∧ KC' X e2 MX11_kept [vR 80, vI x1, vI x2] κ (kRI fun y5 κ6 => K X d MX11_line 24 [(0, vR 64), (1, vI x1), (2, vI x2)] [vI y5] κ6 Q)))) : K X d MX11_line 0 [(0, vR 64), (1, vI x1), (2, vI x2)] [] κ Q := by
  refine K_p (pc2 := 1) (lv2 := [(0, vR 64), (1, vI _), (2, vI _)]) (st2 := [vR 64]) (fun ad S Q _ k => V_aload_n (pc2 := 1) (dk D_X11_line 0 rfl) rfl (V_lg 0 rfl) rfl k) ?_
  refine K_getI kc11 (pc2 := 4) 5 (dk D_X11_line 1 rfl) fl_11_77 (by decide) (fun _ _ => rfl) rfl (fixH 64 11 (by decide) rfl) ?_
  refine K_if (pa := 22) (pb := 7) (lv2 := [(0, vR 64), (1, vI _), (2, vI _)]) (st2 := []) (fun ad S Q _ k1 k2 => V_ifeq (tgt := 22) (pc2 := 7) (dk D_X11_line 2 rfl) (by decide) rfl (fun q => k1 q) (fun q => k2 q)) (fun q1 => ?_) (fun q1 => ?_)
  · have h := h.1 q1
    refine K_p (pc2 := 24) (lv2 := [(0, vR 64), (1, vI _), (2, vI _)]) (st2 := [vI _]) (fun ad S Q _ k => V_bipush (x := (-2)) (pc2 := 24) (dk D_X11_line 10 rfl) (by decide) rfl k) ?_
    exact h
  · have h := h.2 q1
    refine K_p (pc2 := 8) (lv2 := [(0, vR 64), (1, vI _), (2, vI _)]) (st2 := [vR 64]) (fun ad S Q _ k => V_aload_n (pc2 := 8) (dk D_X11_line 3 rfl) rfl (V_lg 0 rfl) rfl k) ?_
    refine K_getF kc11 (h' := 79) (pc2 := 11) 4 (by decide) (dk D_X11_line 4 rfl) fl_11_49 (by decide) (fun _ _ => rfl) rfl (fixH 64 11 (by decide) rfl) (by decide) ?_
    refine K_getF kc6 (h' := 80) (pc2 := 14) 0 (by decide) (dk D_X11_line 5 rfl) fl_11_170 (by decide) (fun _ _ => rfl) rfl (fixH 79 6 (by decide) rfl) (by decide) ?_
    refine K_p (pc2 := 15) (lv2 := [(0, vR 64), (1, vI _), (2, vI _)]) (st2 := [vI _, vR 80]) (fun ad S Q _ k => V_iload_n (pc2 := 15) (dk D_X11_line 6 rfl) rfl (V_lg 1 rfl) rfl k) ?_
    refine K_p (pc2 := 16) (lv2 := [(0, vR 64), (1, vI _), (2, vI _)]) (st2 := [vI _, vI _, vR 80]) (fun ad S Q _ k => V_iload_n (pc2 := 16) (dk D_X11_line 7 rfl) rfl (V_lg 2 rfl) rfl k) ?_
    obtain ⟨e2, he3, hc4⟩ := h
    refine K_call (as := [vR 80, vI _, vI _]) (st := []) (pc2 := 19) (okL.all _ ⟨(Or.inr ⟨Or.inl ⟨by decide, by decide⟩, by decide⟩), trivial, trivial, trivial⟩) (okS.all _ trivial) (fun ad S Q Qc hC hc k => V_callS (as := [_, _, _]) (st := []) (M' := MX11_kept) (pc2 := 19) (dk D_X11_line 8 rfl) ml_11_179 mv_X11_kept rfl rfl (Nat.le_of_ble_eq_true rfl) rfl he3 hc k) hc4 (kRI.k fun y5 κ6 h mo7 => ?_)
    refine K_p (pc2 := 24) (lv2 := [(0, vR 64), (1, vI _), (2, vI _)]) (st2 := [vI _]) (fun ad S Q _ k => V_goto (tgt := 24) (dk D_X11_line 9 rfl) (by decide) k) ?_
    exact h
theorem k_11_line_24 {X : Cx} {d : Nat} {κ : Km} {Q : Res → Km → Prop} (x1 : Int32) (x2 : Int32) (t0 : Int32) (h : Q (.inl (some (vI t0))) κ) : K X d MX11_line 24 [(0, vR 64), (1, vI x1), (2, vI x2)] [vI t0] κ Q := by
  exact K_ret (r := .inl (some (vI _))) (fun ad S Q _ k => V_ireturn (dk D_X11_line 11 rfl) rfl k) h
theorem k_11_handings_0 {X : Cx} {d : Nat} {κ : Km} {Q : Res → Km → Prop}  (h : (((kI κ 64 5) = 0 → K X d MX11_handings 22 [(0, vR 64)] [vI (-2)] κ Q) ∧ (¬ (kI κ 64 5) = 0 → ∃ e2 : Nat, e2 + 1 ≤ d ∧ KC' X e2 MX4_total [vR 82] κ (kRI fun y5 κ6 => K X d MX11_handings 22 [(0, vR 64)] [vI y5] κ6 Q)))) : K X d MX11_handings 0 [(0, vR 64)] [] κ Q := by
  refine K_p (pc2 := 1) (lv2 := [(0, vR 64)]) (st2 := [vR 64]) (fun ad S Q _ k => V_aload_n (pc2 := 1) (dk D_X11_handings 0 rfl) rfl (V_lg 0 rfl) rfl k) ?_
  refine K_getI kc11 (pc2 := 4) 5 (dk D_X11_handings 1 rfl) fl_11_77 (by decide) (fun _ _ => rfl) rfl (fixH 64 11 (by decide) rfl) ?_
  refine K_if (pa := 20) (pb := 7) (lv2 := [(0, vR 64)]) (st2 := []) (fun ad S Q _ k1 k2 => V_ifeq (tgt := 20) (pc2 := 7) (dk D_X11_handings 2 rfl) (by decide) rfl (fun q => k1 q) (fun q => k2 q)) (fun q1 => ?_) (fun q1 => ?_)
  · have h := h.1 q1
    refine K_p (pc2 := 22) (lv2 := [(0, vR 64)]) (st2 := [vI _]) (fun ad S Q _ k => V_bipush (x := (-2)) (pc2 := 22) (dk D_X11_handings 8 rfl) (by decide) rfl k) ?_
    exact h
  · have h := h.2 q1
    refine K_p (pc2 := 8) (lv2 := [(0, vR 64)]) (st2 := [vR 64]) (fun ad S Q _ k => V_aload_n (pc2 := 8) (dk D_X11_handings 3 rfl) rfl (V_lg 0 rfl) rfl k) ?_
    refine K_getF kc11 (h' := 79) (pc2 := 11) 4 (by decide) (dk D_X11_handings 4 rfl) fl_11_49 (by decide) (fun _ _ => rfl) rfl (fixH 64 11 (by decide) rfl) (by decide) ?_
    refine K_getF kc6 (h' := 82) (pc2 := 14) 1 (by decide) (dk D_X11_handings 5 rfl) fl_11_183 (by decide) (fun _ _ => rfl) rfl (fixH 79 6 (by decide) rfl) (by decide) ?_
    obtain ⟨e2, he3, hc4⟩ := h
    refine K_call (as := [vR 82]) (st := []) (pc2 := 17) (okL.all _ ⟨(Or.inr ⟨Or.inl ⟨by decide, by decide⟩, by decide⟩), trivial⟩) (okS.all _ trivial) (fun ad S Q Qc hC hc k => V_callV (as := []) (st := []) (M' := MX4_total) (ci := 4) (pc2 := 17) (dk D_X11_handings 6 rfl) ml_11_174 mv_X4_total rfl rfl (by decide) rfl (Nat.le_of_ble_eq_true rfl) rfl he3 (hC.k' (fixH 82 4 (by decide) rfl)) hc k) hc4 (kRI.k fun y5 κ6 h mo7 => ?_)
    refine K_p (pc2 := 22) (lv2 := [(0, vR 64)]) (st2 := [vI _]) (fun ad S Q _ k => V_goto (tgt := 22) (dk D_X11_handings 7 rfl) (by decide) k) ?_
    exact h
theorem k_11_handings_22 {X : Cx} {d : Nat} {κ : Km} {Q : Res → Km → Prop} (t0 : Int32) (h : Q (.inl (some (vI t0))) κ) : K X d MX11_handings 22 [(0, vR 64)] [vI t0] κ Q := by
  exact K_ret (r := .inl (some (vI _))) (fun ad S Q _ k => V_ireturn (dk D_X11_handings 9 rfl) rfl k) h
theorem k_11_handing_0 {X : Cx} {d : Nat} {κ : Km} {Q : Res → Km → Prop} (x1 : Int32) (x2 : Int32) (h : (((kI κ 64 5) = 0 → K X d MX11_handing 24 [(0, vR 64), (1, vI x1), (2, vI x2)] [vI (-2)] κ Q) ∧ (¬ (kI κ 64 5) = 0 → ∃ e2 : Nat, e2 + 1 ≤ d ∧ KC' X e2 MX11_kept [vR 82, vI x1, vI x2] κ (kRI fun y5 κ6 => K X d MX11_handing 24 [(0, vR 64), (1, vI x1), (2, vI x2)] [vI y5] κ6 Q)))) : K X d MX11_handing 0 [(0, vR 64), (1, vI x1), (2, vI x2)] [] κ Q := by
  refine K_p (pc2 := 1) (lv2 := [(0, vR 64), (1, vI _), (2, vI _)]) (st2 := [vR 64]) (fun ad S Q _ k => V_aload_n (pc2 := 1) (dk D_X11_handing 0 rfl) rfl (V_lg 0 rfl) rfl k) ?_
  refine K_getI kc11 (pc2 := 4) 5 (dk D_X11_handing 1 rfl) fl_11_77 (by decide) (fun _ _ => rfl) rfl (fixH 64 11 (by decide) rfl) ?_
  refine K_if (pa := 22) (pb := 7) (lv2 := [(0, vR 64), (1, vI _), (2, vI _)]) (st2 := []) (fun ad S Q _ k1 k2 => V_ifeq (tgt := 22) (pc2 := 7) (dk D_X11_handing 2 rfl) (by decide) rfl (fun q => k1 q) (fun q => k2 q)) (fun q1 => ?_) (fun q1 => ?_)
  · have h := h.1 q1
    refine K_p (pc2 := 24) (lv2 := [(0, vR 64), (1, vI _), (2, vI _)]) (st2 := [vI _]) (fun ad S Q _ k => V_bipush (x := (-2)) (pc2 := 24) (dk D_X11_handing 10 rfl) (by decide) rfl k) ?_
    exact h
  · have h := h.2 q1
    refine K_p (pc2 := 8) (lv2 := [(0, vR 64), (1, vI _), (2, vI _)]) (st2 := [vR 64]) (fun ad S Q _ k => V_aload_n (pc2 := 8) (dk D_X11_handing 3 rfl) rfl (V_lg 0 rfl) rfl k) ?_
    refine K_getF kc11 (h' := 79) (pc2 := 11) 4 (by decide) (dk D_X11_handing 4 rfl) fl_11_49 (by decide) (fun _ _ => rfl) rfl (fixH 64 11 (by decide) rfl) (by decide) ?_
    refine K_getF kc6 (h' := 82) (pc2 := 14) 1 (by decide) (dk D_X11_handing 5 rfl) fl_11_183 (by decide) (fun _ _ => rfl) rfl (fixH 79 6 (by decide) rfl) (by decide) ?_
    refine K_p (pc2 := 15) (lv2 := [(0, vR 64), (1, vI _), (2, vI _)]) (st2 := [vI _, vR 82]) (fun ad S Q _ k => V_iload_n (pc2 := 15) (dk D_X11_handing 6 rfl) rfl (V_lg 1 rfl) rfl k) ?_
    refine K_p (pc2 := 16) (lv2 := [(0, vR 64), (1, vI _), (2, vI _)]) (st2 := [vI _, vI _, vR 82]) (fun ad S Q _ k => V_iload_n (pc2 := 16) (dk D_X11_handing 7 rfl) rfl (V_lg 2 rfl) rfl k) ?_
    obtain ⟨e2, he3, hc4⟩ := h
    refine K_call (as := [vR 82, vI _, vI _]) (st := []) (pc2 := 19) (okL.all _ ⟨(Or.inr ⟨Or.inl ⟨by decide, by decide⟩, by decide⟩), trivial, trivial, trivial⟩) (okS.all _ trivial) (fun ad S Q Qc hC hc k => V_callS (as := [_, _, _]) (st := []) (M' := MX11_kept) (pc2 := 19) (dk D_X11_handing 8 rfl) ml_11_179 mv_X11_kept rfl rfl (Nat.le_of_ble_eq_true rfl) rfl he3 hc k) hc4 (kRI.k fun y5 κ6 h mo7 => ?_)
    refine K_p (pc2 := 24) (lv2 := [(0, vR 64), (1, vI _), (2, vI _)]) (st2 := [vI _]) (fun ad S Q _ k => V_goto (tgt := 24) (dk D_X11_handing 9 rfl) (by decide) k) ?_
    exact h
theorem k_11_handing_24 {X : Cx} {d : Nat} {κ : Km} {Q : Res → Km → Prop} (x1 : Int32) (x2 : Int32) (t0 : Int32) (h : Q (.inl (some (vI t0))) κ) : K X d MX11_handing 24 [(0, vR 64), (1, vI x1), (2, vI x2)] [vI t0] κ Q := by
  exact K_ret (r := .inl (some (vI _))) (fun ad S Q _ k => V_ireturn (dk D_X11_handing 11 rfl) rfl k) h
theorem k_11_failures_0 {X : Cx} {d : Nat} {κ : Km} {Q : Res → Km → Prop}  (h : (((kI κ 64 5) = 0 → K X d MX11_failures 22 [(0, vR 64)] [vI (-2)] κ Q) ∧ (¬ (kI κ 64 5) = 0 → ∃ e2 : Nat, e2 + 1 ≤ d ∧ KC' X e2 MX2_listed [vR 84] κ (kRI fun y5 κ6 => K X d MX11_failures 22 [(0, vR 64)] [vI y5] κ6 Q)))) : K X d MX11_failures 0 [(0, vR 64)] [] κ Q := by
  refine K_p (pc2 := 1) (lv2 := [(0, vR 64)]) (st2 := [vR 64]) (fun ad S Q _ k => V_aload_n (pc2 := 1) (dk D_X11_failures 0 rfl) rfl (V_lg 0 rfl) rfl k) ?_
  refine K_getI kc11 (pc2 := 4) 5 (dk D_X11_failures 1 rfl) fl_11_77 (by decide) (fun _ _ => rfl) rfl (fixH 64 11 (by decide) rfl) ?_
  refine K_if (pa := 20) (pb := 7) (lv2 := [(0, vR 64)]) (st2 := []) (fun ad S Q _ k1 k2 => V_ifeq (tgt := 20) (pc2 := 7) (dk D_X11_failures 2 rfl) (by decide) rfl (fun q => k1 q) (fun q => k2 q)) (fun q1 => ?_) (fun q1 => ?_)
  · have h := h.1 q1
    refine K_p (pc2 := 22) (lv2 := [(0, vR 64)]) (st2 := [vI _]) (fun ad S Q _ k => V_bipush (x := (-2)) (pc2 := 22) (dk D_X11_failures 8 rfl) (by decide) rfl k) ?_
    exact h
  · have h := h.2 q1
    refine K_p (pc2 := 8) (lv2 := [(0, vR 64)]) (st2 := [vR 64]) (fun ad S Q _ k => V_aload_n (pc2 := 8) (dk D_X11_failures 3 rfl) rfl (V_lg 0 rfl) rfl k) ?_
    refine K_getF kc11 (h' := 79) (pc2 := 11) 4 (by decide) (dk D_X11_failures 4 rfl) fl_11_49 (by decide) (fun _ _ => rfl) rfl (fixH 64 11 (by decide) rfl) (by decide) ?_
    refine K_getF kc6 (h' := 84) (pc2 := 14) 2 (by decide) (dk D_X11_failures 5 rfl) fl_11_186 (by decide) (fun _ _ => rfl) rfl (fixH 79 6 (by decide) rfl) (by decide) ?_
    obtain ⟨e2, he3, hc4⟩ := h
    refine K_call (as := [vR 84]) (st := []) (pc2 := 17) (okL.all _ ⟨(Or.inr ⟨Or.inl ⟨by decide, by decide⟩, by decide⟩), trivial⟩) (okS.all _ trivial) (fun ad S Q Qc hC hc k => V_callV (as := []) (st := []) (M' := MX2_listed) (ci := 2) (pc2 := 17) (dk D_X11_failures 6 rfl) ml_11_190 mv_X2_listed rfl rfl (by decide) rfl (Nat.le_of_ble_eq_true rfl) rfl he3 (hC.k' (fixH 84 2 (by decide) rfl)) hc k) hc4 (kRI.k fun y5 κ6 h mo7 => ?_)
    refine K_p (pc2 := 22) (lv2 := [(0, vR 64)]) (st2 := [vI _]) (fun ad S Q _ k => V_goto (tgt := 22) (dk D_X11_failures 7 rfl) (by decide) k) ?_
    exact h
theorem k_11_failures_22 {X : Cx} {d : Nat} {κ : Km} {Q : Res → Km → Prop} (t0 : Int32) (h : Q (.inl (some (vI t0))) κ) : K X d MX11_failures 22 [(0, vR 64)] [vI t0] κ Q := by
  exact K_ret (r := .inl (some (vI _))) (fun ad S Q _ k => V_ireturn (dk D_X11_failures 9 rfl) rfl k) h
theorem k_11_failure_0 {X : Cx} {d : Nat} {κ : Km} {Q : Res → Km → Prop} (x1 : Int32) (x2 : Int32) (h : (((kI κ 64 5) = 0 → Q (.inl (some (vI (-2)))) κ) ∧ (¬ (kI κ 64 5) = 0 → ((x1 < 0 → K X d MX11_failure 37 [(0, vR 64), (1, vI x1), (2, vI x2)] [] κ Q) ∧ (¬ x1 < 0 → ∃ e3 : Nat, e3 + 1 ≤ d ∧ KC' X e3 MX2_listed [vR 84] κ (kRI fun y6 κ7 => ((y6 ≤ x1 → K X d MX11_failure 37 [(0, vR 64), (1, vI x1), (2, vI x2)] [] κ7 Q) ∧ (¬ y6 ≤ x1 → ((x2 < 0 → K X d MX11_failure 37 [(0, vR 64), (1, vI x1), (2, vI x2)] [] κ7 Q) ∧ (¬ x2 < 0 → ((x2 ≤ 5 → ∃ e12 : Nat, e12 + 1 ≤ d ∧ KC' X e12 MX2_fact [vR 84, vI x1, vI x2] κ7 (kRI fun y15 κ16 => Q (.inl (some (vI y15))) κ16)) ∧ (¬ x2 ≤ 5 → K X d MX11_failure 37 [(0, vR 64), (1, vI x1), (2, vI x2)] [] κ7 Q)))))))))))) : K X d MX11_failure 0 [(0, vR 64), (1, vI x1), (2, vI x2)] [] κ Q := by
  refine K_p (pc2 := 1) (lv2 := [(0, vR 64), (1, vI _), (2, vI _)]) (st2 := [vR 64]) (fun ad S Q _ k => V_aload_n (pc2 := 1) (dk D_X11_failure 0 rfl) rfl (V_lg 0 rfl) rfl k) ?_
  refine K_getI kc11 (pc2 := 4) 5 (dk D_X11_failure 1 rfl) fl_11_77 (by decide) (fun _ _ => rfl) rfl (fixH 64 11 (by decide) rfl) ?_
  refine K_if (pa := 7) (pb := 10) (lv2 := [(0, vR 64), (1, vI _), (2, vI _)]) (st2 := []) (fun ad S Q _ k1 k2 => V_ifne (tgt := 10) (pc2 := 7) (dk D_X11_failure 2 rfl) (by decide) rfl (fun q => k2 q) (fun q => k1 q)) (fun q1 => ?_) (fun q1 => ?_)
  · have h := h.1 q1
    refine K_p (pc2 := 9) (lv2 := [(0, vR 64), (1, vI _), (2, vI _)]) (st2 := [vI _]) (fun ad S Q _ k => V_bipush (x := (-2)) (pc2 := 9) (dk D_X11_failure 3 rfl) (by decide) rfl k) ?_
    exact K_ret (r := .inl (some (vI _))) (fun ad S Q _ k => V_ireturn (dk D_X11_failure 4 rfl) rfl k) h
  · have h := h.2 q1
    refine K_p (pc2 := 11) (lv2 := [(0, vR 64), (1, vI _), (2, vI _)]) (st2 := [vI _]) (fun ad S Q _ k => V_iload_n (pc2 := 11) (dk D_X11_failure 5 rfl) rfl (V_lg 1 rfl) rfl k) ?_
    refine K_if (pa := 37) (pb := 14) (lv2 := [(0, vR 64), (1, vI _), (2, vI _)]) (st2 := []) (fun ad S Q _ k1 k2 => V_iflt (tgt := 37) (pc2 := 14) (dk D_X11_failure 6 rfl) (by decide) rfl (fun q => k1 q) (fun q => k2 q)) (fun q2 => ?_) (fun q2 => ?_)
    · have h := h.1 q2
      exact h
    · have h := h.2 q2
      refine K_p (pc2 := 15) (lv2 := [(0, vR 64), (1, vI _), (2, vI _)]) (st2 := [vI _]) (fun ad S Q _ k => V_iload_n (pc2 := 15) (dk D_X11_failure 7 rfl) rfl (V_lg 1 rfl) rfl k) ?_
      refine K_p (pc2 := 16) (lv2 := [(0, vR 64), (1, vI _), (2, vI _)]) (st2 := [vR 64, vI _]) (fun ad S Q _ k => V_aload_n (pc2 := 16) (dk D_X11_failure 8 rfl) rfl (V_lg 0 rfl) rfl k) ?_
      refine K_getF kc11 (h' := 79) (pc2 := 19) 4 (by decide) (dk D_X11_failure 9 rfl) fl_11_49 (by decide) (fun _ _ => rfl) rfl (fixH 64 11 (by decide) rfl) (by decide) ?_
      refine K_getF kc6 (h' := 84) (pc2 := 22) 2 (by decide) (dk D_X11_failure 10 rfl) fl_11_186 (by decide) (fun _ _ => rfl) rfl (fixH 79 6 (by decide) rfl) (by decide) ?_
      obtain ⟨e3, he4, hc5⟩ := h
      refine K_call (as := [vR 84]) (st := [vI _]) (pc2 := 25) (okL.all _ ⟨(Or.inr ⟨Or.inl ⟨by decide, by decide⟩, by decide⟩), trivial, trivial, trivial⟩) (okS.all _ ⟨trivial, trivial⟩) (fun ad S Q Qc hC hc k => V_callV (as := []) (st := [_]) (M' := MX2_listed) (ci := 2) (pc2 := 25) (dk D_X11_failure 11 rfl) ml_11_190 mv_X2_listed rfl rfl (by decide) rfl (Nat.le_of_ble_eq_true rfl) rfl he4 (hC.k' (fixH 84 2 (by decide) rfl)) hc k) hc5 (kRI.k fun y6 κ7 h mo8 => ?_)
      refine K_if (pa := 37) (pb := 28) (lv2 := [(0, vR 64), (1, vI _), (2, vI _)]) (st2 := []) (fun ad S Q _ k1 k2 => V_cmpge (tgt := 37) (pc2 := 28) (dk D_X11_failure 12 rfl) (by decide) rfl (fun q => k1 q) (fun q => k2 q)) (fun q9 => ?_) (fun q9 => ?_)
      · have h := h.1 q9
        exact h
      · have h := h.2 q9
        refine K_p (pc2 := 29) (lv2 := [(0, vR 64), (1, vI _), (2, vI _)]) (st2 := [vI _]) (fun ad S Q _ k => V_iload_n (pc2 := 29) (dk D_X11_failure 13 rfl) rfl (V_lg 2 rfl) rfl k) ?_
        refine K_if (pa := 37) (pb := 32) (lv2 := [(0, vR 64), (1, vI _), (2, vI _)]) (st2 := []) (fun ad S Q _ k1 k2 => V_iflt (tgt := 37) (pc2 := 32) (dk D_X11_failure 14 rfl) (by decide) rfl (fun q => k1 q) (fun q => k2 q)) (fun q10 => ?_) (fun q10 => ?_)
        · have h := h.1 q10
          exact h
        · have h := h.2 q10
          refine K_p (pc2 := 33) (lv2 := [(0, vR 64), (1, vI _), (2, vI _)]) (st2 := [vI _]) (fun ad S Q _ k => V_iload_n (pc2 := 33) (dk D_X11_failure 15 rfl) rfl (V_lg 2 rfl) rfl k) ?_
          refine K_p (pc2 := 34) (lv2 := [(0, vR 64), (1, vI _), (2, vI _)]) (st2 := [vI _, vI _]) (fun ad S Q _ k => V_iconst (x := 5) (pc2 := 34) (dk D_X11_failure 16 rfl) (by decide) rfl k) ?_
          refine K_if (pa := 39) (pb := 37) (lv2 := [(0, vR 64), (1, vI _), (2, vI _)]) (st2 := []) (fun ad S Q _ k1 k2 => V_cmple (tgt := 39) (pc2 := 37) (dk D_X11_failure 17 rfl) (by decide) rfl (fun q => k1 q) (fun q => k2 q)) (fun q11 => ?_) (fun q11 => ?_)
          · have h := h.1 q11
            refine K_p (pc2 := 40) (lv2 := [(0, vR 64), (1, vI _), (2, vI _)]) (st2 := [vR 64]) (fun ad S Q _ k => V_aload_n (pc2 := 40) (dk D_X11_failure 20 rfl) rfl (V_lg 0 rfl) rfl k) ?_
            refine K_getF kc11 (h' := 79) (pc2 := 43) 4 (by decide) (dk D_X11_failure 21 rfl) fl_11_49 (by decide) (fun _ _ => rfl) rfl (fixH 64 11 (by decide) rfl) (by decide) ?_
            refine K_getF kc6 (h' := 84) (pc2 := 46) 2 (by decide) (dk D_X11_failure 22 rfl) fl_11_186 (by decide) (fun _ _ => rfl) rfl (fixH 79 6 (by decide) rfl) (by decide) ?_
            refine K_p (pc2 := 47) (lv2 := [(0, vR 64), (1, vI _), (2, vI _)]) (st2 := [vI _, vR 84]) (fun ad S Q _ k => V_iload_n (pc2 := 47) (dk D_X11_failure 23 rfl) rfl (V_lg 1 rfl) rfl k) ?_
            refine K_p (pc2 := 48) (lv2 := [(0, vR 64), (1, vI _), (2, vI _)]) (st2 := [vI _, vI _, vR 84]) (fun ad S Q _ k => V_iload_n (pc2 := 48) (dk D_X11_failure 24 rfl) rfl (V_lg 2 rfl) rfl k) ?_
            obtain ⟨e12, he13, hc14⟩ := h
            refine K_call (as := [vR 84, vI _, vI _]) (st := []) (pc2 := 51) (okL.all _ ⟨(Or.inr ⟨Or.inl ⟨by decide, by decide⟩, by decide⟩), trivial, trivial, trivial⟩) (okS.all _ trivial) (fun ad S Q Qc hC hc k => V_callV (as := [_, _]) (st := []) (M' := MX2_fact) (ci := 2) (pc2 := 51) (dk D_X11_failure 25 rfl) ml_11_195 mv_X2_fact rfl rfl (by decide) rfl (Nat.le_of_ble_eq_true rfl) rfl he13 (hC.k' (fixH 84 2 (by decide) rfl)) hc k) hc14 (kRI.k fun y15 κ16 h mo17 => ?_)
            exact K_ret (r := .inl (some (vI _))) (fun ad S Q _ k => V_ireturn (dk D_X11_failure 26 rfl) rfl k) h
          · have h := h.2 q11
            exact h
theorem k_11_failure_37 {X : Cx} {d : Nat} {κ : Km} {Q : Res → Km → Prop} (x1 : Int32) (x2 : Int32) (h : Q (.inl (some (vI (-1)))) κ) : K X d MX11_failure 37 [(0, vR 64), (1, vI x1), (2, vI x2)] [] κ Q := by
  refine K_p (pc2 := 38) (lv2 := [(0, vR 64), (1, vI _), (2, vI _)]) (st2 := [vI _]) (fun ad S Q _ k => V_iconst (x := (-1)) (pc2 := 38) (dk D_X11_failure 18 rfl) (by decide) rfl k) ?_
  exact K_ret (r := .inl (some (vI _))) (fun ad S Q _ k => V_ireturn (dk D_X11_failure 19 rfl) rfl k) h
theorem k_11_ring_0 {X : Cx} {d : Nat} {κ : Km} {Q : Res → Km → Prop} (x1 : Int32) (h : (((kI κ 64 5) = 0 → K X d MX11_ring 20 [(0, vR 64), (1, vI x1)] [vI (-2)] κ Q) ∧ (¬ (kI κ 64 5) = 0 → ∃ e2 : Nat, e2 + 1 ≤ d ∧ KC' X e2 MX6_inRing [vR 79, vI x1] κ (kRI fun y5 κ6 => K X d MX11_ring 20 [(0, vR 64), (1, vI x1)] [vI y5] κ6 Q)))) : K X d MX11_ring 0 [(0, vR 64), (1, vI x1)] [] κ Q := by
  refine K_p (pc2 := 1) (lv2 := [(0, vR 64), (1, vI _)]) (st2 := [vR 64]) (fun ad S Q _ k => V_aload_n (pc2 := 1) (dk D_X11_ring 0 rfl) rfl (V_lg 0 rfl) rfl k) ?_
  refine K_getI kc11 (pc2 := 4) 5 (dk D_X11_ring 1 rfl) fl_11_77 (by decide) (fun _ _ => rfl) rfl (fixH 64 11 (by decide) rfl) ?_
  refine K_if (pa := 18) (pb := 7) (lv2 := [(0, vR 64), (1, vI _)]) (st2 := []) (fun ad S Q _ k1 k2 => V_ifeq (tgt := 18) (pc2 := 7) (dk D_X11_ring 2 rfl) (by decide) rfl (fun q => k1 q) (fun q => k2 q)) (fun q1 => ?_) (fun q1 => ?_)
  · have h := h.1 q1
    refine K_p (pc2 := 20) (lv2 := [(0, vR 64), (1, vI _)]) (st2 := [vI _]) (fun ad S Q _ k => V_bipush (x := (-2)) (pc2 := 20) (dk D_X11_ring 8 rfl) (by decide) rfl k) ?_
    exact h
  · have h := h.2 q1
    refine K_p (pc2 := 8) (lv2 := [(0, vR 64), (1, vI _)]) (st2 := [vR 64]) (fun ad S Q _ k => V_aload_n (pc2 := 8) (dk D_X11_ring 3 rfl) rfl (V_lg 0 rfl) rfl k) ?_
    refine K_getF kc11 (h' := 79) (pc2 := 11) 4 (by decide) (dk D_X11_ring 4 rfl) fl_11_49 (by decide) (fun _ _ => rfl) rfl (fixH 64 11 (by decide) rfl) (by decide) ?_
    refine K_p (pc2 := 12) (lv2 := [(0, vR 64), (1, vI _)]) (st2 := [vI _, vR 79]) (fun ad S Q _ k => V_iload_n (pc2 := 12) (dk D_X11_ring 5 rfl) rfl (V_lg 1 rfl) rfl k) ?_
    obtain ⟨e2, he3, hc4⟩ := h
    refine K_call (as := [vR 79, vI _]) (st := []) (pc2 := 15) (okL.all _ ⟨(Or.inr ⟨Or.inl ⟨by decide, by decide⟩, by decide⟩), trivial, trivial⟩) (okS.all _ trivial) (fun ad S Q Qc hC hc k => V_callV (as := [_]) (st := []) (M' := MX6_inRing) (ci := 6) (pc2 := 15) (dk D_X11_ring 6 rfl) ml_11_197 mv_X6_inRing rfl rfl (by decide) rfl (Nat.le_of_ble_eq_true rfl) rfl he3 (hC.k' (fixH 79 6 (by decide) rfl)) hc k) hc4 (kRI.k fun y5 κ6 h mo7 => ?_)
    refine K_p (pc2 := 20) (lv2 := [(0, vR 64), (1, vI _)]) (st2 := [vI _]) (fun ad S Q _ k => V_goto (tgt := 20) (dk D_X11_ring 7 rfl) (by decide) k) ?_
    exact h
theorem k_11_ring_20 {X : Cx} {d : Nat} {κ : Km} {Q : Res → Km → Prop} (x1 : Int32) (t0 : Int32) (h : Q (.inl (some (vI t0))) κ) : K X d MX11_ring 20 [(0, vR 64), (1, vI x1)] [vI t0] κ Q := by
  exact K_ret (r := .inl (some (vI _))) (fun ad S Q _ k => V_ireturn (dk D_X11_ring 9 rfl) rfl k) h
theorem k_11_count_0 {X : Cx} {d : Nat} {κ : Km} {Q : Res → Km → Prop} (x1 : Int32) (h : (((kI κ 64 5) = 0 → Q (.inl (some (vI (-2)))) κ) ∧ (¬ (kI κ 64 5) = 0 → ((x1 = 0 → ∃ e4 : Nat, e4 + 1 ≤ d ∧ KC' X e4 MX7_size [vR 67] κ (kRI fun y7 κ8 => Q (.inl (some (vI y7))) κ8)) ∧ (x1 = 1 → ∃ e10 : Nat, e10 + 1 ≤ d ∧ KC' X e10 MX6_made [vR 79] κ (kRI fun y13 κ14 => Q (.inl (some (vI y13))) κ14)) ∧ (x1 = 2 → ∃ e16 : Nat, e16 + 1 ≤ d ∧ KC' X e16 MX6_alive [vR 79] κ (kRI fun y19 κ20 => Q (.inl (some (vI y19))) κ20)) ∧ (x1 = 3 → ∃ e22 : Nat, e22 + 1 ≤ d ∧ KC' X e22 MX6_steps [vR 79] κ (kRI fun y25 κ26 => Q (.inl (some (vI y25))) κ26)) ∧ (x1 = 4 → ∃ e28 : Nat, e28 + 1 ≤ d ∧ KC' X e28 MX6_isSpent [vR 79] κ (kRI fun y31 κ32 => ((y31 = 0 → K X d MX11_count 91 [(0, vR 64), (1, vI x1)] [vI 0] κ32 Q) ∧ (¬ y31 = 0 → K X d MX11_count 91 [(0, vR 64), (1, vI x1)] [vI 1] κ32 Q)))) ∧ (¬ (x1 = 0 ∨ x1 = 1 ∨ x1 = 2 ∨ x1 = 3 ∨ x1 = 4) → Q (.inl (some (vI (-1)))) κ))))) : K X d MX11_count 0 [(0, vR 64), (1, vI x1)] [] κ Q := by
  refine K_p (pc2 := 1) (lv2 := [(0, vR 64), (1, vI _)]) (st2 := [vR 64]) (fun ad S Q _ k => V_aload_n (pc2 := 1) (dk D_X11_count 0 rfl) rfl (V_lg 0 rfl) rfl k) ?_
  refine K_getI kc11 (pc2 := 4) 5 (dk D_X11_count 1 rfl) fl_11_77 (by decide) (fun _ _ => rfl) rfl (fixH 64 11 (by decide) rfl) ?_
  refine K_if (pa := 7) (pb := 10) (lv2 := [(0, vR 64), (1, vI _)]) (st2 := []) (fun ad S Q _ k1 k2 => V_ifne (tgt := 10) (pc2 := 7) (dk D_X11_count 2 rfl) (by decide) rfl (fun q => k2 q) (fun q => k1 q)) (fun q1 => ?_) (fun q1 => ?_)
  · have h := h.1 q1
    refine K_p (pc2 := 9) (lv2 := [(0, vR 64), (1, vI _)]) (st2 := [vI _]) (fun ad S Q _ k => V_bipush (x := (-2)) (pc2 := 9) (dk D_X11_count 3 rfl) (by decide) rfl k) ?_
    exact K_ret (r := .inl (some (vI _))) (fun ad S Q _ k => V_ireturn (dk D_X11_count 4 rfl) rfl k) h
  · have h := h.2 q1
    refine K_p (pc2 := 11) (lv2 := [(0, vR 64), (1, vI _)]) (st2 := [vI _]) (fun ad S Q _ k => V_iload_n (pc2 := 11) (dk D_X11_count 5 rfl) rfl (V_lg 1 rfl) rfl k) ?_
    refine K_table (dk D_X11_count 6 rfl) [44, 52, 60, 68, 76] 92 (by decide) (by decide) rfl (by decide) (fun q2 => ?_) (fun j3 hj q2 => ?_)
    · have h := h.2.2.2.2.2 (by rintro (hk | hk | hk | hk | hk) <;> (rw [hk] at q2; revert q2; decide))
      refine K_p (pc2 := 93) (lv2 := [(0, vR 64), (1, vI _)]) (st2 := [vI _]) (fun ad S Q _ k => V_iconst (x := (-1)) (pc2 := 93) (dk D_X11_count 31 rfl) (by decide) rfl k) ?_
      exact K_ret (r := .inl (some (vI _))) (fun ad S Q _ k => V_ireturn (dk D_X11_count 32 rfl) rfl k) h
    · have hj2 : j3 = 0 ∨ j3 = 1 ∨ j3 = 2 ∨ j3 = 3 ∨ j3 = 4 := by simp at hj; omega
      clear hj
      rcases hj2 with rfl | rfl | rfl | rfl | rfl
      · have hx : x1 = 0 := Int32.toInt_inj.mp (by rw [q2]; decide)
        have h := h.1 hx
        refine K_p (pc2 := 45) (lv2 := [(0, vR 64), (1, vI _)]) (st2 := [vR 64]) (fun ad S Q _ k => V_aload_n (pc2 := 45) (dk D_X11_count 7 rfl) rfl (V_lg 0 rfl) rfl k) ?_
        refine K_getF kc11 (h' := 67) (pc2 := 48) 1 (by decide) (dk D_X11_count 8 rfl) fl_11_19 (by decide) (fun _ _ => rfl) rfl (fixH 64 11 (by decide) rfl) (by decide) ?_
        obtain ⟨e4, he5, hc6⟩ := h
        refine K_call (as := [vR 67]) (st := []) (pc2 := 51) (okL.all _ ⟨(Or.inr ⟨Or.inl ⟨by decide, by decide⟩, by decide⟩), trivial, trivial⟩) (okS.all _ trivial) (fun ad S Q Qc hC hc k => V_callV (as := []) (st := []) (M' := MX7_size) (ci := 7) (pc2 := 51) (dk D_X11_count 9 rfl) ml_11_81 mv_X7_size rfl rfl (by decide) rfl (Nat.le_of_ble_eq_true rfl) rfl he5 (hC.k' (fixH 67 7 (by decide) rfl)) hc k) hc6 (kRI.k fun y7 κ8 h mo9 => ?_)
        exact K_ret (r := .inl (some (vI _))) (fun ad S Q _ k => V_ireturn (dk D_X11_count 10 rfl) rfl k) h
      · have hx : x1 = 1 := Int32.toInt_inj.mp (by rw [q2]; decide)
        have h := h.2.1 hx
        refine K_p (pc2 := 53) (lv2 := [(0, vR 64), (1, vI _)]) (st2 := [vR 64]) (fun ad S Q _ k => V_aload_n (pc2 := 53) (dk D_X11_count 11 rfl) rfl (V_lg 0 rfl) rfl k) ?_
        refine K_getF kc11 (h' := 79) (pc2 := 56) 4 (by decide) (dk D_X11_count 12 rfl) fl_11_49 (by decide) (fun _ _ => rfl) rfl (fixH 64 11 (by decide) rfl) (by decide) ?_
        obtain ⟨e10, he11, hc12⟩ := h
        refine K_call (as := [vR 79]) (st := []) (pc2 := 59) (okL.all _ ⟨(Or.inr ⟨Or.inl ⟨by decide, by decide⟩, by decide⟩), trivial, trivial⟩) (okS.all _ trivial) (fun ad S Q Qc hC hc k => V_callV (as := []) (st := []) (M' := MX6_made) (ci := 6) (pc2 := 59) (dk D_X11_count 13 rfl) ml_11_200 mv_X6_made rfl rfl (by decide) rfl (Nat.le_of_ble_eq_true rfl) rfl he11 (hC.k' (fixH 79 6 (by decide) rfl)) hc k) hc12 (kRI.k fun y13 κ14 h mo15 => ?_)
        exact K_ret (r := .inl (some (vI _))) (fun ad S Q _ k => V_ireturn (dk D_X11_count 14 rfl) rfl k) h
      · have hx : x1 = 2 := Int32.toInt_inj.mp (by rw [q2]; decide)
        have h := h.2.2.1 hx
        refine K_p (pc2 := 61) (lv2 := [(0, vR 64), (1, vI _)]) (st2 := [vR 64]) (fun ad S Q _ k => V_aload_n (pc2 := 61) (dk D_X11_count 15 rfl) rfl (V_lg 0 rfl) rfl k) ?_
        refine K_getF kc11 (h' := 79) (pc2 := 64) 4 (by decide) (dk D_X11_count 16 rfl) fl_11_49 (by decide) (fun _ _ => rfl) rfl (fixH 64 11 (by decide) rfl) (by decide) ?_
        obtain ⟨e16, he17, hc18⟩ := h
        refine K_call (as := [vR 79]) (st := []) (pc2 := 67) (okL.all _ ⟨(Or.inr ⟨Or.inl ⟨by decide, by decide⟩, by decide⟩), trivial, trivial⟩) (okS.all _ trivial) (fun ad S Q Qc hC hc k => V_callV (as := []) (st := []) (M' := MX6_alive) (ci := 6) (pc2 := 67) (dk D_X11_count 17 rfl) ml_11_203 mv_X6_alive rfl rfl (by decide) rfl (Nat.le_of_ble_eq_true rfl) rfl he17 (hC.k' (fixH 79 6 (by decide) rfl)) hc k) hc18 (kRI.k fun y19 κ20 h mo21 => ?_)
        exact K_ret (r := .inl (some (vI _))) (fun ad S Q _ k => V_ireturn (dk D_X11_count 18 rfl) rfl k) h
      · have hx : x1 = 3 := Int32.toInt_inj.mp (by rw [q2]; decide)
        have h := h.2.2.2.1 hx
        refine K_p (pc2 := 69) (lv2 := [(0, vR 64), (1, vI _)]) (st2 := [vR 64]) (fun ad S Q _ k => V_aload_n (pc2 := 69) (dk D_X11_count 19 rfl) rfl (V_lg 0 rfl) rfl k) ?_
        refine K_getF kc11 (h' := 79) (pc2 := 72) 4 (by decide) (dk D_X11_count 20 rfl) fl_11_49 (by decide) (fun _ _ => rfl) rfl (fixH 64 11 (by decide) rfl) (by decide) ?_
        obtain ⟨e22, he23, hc24⟩ := h
        refine K_call (as := [vR 79]) (st := []) (pc2 := 75) (okL.all _ ⟨(Or.inr ⟨Or.inl ⟨by decide, by decide⟩, by decide⟩), trivial, trivial⟩) (okS.all _ trivial) (fun ad S Q Qc hC hc k => V_callV (as := []) (st := []) (M' := MX6_steps) (ci := 6) (pc2 := 75) (dk D_X11_count 21 rfl) ml_11_206 mv_X6_steps rfl rfl (by decide) rfl (Nat.le_of_ble_eq_true rfl) rfl he23 (hC.k' (fixH 79 6 (by decide) rfl)) hc k) hc24 (kRI.k fun y25 κ26 h mo27 => ?_)
        exact K_ret (r := .inl (some (vI _))) (fun ad S Q _ k => V_ireturn (dk D_X11_count 22 rfl) rfl k) h
      · have hx : x1 = 4 := Int32.toInt_inj.mp (by rw [q2]; decide)
        have h := h.2.2.2.2.1 hx
        refine K_p (pc2 := 77) (lv2 := [(0, vR 64), (1, vI _)]) (st2 := [vR 64]) (fun ad S Q _ k => V_aload_n (pc2 := 77) (dk D_X11_count 23 rfl) rfl (V_lg 0 rfl) rfl k) ?_
        refine K_getF kc11 (h' := 79) (pc2 := 80) 4 (by decide) (dk D_X11_count 24 rfl) fl_11_49 (by decide) (fun _ _ => rfl) rfl (fixH 64 11 (by decide) rfl) (by decide) ?_
        obtain ⟨e28, he29, hc30⟩ := h
        refine K_call (as := [vR 79]) (st := []) (pc2 := 83) (okL.all _ ⟨(Or.inr ⟨Or.inl ⟨by decide, by decide⟩, by decide⟩), trivial, trivial⟩) (okS.all _ trivial) (fun ad S Q Qc hC hc k => V_callV (as := []) (st := []) (M' := MX6_isSpent) (ci := 6) (pc2 := 83) (dk D_X11_count 25 rfl) ml_11_140 mv_X6_isSpent rfl rfl (by decide) rfl (Nat.le_of_ble_eq_true rfl) rfl he29 (hC.k' (fixH 79 6 (by decide) rfl)) hc k) hc30 (kRI.k fun y31 κ32 h mo33 => ?_)
        refine K_if (pa := 90) (pb := 86) (lv2 := [(0, vR 64), (1, vI _)]) (st2 := []) (fun ad S Q _ k1 k2 => V_ifeq (tgt := 90) (pc2 := 86) (dk D_X11_count 26 rfl) (by decide) rfl (fun q => k1 q) (fun q => k2 q)) (fun q34 => ?_) (fun q34 => ?_)
        · have h := h.1 q34
          refine K_p (pc2 := 91) (lv2 := [(0, vR 64), (1, vI _)]) (st2 := [vI _]) (fun ad S Q _ k => V_iconst (x := 0) (pc2 := 91) (dk D_X11_count 29 rfl) (by decide) rfl k) ?_
          exact h
        · have h := h.2 q34
          refine K_p (pc2 := 87) (lv2 := [(0, vR 64), (1, vI _)]) (st2 := [vI _]) (fun ad S Q _ k => V_iconst (x := 1) (pc2 := 87) (dk D_X11_count 27 rfl) (by decide) rfl k) ?_
          refine K_p (pc2 := 91) (lv2 := [(0, vR 64), (1, vI _)]) (st2 := [vI _]) (fun ad S Q _ k => V_goto (tgt := 91) (dk D_X11_count 28 rfl) (by decide) k) ?_
          exact h
theorem k_11_count_91 {X : Cx} {d : Nat} {κ : Km} {Q : Res → Km → Prop} (x1 : Int32) (t0 : Int32) (h : Q (.inl (some (vI t0))) κ) : K X d MX11_count 91 [(0, vR 64), (1, vI x1)] [vI t0] κ Q := by
  exact K_ret (r := .inl (some (vI _))) (fun ad S Q _ k => V_ireturn (dk D_X11_count 30 rfl) rfl k) h
theorem k_11_digest_0 {X : Cx} {d : Nat} {κ : Km} {Q : Res → Km → Prop}  (h : (((kI κ 64 5) = 0 → Q (.inl (some (vL 0))) κ) ∧ (¬ (kI κ 64 5) = 0 → K X d MX11_digest 15 [(0, vR 64), (1, vL 17), (3, vI 1)] [] κ Q))) : K X d MX11_digest 0 [(0, vR 64)] [] κ Q := by
  refine K_p (pc2 := 1) (lv2 := [(0, vR 64)]) (st2 := [vR 64]) (fun ad S Q _ k => V_aload_n (pc2 := 1) (dk D_X11_digest 0 rfl) rfl (V_lg 0 rfl) rfl k) ?_
  refine K_getI kc11 (pc2 := 4) 5 (dk D_X11_digest 1 rfl) fl_11_77 (by decide) (fun _ _ => rfl) rfl (fixH 64 11 (by decide) rfl) ?_
  refine K_if (pa := 7) (pb := 9) (lv2 := [(0, vR 64)]) (st2 := []) (fun ad S Q _ k1 k2 => V_ifne (tgt := 9) (pc2 := 7) (dk D_X11_digest 2 rfl) (by decide) rfl (fun q => k2 q) (fun q => k1 q)) (fun q1 => ?_) (fun q1 => ?_)
  · have h := h.1 q1
    refine K_p (pc2 := 8) (lv2 := [(0, vR 64)]) (st2 := [vL _]) (fun ad S Q _ k => V_lconst (x := 0) (pc2 := 8) (dk D_X11_digest 3 rfl) (by decide) rfl k) ?_
    exact K_ret (r := .inl (some (vL _))) (fun ad S Q _ k => V_lreturn (dk D_X11_digest 4 rfl) rfl k) h
  · have h := h.2 q1
    refine K_p (pc2 := 12) (lv2 := [(0, vR 64)]) (st2 := [vL _]) (fun ad S Q _ k => V_ldc2 (x := 17) (pc2 := 12) (dk D_X11_digest 5 rfl) kl_11_209 rfl k) ?_
    refine K_p (pc2 := 13) (lv2 := [(0, vR 64), (1, vL _)]) (st2 := []) (fun ad S Q _ k => V_lstore_n (pc2 := 13) (lv2 := [(0, _), (1, _)]) (dk D_X11_digest 6 rfl) rfl (by decide) rfl rfl k) ?_
    refine K_p (pc2 := 14) (lv2 := [(0, vR 64), (1, vL _)]) (st2 := [vI _]) (fun ad S Q _ k => V_iconst (x := 1) (pc2 := 14) (dk D_X11_digest 7 rfl) (by decide) rfl k) ?_
    refine K_p (pc2 := 15) (lv2 := [(0, vR 64), (1, vL _), (3, vI _)]) (st2 := []) (fun ad S Q _ k => V_istore_n (pc2 := 15) (lv2 := [(0, _), (1, _), (3, _)]) (dk D_X11_digest 8 rfl) rfl (by decide) rfl rfl k) ?_
    exact h
theorem k_11_digest_15 {X : Cx} {d : Nat} {κ : Km} {Q : Res → Km → Prop} (l1 : Int64) (x3 : Int32) (h : ∃ e1 : Nat, e1 + 1 ≤ d ∧ KC' X e1 MX6_made [vR 79] κ (kRI fun y4 κ5 => ((y4 < x3 → ∃ e8 : Nat, e8 + 1 ≤ d ∧ KC' X e8 MX4_mixInto [vR 80, vL l1] κ5 (kRJ fun w11 κ12 => ∃ e14 : Nat, e14 + 1 ≤ d ∧ KC' X e14 MX4_mixInto [vR 82, vL w11] κ12 (kRJ fun w17 κ18 => ∃ e20 : Nat, e20 + 1 ≤ d ∧ KC' X e20 MX6_steps [vR 79] κ18 (kRI fun y23 κ24 => Q (.inl (some (vL ((31 * w17) + ((y23 : Int32).toInt64))))) κ24)))) ∧ (¬ y4 < x3 → ∃ e26 : Nat, e26 + 1 ≤ d ∧ KC' X e26 MX6_find [vR 79, vI x3] κ5 (kRR fun p29 κ30 => (p29 = 0 ∨ live κ30 p29) ∧ ((p29 = 0 → K X d MX11_digest 51 [(0, vR 64), (1, vL l1), (3, vI x3), (4, vR p29)] [vL l1] κ30 Q) ∧ (¬ p29 = 0 → (isH κ30 p29 10) ∧ ∃ e34 : Nat, e34 + 1 ≤ d ∧ KC' X e34 MX10_mixInto [vR p29, vL l1] κ30 (kRJ fun w37 κ39 => K X d MX11_digest 51 [(0, vR 64), (1, vL l1), (3, vI x3), (4, vR p29)] [vL w37] κ39 Q)))))))) : K X d MX11_digest 15 [(0, vR 64), (1, vL l1), (3, vI x3)] [] κ Q := by
  refine K_p (pc2 := 16) (lv2 := [(0, vR 64), (1, vL _), (3, vI _)]) (st2 := [vI _]) (fun ad S Q _ k => V_iload_n (pc2 := 16) (dk D_X11_digest 9 rfl) rfl (V_lg 2 rfl) rfl k) ?_
  refine K_p (pc2 := 17) (lv2 := [(0, vR 64), (1, vL _), (3, vI _)]) (st2 := [vR 64, vI _]) (fun ad S Q _ k => V_aload_n (pc2 := 17) (dk D_X11_digest 10 rfl) rfl (V_lg 0 rfl) rfl k) ?_
  refine K_getF kc11 (h' := 79) (pc2 := 20) 4 (by decide) (dk D_X11_digest 11 rfl) fl_11_49 (by decide) (fun _ _ => rfl) rfl (fixH 64 11 (by decide) rfl) (by decide) ?_
  obtain ⟨e1, he2, hc3⟩ := h
  refine K_call (as := [vR 79]) (st := [vI _]) (pc2 := 23) (okL.all _ ⟨(Or.inr ⟨Or.inl ⟨by decide, by decide⟩, by decide⟩), trivial, trivial, trivial⟩) (okS.all _ ⟨trivial, trivial⟩) (fun ad S Q Qc hC hc k => V_callV (as := []) (st := [_]) (M' := MX6_made) (ci := 6) (pc2 := 23) (dk D_X11_digest 12 rfl) ml_11_200 mv_X6_made rfl rfl (by decide) rfl (Nat.le_of_ble_eq_true rfl) rfl he2 (hC.k' (fixH 79 6 (by decide) rfl)) hc k) hc3 (kRI.k fun y4 κ5 h mo6 => ?_)
  refine K_if (pa := 58) (pb := 26) (lv2 := [(0, vR 64), (1, vL _), (3, vI _)]) (st2 := []) (fun ad S Q _ k1 k2 => V_cmpgt (tgt := 58) (pc2 := 26) (dk D_X11_digest 13 rfl) (by decide) rfl (fun q => k1 q) (fun q => k2 q)) (fun q7 => ?_) (fun q7 => ?_)
  · have h := h.1 q7
    refine K_p (pc2 := 59) (lv2 := [(0, vR 64), (1, vL _), (3, vI _)]) (st2 := [vR 64]) (fun ad S Q _ k => V_aload_n (pc2 := 59) (dk D_X11_digest 29 rfl) rfl (V_lg 0 rfl) rfl k) ?_
    refine K_getF kc11 (h' := 79) (pc2 := 62) 4 (by decide) (dk D_X11_digest 30 rfl) fl_11_49 (by decide) (fun _ _ => rfl) rfl (fixH 64 11 (by decide) rfl) (by decide) ?_
    refine K_getF kc6 (h' := 80) (pc2 := 65) 0 (by decide) (dk D_X11_digest 31 rfl) fl_11_170 (by decide) (fun _ _ => rfl) rfl (fixH 79 6 (by decide) rfl) (by decide) ?_
    refine K_p (pc2 := 66) (lv2 := [(0, vR 64), (1, vL _), (3, vI _)]) (st2 := [vL _, vR 80]) (fun ad S Q _ k => V_lload_n (pc2 := 66) (dk D_X11_digest 32 rfl) rfl (V_lg 1 rfl) rfl k) ?_
    obtain ⟨e8, he9, hc10⟩ := h
    refine K_call (as := [vR 80, vL _]) (st := []) (pc2 := 69) (okL.all _ ⟨(Or.inr ⟨Or.inl ⟨by decide, by decide⟩, by decide⟩), trivial, trivial, trivial⟩) (okS.all _ trivial) (fun ad S Q Qc hC hc k => V_callV (as := [_]) (st := []) (M' := MX4_mixInto) (ci := 4) (pc2 := 69) (dk D_X11_digest 33 rfl) ml_11_215 mv_X4_mixInto rfl rfl (by decide) rfl (Nat.le_of_ble_eq_true rfl) rfl he9 (hC.k' (fixH 80 4 (by decide) rfl)) hc k) hc10 (kRJ.k fun w11 κ12 h mo13 => ?_)
    refine K_p (pc2 := 70) (lv2 := [(0, vR 64), (1, vL _), (3, vI _)]) (st2 := []) (fun ad S Q _ k => V_lstore_n (pc2 := 70) (lv2 := [(0, _), (1, _), (3, _)]) (dk D_X11_digest 34 rfl) rfl (by decide) rfl rfl k) ?_
    refine K_p (pc2 := 71) (lv2 := [(0, vR 64), (1, vL _), (3, vI _)]) (st2 := [vR 64]) (fun ad S Q _ k => V_aload_n (pc2 := 71) (dk D_X11_digest 35 rfl) rfl (V_lg 0 rfl) rfl k) ?_
    refine K_getF kc11 (h' := 79) (pc2 := 74) 4 (by decide) (dk D_X11_digest 36 rfl) fl_11_49 (by decide) (fun _ _ => rfl) rfl (fixH 64 11 (by decide) rfl) (by decide) ?_
    refine K_getF kc6 (h' := 82) (pc2 := 77) 1 (by decide) (dk D_X11_digest 37 rfl) fl_11_183 (by decide) (fun _ _ => rfl) rfl (fixH 79 6 (by decide) rfl) (by decide) ?_
    refine K_p (pc2 := 78) (lv2 := [(0, vR 64), (1, vL _), (3, vI _)]) (st2 := [vL _, vR 82]) (fun ad S Q _ k => V_lload_n (pc2 := 78) (dk D_X11_digest 38 rfl) rfl (V_lg 1 rfl) rfl k) ?_
    obtain ⟨e14, he15, hc16⟩ := h
    refine K_call (as := [vR 82, vL _]) (st := []) (pc2 := 81) (okL.all _ ⟨(Or.inr ⟨Or.inl ⟨by decide, by decide⟩, by decide⟩), trivial, trivial, trivial⟩) (okS.all _ trivial) (fun ad S Q Qc hC hc k => V_callV (as := [_]) (st := []) (M' := MX4_mixInto) (ci := 4) (pc2 := 81) (dk D_X11_digest 39 rfl) ml_11_215 mv_X4_mixInto rfl rfl (by decide) rfl (Nat.le_of_ble_eq_true rfl) rfl he15 (hC.k' (fixH 82 4 (by decide) rfl)) hc k) hc16 (kRJ.k fun w17 κ18 h mo19 => ?_)
    refine K_p (pc2 := 82) (lv2 := [(0, vR 64), (1, vL _), (3, vI _)]) (st2 := []) (fun ad S Q _ k => V_lstore_n (pc2 := 82) (lv2 := [(0, _), (1, _), (3, _)]) (dk D_X11_digest 40 rfl) rfl (by decide) rfl rfl k) ?_
    refine K_p (pc2 := 85) (lv2 := [(0, vR 64), (1, vL _), (3, vI _)]) (st2 := [vL _]) (fun ad S Q _ k => V_ldc2 (x := 31) (pc2 := 85) (dk D_X11_digest 41 rfl) kl_11_216 rfl k) ?_
    refine K_p (pc2 := 86) (lv2 := [(0, vR 64), (1, vL _), (3, vI _)]) (st2 := [vL _, vL _]) (fun ad S Q _ k => V_lload_n (pc2 := 86) (dk D_X11_digest 42 rfl) rfl (V_lg 1 rfl) rfl k) ?_
    refine K_p (pc2 := 87) (lv2 := [(0, vR 64), (1, vL _), (3, vI _)]) (st2 := [vL _]) (fun ad S Q _ k => V_lmul (pc2 := 87) (dk D_X11_digest 43 rfl) rfl k) ?_
    refine K_p (pc2 := 88) (lv2 := [(0, vR 64), (1, vL _), (3, vI _)]) (st2 := [vR 64, vL _]) (fun ad S Q _ k => V_aload_n (pc2 := 88) (dk D_X11_digest 44 rfl) rfl (V_lg 0 rfl) rfl k) ?_
    refine K_getF kc11 (h' := 79) (pc2 := 91) 4 (by decide) (dk D_X11_digest 45 rfl) fl_11_49 (by decide) (fun _ _ => rfl) rfl (fixH 64 11 (by decide) rfl) (by decide) ?_
    obtain ⟨e20, he21, hc22⟩ := h
    refine K_call (as := [vR 79]) (st := [vL _]) (pc2 := 94) (okL.all _ ⟨(Or.inr ⟨Or.inl ⟨by decide, by decide⟩, by decide⟩), trivial, trivial, trivial⟩) (okS.all _ ⟨trivial, trivial⟩) (fun ad S Q Qc hC hc k => V_callV (as := []) (st := [_]) (M' := MX6_steps) (ci := 6) (pc2 := 94) (dk D_X11_digest 46 rfl) ml_11_206 mv_X6_steps rfl rfl (by decide) rfl (Nat.le_of_ble_eq_true rfl) rfl he21 (hC.k' (fixH 79 6 (by decide) rfl)) hc k) hc22 (kRI.k fun y23 κ24 h mo25 => ?_)
    refine K_p (pc2 := 95) (lv2 := [(0, vR 64), (1, vL _), (3, vI _)]) (st2 := [vL _, vL _]) (fun ad S Q _ k => V_i2l (pc2 := 95) (dk D_X11_digest 47 rfl) rfl k) ?_
    refine K_p (pc2 := 96) (lv2 := [(0, vR 64), (1, vL _), (3, vI _)]) (st2 := [vL _]) (fun ad S Q _ k => V_ladd (pc2 := 96) (dk D_X11_digest 48 rfl) rfl k) ?_
    exact K_ret (r := .inl (some (vL _))) (fun ad S Q _ k => V_lreturn (dk D_X11_digest 49 rfl) rfl k) h
  · have h := h.2 q7
    refine K_p (pc2 := 27) (lv2 := [(0, vR 64), (1, vL _), (3, vI _)]) (st2 := [vR 64]) (fun ad S Q _ k => V_aload_n (pc2 := 27) (dk D_X11_digest 14 rfl) rfl (V_lg 0 rfl) rfl k) ?_
    refine K_getF kc11 (h' := 79) (pc2 := 30) 4 (by decide) (dk D_X11_digest 15 rfl) fl_11_49 (by decide) (fun _ _ => rfl) rfl (fixH 64 11 (by decide) rfl) (by decide) ?_
    refine K_p (pc2 := 31) (lv2 := [(0, vR 64), (1, vL _), (3, vI _)]) (st2 := [vI _, vR 79]) (fun ad S Q _ k => V_iload_n (pc2 := 31) (dk D_X11_digest 16 rfl) rfl (V_lg 2 rfl) rfl k) ?_
    obtain ⟨e26, he27, hc28⟩ := h
    refine K_call (as := [vR 79, vI _]) (st := []) (pc2 := 34) (okL.all _ ⟨(Or.inr ⟨Or.inl ⟨by decide, by decide⟩, by decide⟩), trivial, trivial, trivial⟩) (okS.all _ trivial) (fun ad S Q Qc hC hc k => V_callV (as := [_]) (st := []) (M' := MX6_find) (ci := 6) (pc2 := 34) (dk D_X11_digest 17 rfl) ml_11_110 mv_X6_find rfl rfl (by decide) rfl (Nat.le_of_ble_eq_true rfl) rfl he27 (hC.k' (fixH 79 6 (by decide) rfl)) hc k) hc28 (kRR.k fun p29 κ30 h mo31 => ?_)
    refine K_p (pc2 := 36) (lv2 := [(0, vR 64), (1, vL _), (3, vI _), (4, vR _)]) (st2 := []) (fun ad S Q _ k => V_astore (pc2 := 36) (lv2 := [(0, _), (1, _), (3, _), (4, _)]) (dk D_X11_digest 18 rfl) (by decide) rfl rfl k) ?_
    refine K_p (pc2 := 38) (lv2 := [(0, vR 64), (1, vL _), (3, vI _), (4, vR _)]) (st2 := [vR _]) (fun ad S Q _ k => V_aload (pc2 := 38) (dk D_X11_digest 19 rfl) (V_lg 3 rfl) rfl k) ?_
    obtain ⟨h33, h⟩ := h
    refine K_ifnonnull (tgt := 45) (pc2 := 41) (dk D_X11_digest 20 rfl) (by decide) rfl h33 (fun q32 => ?_) (fun q32 => ?_)
    · have h := h.1 q32
      refine K_p (pc2 := 42) (lv2 := [(0, vR 64), (1, vL _), (3, vI _), (4, vR _)]) (st2 := [vL _]) (fun ad S Q _ k => V_lload_n (pc2 := 42) (dk D_X11_digest 21 rfl) rfl (V_lg 1 rfl) rfl k) ?_
      refine K_p (pc2 := 51) (lv2 := [(0, vR 64), (1, vL _), (3, vI _), (4, vR _)]) (st2 := [vL _]) (fun ad S Q _ k => V_goto (tgt := 51) (dk D_X11_digest 22 rfl) (by decide) k) ?_
      exact h
    · have h := h.2 q32
      refine K_p (pc2 := 47) (lv2 := [(0, vR 64), (1, vL _), (3, vI _), (4, vR _)]) (st2 := [vR _]) (fun ad S Q _ k => V_aload (pc2 := 47) (dk D_X11_digest 23 rfl) (V_lg 3 rfl) rfl k) ?_
      refine K_p (pc2 := 48) (lv2 := [(0, vR 64), (1, vL _), (3, vI _), (4, vR _)]) (st2 := [vL _, vR _]) (fun ad S Q _ k => V_lload_n (pc2 := 48) (dk D_X11_digest 24 rfl) rfl (V_lg 1 rfl) rfl k) ?_
      obtain ⟨h38, h⟩ := h
      obtain ⟨e34, he35, hc36⟩ := h
      refine K_call (as := [vR _, vL _]) (st := []) (pc2 := 51) (okL.all _ ⟨(Or.inr ⟨Or.inl ⟨by decide, by decide⟩, by decide⟩), trivial, trivial, (isH.ok h38 (by decide)), trivial⟩) (okS.all _ trivial) (fun ad S Q Qc hC hc k => V_callV (as := [_]) (st := []) (M' := MX10_mixInto) (ci := 10) (pc2 := 51) (dk D_X11_digest 25 rfl) ml_11_211 mv_X10_mixInto rfl rfl (by decide) rfl (Nat.le_of_ble_eq_true rfl) rfl he35 (hC.k' h38) hc k) hc36 (kRJ.k fun w37 κ39 h mo40 => ?_)
      exact h
theorem k_11_digest_51 {X : Cx} {d : Nat} {κ : Km} {Q : Res → Km → Prop} (l1 : Int64) (x3 : Int32) (r4 : Nat) (t0 : Int64) (h : K X d MX11_digest 15 [(0, vR 64), (1, vL t0), (3, vI (x3 + 1))] [] κ Q) : K X d MX11_digest 51 [(0, vR 64), (1, vL l1), (3, vI x3), (4, vR r4)] [vL t0] κ Q := by
  refine K_p (pc2 := 52) (lv2 := [(0, vR 64), (1, vL _), (3, vI _), (4, vR _)]) (st2 := []) (fun ad S Q _ k => V_lstore_n (pc2 := 52) (lv2 := [(0, _), (1, _), (3, _), (4, _)]) (dk D_X11_digest 26 rfl) rfl (by decide) rfl rfl k) ?_
  refine K_p (pc2 := 55) (lv2 := [(0, vR 64), (1, vL _), (3, vI _), (4, vR _)]) (st2 := []) (fun ad S Q _ k => V_iinc (y := _ + 1) (pc2 := 55) (lv2 := [(0, _), (1, _), (3, _), (4, _)]) (dk D_X11_digest 27 rfl) (V_lg 2 rfl) rfl (by decide) rfl rfl k) ?_
  refine K_p (pc2 := 15) (lv2 := [(0, vR 64), (1, vL _), (3, vI _), (4, vR _)]) (st2 := []) (fun ad S Q _ k => V_goto (tgt := 15) (dk D_X11_digest 28 rfl) (by decide) k) ?_
  refine K_p (pc2 := 15) (lv2 := [(0, vR 64), (1, vL _), (3, vI _)]) (st2 := []) (fun ad S Q _ k => V_pick [0, 1, 2] (lv2 := [(0, _), (1, _), (3, _)]) rfl k) ?_
  exact h
theorem k_11_plays_0 {X : Cx} {d : Nat} {κ : Km} {Q : Res → Km → Prop}  (h : (((kI κ 64 5) = 0 → K X d MX11_plays 21 [(0, vR 64)] [] κ Q) ∧ (¬ (kI κ 64 5) = 0 → ∃ e2 : Nat, e2 + 1 ≤ d ∧ KC' X e2 MX6_isSpent [vR 79] κ (kRI fun y5 κ6 => ((y5 = 0 → K X d MX11_plays 22 [(0, vR 64)] [vI 1] κ6 Q) ∧ (¬ y5 = 0 → K X d MX11_plays 21 [(0, vR 64)] [] κ6 Q)))))) : K X d MX11_plays 0 [(0, vR 64)] [] κ Q := by
  refine K_p (pc2 := 1) (lv2 := [(0, vR 64)]) (st2 := [vR 64]) (fun ad S Q _ k => V_aload_n (pc2 := 1) (dk D_X11_plays 0 rfl) rfl (V_lg 0 rfl) rfl k) ?_
  refine K_getI kc11 (pc2 := 4) 5 (dk D_X11_plays 1 rfl) fl_11_77 (by decide) (fun _ _ => rfl) rfl (fixH 64 11 (by decide) rfl) ?_
  refine K_if (pa := 21) (pb := 7) (lv2 := [(0, vR 64)]) (st2 := []) (fun ad S Q _ k1 k2 => V_ifeq (tgt := 21) (pc2 := 7) (dk D_X11_plays 2 rfl) (by decide) rfl (fun q => k1 q) (fun q => k2 q)) (fun q1 => ?_) (fun q1 => ?_)
  · have h := h.1 q1
    exact h
  · have h := h.2 q1
    refine K_p (pc2 := 8) (lv2 := [(0, vR 64)]) (st2 := [vR 64]) (fun ad S Q _ k => V_aload_n (pc2 := 8) (dk D_X11_plays 3 rfl) rfl (V_lg 0 rfl) rfl k) ?_
    refine K_getF kc11 (h' := 79) (pc2 := 11) 4 (by decide) (dk D_X11_plays 4 rfl) fl_11_49 (by decide) (fun _ _ => rfl) rfl (fixH 64 11 (by decide) rfl) (by decide) ?_
    obtain ⟨e2, he3, hc4⟩ := h
    refine K_call (as := [vR 79]) (st := []) (pc2 := 14) (okL.all _ ⟨(Or.inr ⟨Or.inl ⟨by decide, by decide⟩, by decide⟩), trivial⟩) (okS.all _ trivial) (fun ad S Q Qc hC hc k => V_callV (as := []) (st := []) (M' := MX6_isSpent) (ci := 6) (pc2 := 14) (dk D_X11_plays 5 rfl) ml_11_140 mv_X6_isSpent rfl rfl (by decide) rfl (Nat.le_of_ble_eq_true rfl) rfl he3 (hC.k' (fixH 79 6 (by decide) rfl)) hc k) hc4 (kRI.k fun y5 κ6 h mo7 => ?_)
    refine K_if (pa := 17) (pb := 21) (lv2 := [(0, vR 64)]) (st2 := []) (fun ad S Q _ k1 k2 => V_ifne (tgt := 21) (pc2 := 17) (dk D_X11_plays 6 rfl) (by decide) rfl (fun q => k2 q) (fun q => k1 q)) (fun q8 => ?_) (fun q8 => ?_)
    · have h := h.1 q8
      refine K_p (pc2 := 18) (lv2 := [(0, vR 64)]) (st2 := [vI _]) (fun ad S Q _ k => V_iconst (x := 1) (pc2 := 18) (dk D_X11_plays 7 rfl) (by decide) rfl k) ?_
      refine K_p (pc2 := 22) (lv2 := [(0, vR 64)]) (st2 := [vI _]) (fun ad S Q _ k => V_goto (tgt := 22) (dk D_X11_plays 8 rfl) (by decide) k) ?_
      exact h
    · have h := h.2 q8
      exact h
theorem k_11_plays_21 {X : Cx} {d : Nat} {κ : Km} {Q : Res → Km → Prop}  (h : K X d MX11_plays 22 [(0, vR 64)] [vI 0] κ Q) : K X d MX11_plays 21 [(0, vR 64)] [] κ Q := by
  refine K_p (pc2 := 22) (lv2 := [(0, vR 64)]) (st2 := [vI _]) (fun ad S Q _ k => V_iconst (x := 0) (pc2 := 22) (dk D_X11_plays 9 rfl) (by decide) rfl k) ?_
  exact h
theorem k_11_plays_22 {X : Cx} {d : Nat} {κ : Km} {Q : Res → Km → Prop} (t0 : Int32) (h : (t0 = 0 ∨ t0 = 1) ∧ Q (.inl (some (vI t0))) κ) : K X d MX11_plays 22 [(0, vR 64)] [vI t0] κ Q := by
  obtain ⟨h1, h⟩ := h
  exact K_ret (r := .inl (some (vI _))) (fun ad S Q _ k => V_zreturn (dk D_X11_plays 10 rfl) rfl h1 k) h
theorem k_11_hasArgument_0 {X : Cx} {d : Nat} {κ : Km} {Q : Res → Km → Prop} (r1 : Nat) (h : (isH κ r1 10) ∧ ∃ e2 : Nat, e2 + 1 ≤ d ∧ KC' X e2 MX7_at [vR 67, vI (kI κ r1 2)] κ (kRR fun p5 κ6 => (p5 = 0 ∨ live κ6 p5) ∧ ((p5 = 0 → K X d MX11_hasArgument 27 [(0, vR 64), (1, vR r1), (2, vR p5)] [] κ6 Q) ∧ (¬ p5 = 0 → (isH κ6 p5 0) ∧ (((kI κ6 p5 4) ≤ 0 → K X d MX11_hasArgument 27 [(0, vR 64), (1, vR r1), (2, vR p5)] [] κ6 Q) ∧ (¬ (kI κ6 p5 4) ≤ 0 → K X d MX11_hasArgument 28 [(0, vR 64), (1, vR r1), (2, vR p5)] [vI 1] κ6 Q)))))) : K X d MX11_hasArgument 0 [(0, vR 64), (1, vR r1)] [] κ Q := by
  refine K_p (pc2 := 1) (lv2 := [(0, vR 64), (1, vR _)]) (st2 := [vR 64]) (fun ad S Q _ k => V_aload_n (pc2 := 1) (dk D_X11_hasArgument 0 rfl) rfl (V_lg 0 rfl) rfl k) ?_
  refine K_getF kc11 (h' := 67) (pc2 := 4) 1 (by decide) (dk D_X11_hasArgument 1 rfl) fl_11_19 (by decide) (fun _ _ => rfl) rfl (fixH 64 11 (by decide) rfl) (by decide) ?_
  refine K_p (pc2 := 5) (lv2 := [(0, vR 64), (1, vR _)]) (st2 := [vR _, vR 67]) (fun ad S Q _ k => V_aload_n (pc2 := 5) (dk D_X11_hasArgument 2 rfl) rfl (V_lg 1 rfl) rfl k) ?_
  obtain ⟨h1, h⟩ := h
  refine K_getI kc10 (pc2 := 8) 2 (dk D_X11_hasArgument 3 rfl) fl_11_218 (by decide) (fun _ _ => rfl) rfl h1 ?_
  obtain ⟨e2, he3, hc4⟩ := h
  refine K_call (as := [vR 67, vI _]) (st := []) (pc2 := 11) (okL.all _ ⟨(Or.inr ⟨Or.inl ⟨by decide, by decide⟩, by decide⟩), (isH.ok h1 (by decide)), trivial⟩) (okS.all _ trivial) (fun ad S Q Qc hC hc k => V_callV (as := [_]) (st := []) (M' := MX7_at) (ci := 7) (pc2 := 11) (dk D_X11_hasArgument 4 rfl) ml_11_82 mv_X7_at rfl rfl (by decide) rfl (Nat.le_of_ble_eq_true rfl) rfl he3 (hC.k' (fixH 67 7 (by decide) rfl)) hc k) hc4 (kRR.k fun p5 κ6 h mo7 => ?_)
  refine K_p (pc2 := 12) (lv2 := [(0, vR 64), (1, vR _), (2, vR _)]) (st2 := []) (fun ad S Q _ k => V_astore_n (pc2 := 12) (lv2 := [(0, _), (1, _), (2, _)]) (dk D_X11_hasArgument 5 rfl) rfl (by decide) rfl rfl k) ?_
  refine K_p (pc2 := 13) (lv2 := [(0, vR 64), (1, vR _), (2, vR _)]) (st2 := [vR _]) (fun ad S Q _ k => V_aload_n (pc2 := 13) (dk D_X11_hasArgument 6 rfl) rfl (V_lg 2 rfl) rfl k) ?_
  obtain ⟨h9, h⟩ := h
  refine K_ifnull (tgt := 27) (pc2 := 16) (dk D_X11_hasArgument 7 rfl) (by decide) rfl h9 (fun q8 => ?_) (fun q8 => ?_)
  · have h := h.1 q8
    exact h
  · have h := h.2 q8
    refine K_p (pc2 := 17) (lv2 := [(0, vR 64), (1, vR _), (2, vR _)]) (st2 := [vR _]) (fun ad S Q _ k => V_aload_n (pc2 := 17) (dk D_X11_hasArgument 8 rfl) rfl (V_lg 2 rfl) rfl k) ?_
    obtain ⟨h10, h⟩ := h
    refine K_getI kc0 (pc2 := 20) 4 (dk D_X11_hasArgument 9 rfl) fl_11_102 (by decide) (fun _ _ => rfl) rfl h10 ?_
    refine K_if (pa := 27) (pb := 23) (lv2 := [(0, vR 64), (1, vR _), (2, vR _)]) (st2 := []) (fun ad S Q _ k1 k2 => V_ifle (tgt := 27) (pc2 := 23) (dk D_X11_hasArgument 10 rfl) (by decide) rfl (fun q => k1 q) (fun q => k2 q)) (fun q11 => ?_) (fun q11 => ?_)
    · have h := h.1 q11
      exact h
    · have h := h.2 q11
      refine K_p (pc2 := 24) (lv2 := [(0, vR 64), (1, vR _), (2, vR _)]) (st2 := [vI _]) (fun ad S Q _ k => V_iconst (x := 1) (pc2 := 24) (dk D_X11_hasArgument 11 rfl) (by decide) rfl k) ?_
      refine K_p (pc2 := 28) (lv2 := [(0, vR 64), (1, vR _), (2, vR _)]) (st2 := [vI _]) (fun ad S Q _ k => V_goto (tgt := 28) (dk D_X11_hasArgument 12 rfl) (by decide) k) ?_
      exact h
theorem k_11_hasArgument_27 {X : Cx} {d : Nat} {κ : Km} {Q : Res → Km → Prop} (r1 : Nat) (r2 : Nat) (h : K X d MX11_hasArgument 28 [(0, vR 64), (1, vR r1), (2, vR r2)] [vI 0] κ Q) : K X d MX11_hasArgument 27 [(0, vR 64), (1, vR r1), (2, vR r2)] [] κ Q := by
  refine K_p (pc2 := 28) (lv2 := [(0, vR 64), (1, vR _), (2, vR _)]) (st2 := [vI _]) (fun ad S Q _ k => V_iconst (x := 0) (pc2 := 28) (dk D_X11_hasArgument 13 rfl) (by decide) rfl k) ?_
  exact h
theorem k_11_hasArgument_28 {X : Cx} {d : Nat} {κ : Km} {Q : Res → Km → Prop} (r1 : Nat) (r2 : Nat) (t0 : Int32) (h : (t0 = 0 ∨ t0 = 1) ∧ Q (.inl (some (vI t0))) κ) : K X d MX11_hasArgument 28 [(0, vR 64), (1, vR r1), (2, vR r2)] [vI t0] κ Q := by
  obtain ⟨h1, h⟩ := h
  exact K_ret (r := .inl (some (vI _))) (fun ad S Q _ k => V_zreturn (dk D_X11_hasArgument 14 rfl) rfl h1 k) h
theorem k_11_kept_0 {X : Cx} {d : Nat} {κ : Km} {Q : Res → Km → Prop} (r0 : Nat) (x1 : Int32) (x2 : Int32) (h : ((x2 < 0 → K X d MX11_kept 9 [(0, vR r0), (1, vI x1), (2, vI x2)] [] κ Q) ∧ (¬ x2 < 0 → ((x2 ≤ 1 → ((x1 < 0 → K X d MX11_kept 23 [(0, vR r0), (1, vI x1), (2, vI x2)] [] κ Q) ∧ (¬ x1 < 0 → (isH κ r0 4) ∧ ∃ e4 : Nat, e4 + 1 ≤ d ∧ KC' X e4 MX4_kept [vR r0] κ (kRI fun y7 κ9 => ((x1 < y7 → ∃ e12 : Nat, e12 + 1 ≤ d ∧ KC' X e12 MX4_get [vR r0, vI x1, vI x2] κ9 (kRI fun y15 κ16 => K X d MX11_kept 34 [(0, vR r0), (1, vI x1), (2, vI x2)] [vI y15] κ16 Q)) ∧ (¬ x1 < y7 → K X d MX11_kept 23 [(0, vR r0), (1, vI x1), (2, vI x2)] [] κ9 Q)))))) ∧ (¬ x2 ≤ 1 → K X d MX11_kept 9 [(0, vR r0), (1, vI x1), (2, vI x2)] [] κ Q))))) : K X d MX11_kept 0 [(0, vR r0), (1, vI x1), (2, vI x2)] [] κ Q := by
  refine K_p (pc2 := 1) (lv2 := [(0, vR _), (1, vI _), (2, vI _)]) (st2 := [vI _]) (fun ad S Q _ k => V_iload_n (pc2 := 1) (dk D_X11_kept 0 rfl) rfl (V_lg 2 rfl) rfl k) ?_
  refine K_if (pa := 9) (pb := 4) (lv2 := [(0, vR _), (1, vI _), (2, vI _)]) (st2 := []) (fun ad S Q _ k1 k2 => V_iflt (tgt := 9) (pc2 := 4) (dk D_X11_kept 1 rfl) (by decide) rfl (fun q => k1 q) (fun q => k2 q)) (fun q1 => ?_) (fun q1 => ?_)
  · have h := h.1 q1
    exact h
  · have h := h.2 q1
    refine K_p (pc2 := 5) (lv2 := [(0, vR _), (1, vI _), (2, vI _)]) (st2 := [vI _]) (fun ad S Q _ k => V_iload_n (pc2 := 5) (dk D_X11_kept 2 rfl) rfl (V_lg 2 rfl) rfl k) ?_
    refine K_p (pc2 := 6) (lv2 := [(0, vR _), (1, vI _), (2, vI _)]) (st2 := [vI _, vI _]) (fun ad S Q _ k => V_iconst (x := 1) (pc2 := 6) (dk D_X11_kept 3 rfl) (by decide) rfl k) ?_
    refine K_if (pa := 11) (pb := 9) (lv2 := [(0, vR _), (1, vI _), (2, vI _)]) (st2 := []) (fun ad S Q _ k1 k2 => V_cmple (tgt := 11) (pc2 := 9) (dk D_X11_kept 4 rfl) (by decide) rfl (fun q => k1 q) (fun q => k2 q)) (fun q2 => ?_) (fun q2 => ?_)
    · have h := h.1 q2
      refine K_p (pc2 := 12) (lv2 := [(0, vR _), (1, vI _), (2, vI _)]) (st2 := [vI _]) (fun ad S Q _ k => V_iload_n (pc2 := 12) (dk D_X11_kept 7 rfl) rfl (V_lg 1 rfl) rfl k) ?_
      refine K_if (pa := 23) (pb := 15) (lv2 := [(0, vR _), (1, vI _), (2, vI _)]) (st2 := []) (fun ad S Q _ k1 k2 => V_iflt (tgt := 23) (pc2 := 15) (dk D_X11_kept 8 rfl) (by decide) rfl (fun q => k1 q) (fun q => k2 q)) (fun q3 => ?_) (fun q3 => ?_)
      · have h := h.1 q3
        exact h
      · have h := h.2 q3
        refine K_p (pc2 := 16) (lv2 := [(0, vR _), (1, vI _), (2, vI _)]) (st2 := [vI _]) (fun ad S Q _ k => V_iload_n (pc2 := 16) (dk D_X11_kept 9 rfl) rfl (V_lg 1 rfl) rfl k) ?_
        refine K_p (pc2 := 17) (lv2 := [(0, vR _), (1, vI _), (2, vI _)]) (st2 := [vR _, vI _]) (fun ad S Q _ k => V_aload_n (pc2 := 17) (dk D_X11_kept 10 rfl) rfl (V_lg 0 rfl) rfl k) ?_
        obtain ⟨h8, h⟩ := h
        obtain ⟨e4, he5, hc6⟩ := h
        refine K_call (as := [vR _]) (st := [vI _]) (pc2 := 20) (okL.all _ ⟨(isH.ok h8 (by decide)), trivial, trivial, trivial⟩) (okS.all _ ⟨trivial, trivial⟩) (fun ad S Q Qc hC hc k => V_callV (as := []) (st := [_]) (M' := MX4_kept) (ci := 4) (pc2 := 20) (dk D_X11_kept 11 rfl) ml_11_221 mv_X4_kept rfl rfl (by decide) rfl (Nat.le_of_ble_eq_true rfl) rfl he5 (hC.k' h8) hc k) hc6 (kRI.k fun y7 κ9 h mo10 => ?_)
        refine K_if (pa := 28) (pb := 23) (lv2 := [(0, vR _), (1, vI _), (2, vI _)]) (st2 := []) (fun ad S Q _ k1 k2 => V_cmplt (tgt := 28) (pc2 := 23) (dk D_X11_kept 12 rfl) (by decide) rfl (fun q => k1 q) (fun q => k2 q)) (fun q11 => ?_) (fun q11 => ?_)
        · have h := h.1 q11
          refine K_p (pc2 := 29) (lv2 := [(0, vR _), (1, vI _), (2, vI _)]) (st2 := [vR _]) (fun ad S Q _ k => V_aload_n (pc2 := 29) (dk D_X11_kept 15 rfl) rfl (V_lg 0 rfl) rfl k) ?_
          refine K_p (pc2 := 30) (lv2 := [(0, vR _), (1, vI _), (2, vI _)]) (st2 := [vI _, vR _]) (fun ad S Q _ k => V_iload_n (pc2 := 30) (dk D_X11_kept 16 rfl) rfl (V_lg 1 rfl) rfl k) ?_
          refine K_p (pc2 := 31) (lv2 := [(0, vR _), (1, vI _), (2, vI _)]) (st2 := [vI _, vI _, vR _]) (fun ad S Q _ k => V_iload_n (pc2 := 31) (dk D_X11_kept 17 rfl) rfl (V_lg 2 rfl) rfl k) ?_
          obtain ⟨e12, he13, hc14⟩ := h
          refine K_call (as := [vR _, vI _, vI _]) (st := []) (pc2 := 34) (okL.all _ ⟨(isH.ok (isH.mo h8 (by decide) mo10) (by decide)), trivial, trivial, trivial⟩) (okS.all _ trivial) (fun ad S Q Qc hC hc k => V_callV (as := [_, _]) (st := []) (M' := MX4_get) (ci := 4) (pc2 := 34) (dk D_X11_kept 18 rfl) ml_11_223 mv_X4_get rfl rfl (by decide) rfl (Nat.le_of_ble_eq_true rfl) rfl he13 (hC.k' (isH.mo h8 (by decide) mo10)) hc k) hc14 (kRI.k fun y15 κ16 h mo17 => ?_)
          exact h
        · have h := h.2 q11
          exact h
    · have h := h.2 q2
      exact h
theorem k_11_kept_9 {X : Cx} {d : Nat} {κ : Km} {Q : Res → Km → Prop} (r0 : Nat) (x1 : Int32) (x2 : Int32) (h : Q (.inl (some (vI (-1)))) κ) : K X d MX11_kept 9 [(0, vR r0), (1, vI x1), (2, vI x2)] [] κ Q := by
  refine K_p (pc2 := 10) (lv2 := [(0, vR _), (1, vI _), (2, vI _)]) (st2 := [vI _]) (fun ad S Q _ k => V_iconst (x := (-1)) (pc2 := 10) (dk D_X11_kept 5 rfl) (by decide) rfl k) ?_
  exact K_ret (r := .inl (some (vI _))) (fun ad S Q _ k => V_ireturn (dk D_X11_kept 6 rfl) rfl k) h
theorem k_11_kept_23 {X : Cx} {d : Nat} {κ : Km} {Q : Res → Km → Prop} (r0 : Nat) (x1 : Int32) (x2 : Int32) (h : K X d MX11_kept 34 [(0, vR r0), (1, vI x1), (2, vI x2)] [vI (-9)] κ Q) : K X d MX11_kept 23 [(0, vR r0), (1, vI x1), (2, vI x2)] [] κ Q := by
  refine K_p (pc2 := 25) (lv2 := [(0, vR _), (1, vI _), (2, vI _)]) (st2 := [vI _]) (fun ad S Q _ k => V_bipush (x := (-9)) (pc2 := 25) (dk D_X11_kept 13 rfl) (by decide) rfl k) ?_
  refine K_p (pc2 := 34) (lv2 := [(0, vR _), (1, vI _), (2, vI _)]) (st2 := [vI _]) (fun ad S Q _ k => V_goto (tgt := 34) (dk D_X11_kept 14 rfl) (by decide) k) ?_
  exact h
theorem k_11_kept_34 {X : Cx} {d : Nat} {κ : Km} {Q : Res → Km → Prop} (r0 : Nat) (x1 : Int32) (x2 : Int32) (t0 : Int32) (h : Q (.inl (some (vI t0))) κ) : K X d MX11_kept 34 [(0, vR r0), (1, vI x1), (2, vI x2)] [vI t0] κ Q := by
  exact K_ret (r := .inl (some (vI _))) (fun ad S Q _ k => V_ireturn (dk D_X11_kept 19 rfl) rfl k) h
